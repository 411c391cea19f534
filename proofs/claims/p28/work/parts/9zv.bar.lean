/-! THE BLOCK AROUND A PLACE, by the model -/
def R_a (a : Nat) : Prop := a = 1766
def bl (ar : Nat → Int32) : Nat → Int32
  | 0 => Int32.ofInt (-1)
  | n + 1 => if ar n = Int32.ofInt (-1) then bl ar n else ar n
def bch (b : Int32) : Int32 := if b = Int32.ofInt (-1) then Int32.ofInt (-1) else b + nI 48
def bD (b : Int32) : Prop := b = Int32.ofInt (-1) ∨ ∃ g, g < 10 ∧ b = nI g
theorem bl_c {ar ar' : Nat → Int32} : ∀ {n : Nat}, (∀ i, i < n → ar' i = ar i) → bl ar' n = bl ar n
  | 0, _ => rfl
  | n + 1, h => by
    unfold bl
    rw [h n (Nat.lt_succ_self n), bl_c (fun i hi => h i (by omega))]
/-- the scan at a place -/
def ba (Gm : mj_G) (d T to : Nat) (K : Int32 → mm_F → Prop) (dp : Nat) (f : mm_F) (k : Nat) : Prop := m_blockAround_5 Gm (d + 1) (nI T) (nI to) (nI dp) (nI k) f K
section ZV
variable {Gm G : mj_G} {f f' : mm_F} {T to d dp k n : Nat} {w : Nat → Nat} {K : Int32 → mm_F → Prop} {A : Nat → Prop} {hm : Int32}
theorem mt_a (hT : mt_T f T w n) (F : mw no_R no_R R_a f f') : mt_T f' T w n := mt_o hT (fun k => F.1 _ k (by decide) (by decide) (by unfold R_a; decide)) (fun k => F.1 _ k (by decide) (by decide) (by unfold R_a; decide))
theorem ba_s1 (hM : mm_S Gm) (hd : 15 ≤ d) (hT : mt_T f T w n) (hk : k < to) (hto : to ≤ 80) (hkn : k < n) (h : w k ≠ 123) (hK : ba Gm d T to K dp f (k + 1)) : ba Gm d T to K dp f k := by
  refine w_m_blockAround_5 hM hd (z_bf (by rw [z_le (by omega) (by omega)]; omega) (c_letter hM hT (by omega) ?_))
  have hw := tx_le hT.2.1 k
  rw [tx_nxi hkn]
  refine z_bf (by rw [z_eq (by omega) (by omega)]; exact h) ?_
  rw [z_add]
  exact hK
theorem ba_s2 (hM : mm_S Gm) (hd : 15 ≤ d) (hT : mt_T f T w n) (hk : k < to) (hto : to ≤ 80) (hkn : k + 1 < n) (h : w k = 123) (hN : ¬ tx_B (w (k + 1)) → ¬ w (k + 1) = 59 → ba Gm d T to K dp f (k + 1)) (hC : w (k + 1) = 59 → 1 ≤ dp ∧ ba Gm d T to K (dp - 1) f (k + 1)) (hB : tx_B (w (k + 1)) → dp < 40 ∧ (w (k + 1) = 35 → k + 2 < n) ∧ ba Gm d T to K (dp + 1) (mj_u2 f 1766 dp (if w (k + 1) = 35 then nI (w (k + 2)) else Int32.ofInt (-1))) (k + 1)) : ba Gm d T to K dp f k := by
  refine w_m_blockAround_5 hM hd (z_bf (by rw [z_le (by omega) (by omega)]; omega) (c_letter hM hT (by omega) ?_))
  have hw := tx_le hT.2.1 (k + 1)
  rw [tx_nxi (by omega), h]
  refine z_bt rfl ?_
  rw [z_add]
  refine c_letter hM hT (by omega) ?_
  rw [tx_nxi hkn, z_13070 (by omega)]
  refine z_br (fun b => ?_) (fun b => ?_)
  · obtain ⟨b1, b2, b3⟩ := hB b
    have h59 : ¬ nI (w (k + 1)) = nI 59 := by
      rw [z_eq (by omega) (by omega)]
      unfold tx_B at b
      omega
    rw [z_eq (by omega) (by omega)]
    refine z_br (fun c => ?_) (fun c => ?_)
    · rw [show nI k + nI 2 = nI (k + 2) from z_add k 2]
      refine c_letter hM hT (by omega) (z_ixi b1 (by omega) (z_bf h59 ?_))
      rw [tx_nxi (b2 c), z_add, z_sub (Nat.zero_le _), Nat.sub_zero]
      rw [if_pos c] at b3
      exact b3
    · refine z_ixi b1 (by omega) (z_bf h59 ?_)
      rw [z_add, z_sub (Nat.zero_le _), Nat.sub_zero]
      rw [if_neg c] at b3
      exact b3
  · rw [z_eq (by omega) (by omega)]
    refine z_br (fun c => ?_) (fun c => ?_)
    · obtain ⟨c1, c2⟩ := hC c
      rw [z_sub c1]
      exact c2
    · rw [z_sub (Nat.zero_le _), Nat.sub_zero]
      exact hN b c
theorem ba_sk (hM : mm_S Gm) (hd : 15 ≤ d) (hT : mt_T f T w n) (hto : to ≤ 80) {e : Nat} (he : e ≤ to) (hen : e ≤ n) (hK : ba Gm d T to K dp f e) : ∀ {m k : Nat}, k + m = e → tx_M w k e → ba Gm d T to K dp f k
  | 0, k, hk, _ => by
    have : k = e := hk
    rw [this]
    exact hK
  | m + 1, k, hk, hm => ba_s1 hM hd hT (by omega) hto (by omega) (hm k (Nat.le_refl _) (by omega)) (ba_sk hM hd hT hto he hen hK (m := m) (by omega) (fun j a b => hm j (by omega) b))
/-- an end or a turn passed -/
theorem ba_x (hM : mm_S Gm) (hd : 15 ≤ d) (hT : mt_T f T w n) (hto : to ≤ 80) {q1 : Nat} (h0 : w q1 = 123) (h1 : w (q1 + 1) = 58 ∨ w (q1 + 1) = 59) (h2 : w (q1 + 2) = 125) (hq : q1 + 3 ≤ to) (h58 : w (q1 + 1) = 58 → ba Gm d T to K dp f (q1 + 3)) (h59 : w (q1 + 1) = 59 → 1 ≤ dp ∧ ba Gm d T to K (dp - 1) f (q1 + 3)) : ba Gm d T to K dp f q1 := by
  have hn2 : q1 + 2 < n := tx_in hT.2.1 (by omega)
  have sk : tx_M w (q1 + 1) (q1 + 3) := fun j a b => by
    have hj : j = q1 + 1 ∨ j = q1 + 2 := by omega
    rcases hj with rfl | rfl
    · omega
    · omega
  refine ba_s2 hM hd hT (by omega) hto (by omega) h0 (fun a b => ?_) (fun c => ?_) (fun b => ?_)
  · exact ba_sk hM hd hT hto hq (by omega) (h58 (by omega)) (m := 2) rfl sk
  · obtain ⟨c1, c2⟩ := h59 c
    exact ⟨c1, ba_sk hM hd hT hto hq (by omega) c2 (m := 2) rfl sk⟩
  · unfold tx_B at b
    omega
/-- a head passed -/
theorem ba_h (hM : mm_S Gm) (hd : 15 ≤ d) (hT : mt_T f T w n) (hto : to ≤ 80) {b : Int32} {r p e : Nat} (hp : w p = 123) (hTt : tx_T (w (p + 1))) (hH : tb_h A G r b w p e) (h125 : w e = 125) (he : p + 2 ≤ e) (heo : e + 1 ≤ to) (hdp : 2 * dp ≤ p) (hN : ¬ tx_B (w (p + 1)) → ba Gm d T to K dp f (e + 1)) (hB : tx_B (w (p + 1)) → ba Gm d T to K (dp + 1) (mj_u2 f 1766 dp (if w (p + 1) = 35 then nI (w (p + 2)) else Int32.ofInt (-1))) (e + 1)) : ba Gm d T to K dp f p := by
  have hen : e < n := tx_in hT.2.1 (by omega)
  have hsk := tb_sk hH h125
  refine ba_s2 hM hd hT (by omega) hto (by omega) hp (fun b _ => ?_) (fun c => ?_) (fun b => ⟨by omega, fun _ => by omega, ?_⟩)
  · exact ba_sk hM hd hT hto heo (by omega) (hN b) (m := e - p) (by omega) hsk
  · unfold tx_T at hTt
    omega
  · have F : mw no_R no_R R_a f (mj_u2 f 1766 dp (if w (p + 1) = 35 then nI (w (p + 2)) else Int32.ofInt (-1))) := mw_R (by decide) rfl
    exact ba_sk hM hd (mt_a hT F) hto heo (by omega) (hB b) (m := e - p) (by omega) hsk
/-- a whole body passed -/
theorem ba_w1 (hM : mm_S Gm) (hd : 15 ≤ d) (hto : to ≤ 80) : ∀ {kk : Nat} {b : Int32} {r p q : Nat} {L : List (Nat × Nat)}, tb_B kk A G hm b r w p q L → q ≤ to → ∀ (dp : Nat) (f : mm_F), 2 * dp ≤ p → mt_T f T w n → (∀ f', mw no_R no_R R_a f f' → (∀ i, i < dp → f' 1766 i = f 1766 i) → ba Gm d T to K dp f' q) → ba Gm d T to K dp f p
  | 0, _, _, _, _, _, h, _ => h.elim
  | kk + 1, b, r, p, q, L, h, hq => by
    intro dp f hdp hT hK
    have hW := hT.2.1
    rcases h with ⟨-, rfl, -⟩ | ⟨-, -, -, -, -, a1, -, a0, -, -, h⟩ | ⟨-, -, -, -, -, a1, aT, -, e, m, L1, L2, he, hH, h125, -, h13, h14⟩
    · exact hK f mw_r (fun _ _ => rfl)
    · have hl := tb_le h
      exact ba_s1 hM hd hT (by omega) hto (tx_in hW a0) a1 (ba_w1 hM hd hto h hq _ _ (by omega) hT hK)
    · have hl := tb_le h13
      have F : mw no_R no_R R_a f (mj_u2 f 1766 dp (if w (p + 1) = 35 then nI (w (p + 2)) else Int32.ofInt (-1))) := mw_R (by decide) rfl
      have lo : ∀ i, i < dp → (mj_u2 f 1766 dp (if w (p + 1) = 35 then nI (w (p + 2)) else Int32.ofInt (-1))) 1766 i = f 1766 i := fun i hi => z_u2m (by omega)
      have rest : ∀ f', mw no_R no_R R_a f f' → (∀ i, i < dp → f' 1766 i = f 1766 i) → p + 3 ≤ m → ba Gm d T to K dp f' m := fun f' F' l' hpm => ba_w1 hM hd hto h13 hq _ _ (by omega) (mt_a hT F') (fun f2 F2 l2 => hK f2 (mw_t F' F2) (fun i hi => (l2 i hi).trans (l' i hi)))
      rcases h14 with ⟨nb, rfl, -⟩ | ⟨yb, n43, -, q1, b2, b3, b4, b5, rfl⟩ | ⟨yb, q1, q2, La, Lb, b2, b3, b4, b5, b6, b7, b8, b9, rfl, -⟩
      · exact ba_h hM hd hT hto a1 aT hH h125 he (Nat.le_trans hl hq) hdp (fun _ => rest f mw_r (fun _ _ => rfl) (by omega)) (fun q => absurd q nb)
      · have l1 := tb_le b2
        refine ba_h hM hd hT hto a1 aT hH h125 he (by omega) hdp (fun q => absurd yb q) (fun _ => ?_)
        refine ba_w1 hM hd hto b2 (by omega) _ _ (by omega) (mt_a hT F) (fun f2 F2 l2 => ?_)
        exact ba_x hM hd (mt_a hT (mw_t F F2)) hto b3 (Or.inr b4) b5 (by omega) (fun q => by omega) (fun _ => ⟨Nat.succ_le_succ (Nat.zero_le _), rest f2 (mw_t F F2) (fun i hi => (l2 i (by omega)).trans (lo i hi)) (by omega)⟩)
      · have l1 := tb_le b2
        have l2 := tb_le b6
        have yb' : tx_B (w (p + 1)) := by unfold tx_B; omega
        refine ba_h hM hd hT hto a1 aT hH h125 he (by omega) hdp (fun q => absurd yb' q) (fun _ => ?_)
        refine ba_w1 hM hd hto b2 (by omega) _ _ (by omega) (mt_a hT F) (fun f2 F2 l2 => ?_)
        refine ba_x hM hd (mt_a hT (mw_t F F2)) hto b3 (Or.inl b4) b5 (by omega) (fun _ => ?_) (fun q => by omega)
        refine ba_w1 hM hd hto b6 (by omega) _ _ (by omega) (mt_a hT (mw_t F F2)) (fun f3 F3 l3 => ?_)
        exact ba_x hM hd (mt_a hT (mw_t F (mw_t F2 F3))) hto b7 (Or.inr b8) b9 (by omega) (fun q => by omega) (fun _ => ⟨Nat.succ_le_succ (Nat.zero_le _), rest f3 (mw_t F (mw_t F2 F3)) (fun i hi => (l3 i (by omega)).trans ((l2 i (by omega)).trans (lo i hi))) (by omega)⟩)
theorem ba_92 (hM : mm_S Gm) : ∀ {dp : Nat}, dp ≤ 40 → K (bl (f 1766) dp) f → m_blockAround_92 Gm (d + 1) (nI dp) f K
  | 0, _, h => w_m_blockAround_92 hM (z_bt (by decide) (z_bt rfl h))
  | dp + 1, h40, h => by
    refine w_m_blockAround_92 hM (z_bf (by rw [z_le (by omega) (by omega)]; omega) ?_)
    rw [z_sub (by omega), Nat.add_sub_cancel, sh_p, sh_s]
    refine z_ixi (by omega) (by omega) (z_br (fun q => ?_) (fun q => ?_))
    · refine ba_92 hM (by omega) ?_
      unfold bl at h
      rw [if_pos q] at h
      exact h
    · unfold bl at h
      rw [if_neg q] at h
      exact z_bf (by rw [z_eq (by omega) (by omega)]; omega) (z_ixi (by omega) (by omega) h)
/-- where tags lie -/
theorem tb_pl : ∀ {kk : Nat} {b : Int32} {r p q : Nat} {L : List (Nat × Nat)}, tb_B kk A G hm b r w p q L → ∀ x, x ∈ L → p ≤ x.1 ∧ x.1 < q
  | 0, _, _, _, _, _, h => h.elim
  | kk + 1, b, r, p, q, L, h => by
    rcases h with ⟨-, -, rfl⟩ | ⟨-, -, -, -, -, -, -, -, -, -, h⟩ | ⟨-, -, -, -, -, -, -, -, e, m, L1, L2, he, -, -, rfl, h13, h14⟩
    · exact fun x hx => nomatch hx
    · intro x hx
      have := tb_pl h x hx
      omega
    · have hl := tb_le h13
      intro x hx
      have hpm : p < m := by
        rcases h14 with ⟨-, rfl, -⟩ | ⟨-, -, -, q1, a2, -, -, -, rfl⟩ | ⟨-, q1, q2, La, Lb, a2, -, -, -, a6, -, -, -, rfl, -⟩
        · omega
        · have := tb_le a2
          omega
        · have := tb_le a2
          have := tb_le a6
          omega
      rcases List.mem_cons.mp hx with rfl | hx
      · exact ⟨Nat.le_refl _, by show p < q; omega⟩
      · rcases List.mem_append.mp hx with hx | hx
        · rcases h14 with ⟨-, -, rfl, -⟩ | ⟨-, -, -, q1, a2, -, -, -, rfl⟩ | ⟨-, q1, q2, La, Lb, a2, -, -, -, a6, -, -, -, rfl, rfl⟩
          · exact nomatch hx
          · have := tb_pl a2 x hx
            omega
          · have l1 := tb_le a2
            have l2 := tb_le a6
            rcases List.mem_append.mp hx with hx | hx
            · have := tb_pl a2 x hx
              omega
            · have := tb_pl a6 x hx
              omega
        · have := tb_pl h13 x hx
          omega
/-- the scan up to a tag -/
theorem ba_w2 (hM : mm_S Gm) (hd : 15 ≤ d) (hto : to ≤ 80) {r0 : Nat} (h94 : w (to + 1) = 94) : ∀ {kk : Nat} {b : Int32} {r p q : Nat} {L : List (Nat × Nat)}, tb_B kk A G hm b r w p q L → (to, r0) ∈ L → bD b → bD (mj_i G r0 3) ∧ ∀ {dp : Nat} {f : mm_F}, 2 * dp ≤ p → mt_T f T w n → bl (f 1766) dp = bch b → (∀ f', mw no_R no_R R_a f f' → K (bch (mj_i G r0 3)) f') → ba Gm d T to K dp f p
  | 0, _, _, _, _, _, h, _, _ => h.elim
  | kk + 1, b, r, p, q, L, h, hx, hb => by
    rcases h with ⟨-, -, rfl⟩ | ⟨-, -, -, -, -, a1, -, a0, -, -, h⟩ | ⟨-, -, -, -, -, a1, aT, -, e, m, L1, L2, he, hH, h125, rfl, h13, h14⟩
    · exact nomatch hx
    · obtain ⟨i1, i2⟩ := ba_w2 hM hd hto h94 h hx hb
      have hpl := tb_pl h _ hx
      refine ⟨i1, fun hdp hT hbl hK => ?_⟩
      exact ba_s1 hM hd hT (by omega) hto (tx_in hT.2.1 a0) a1 (i2 (by omega) hT hbl hK)
    · rcases List.mem_cons.mp hx with hx | hx
      · -- here
        obtain ⟨rfl, rfl⟩ := Prod.mk.inj hx
        have h3 : mj_i G r0 3 = b := by
          rcases hH with ⟨g, -⟩ | ⟨g, -⟩ | ⟨g, -⟩ | ⟨g, -⟩ | ⟨g, -⟩ | ⟨-, -, g, -⟩ | ⟨g, -⟩ | ⟨g, -⟩
          any_goals omega
        rw [h3]
        refine ⟨hb, fun {dp f} hdp hT hbl hK => ?_⟩
        refine w_m_blockAround_5 hM hd (z_bt (by rw [z_le (by omega) (by omega)]; exact Nat.le_refl _) (ba_92 hM (by omega) ?_))
        rw [hbl]
        exact hK f mw_r
      · have bB : tx_B (w (p + 1)) → bD (if w (p + 1) = 35 then mj_i G r 3 else b) := fun _ => by
          by_cases c : w (p + 1) = 35
          · rw [if_pos c]
            rcases hH with ⟨g, -⟩ | ⟨g, -⟩ | ⟨g, -⟩ | ⟨-, g2, -, g4, -⟩ | ⟨g, -⟩ | ⟨g, -⟩ | ⟨g, -⟩ | ⟨g, -⟩
            any_goals omega
            unfold tx_D at g2
            exact Or.inr ⟨w (p + 2) - 48, by omega, g4⟩
          · rw [if_neg c]
            exact hb
        -- the block within a body
        have bl1 : ∀ {dp : Nat} {f : mm_F}, bl (f 1766) dp = bch b → bl ((mj_u2 f 1766 dp (if w (p + 1) = 35 then nI (w (p + 2)) else Int32.ofInt (-1))) 1766) (dp + 1) = bch (if w (p + 1) = 35 then mj_i G r 3 else b) := fun {dp f} hbl => by
          have e0 : (mj_u2 f 1766 dp (if w (p + 1) = 35 then nI (w (p + 2)) else Int32.ofInt (-1))) 1766 dp = (if w (p + 1) = 35 then nI (w (p + 2)) else Int32.ofInt (-1)) := z_u2s
          unfold bl
          rw [e0]
          by_cases c : w (p + 1) = 35
          · rw [if_pos c, if_pos c]
            have hg : tx_D (w (p + 2)) ∧ mj_i G r 3 = nI (w (p + 2) - 48) := by
              rcases hH with ⟨g, -⟩ | ⟨g, -⟩ | ⟨g, -⟩ | ⟨-, g2, -, g4, -⟩ | ⟨g, -⟩ | ⟨g, -⟩ | ⟨g, -⟩ | ⟨g, -⟩
              any_goals omega
              exact ⟨g2, g4⟩
            obtain ⟨g2, g4⟩ := hg
            unfold tx_D at g2
            rw [if_neg (z_m1n (by omega)), g4]
            unfold bch
            rw [if_neg (z_m1n (by omega)), z_add, Nat.sub_add_cancel (by omega)]
          · rw [if_neg c, if_neg c, if_pos rfl, bl_c (fun i hi => z_u2m (by omega))]
            exact hbl
        rcases List.mem_append.mp hx with hx | hx
        · -- in a body of the tag
          rcases h14 with ⟨-, -, rfl, -⟩ | ⟨yb, n43, -, q1, b2, b3, b4, b5, rfl⟩ | ⟨yb, q1, q2, La, Lb, b2, b3, b4, b5, b6, b7, b8, b9, rfl, rfl⟩
          · exact nomatch hx
          · obtain ⟨i1, i2⟩ := ba_w2 hM hd hto h94 b2 hx (bB yb)
            have hpl := tb_pl b2 _ hx
            refine ⟨i1, fun {dp f} hdp hT hbl hK => ?_⟩
            have F : mw no_R no_R R_a f (mj_u2 f 1766 dp (if w (p + 1) = 35 then nI (w (p + 2)) else Int32.ofInt (-1))) := mw_R (by decide) rfl
            exact ba_h hM hd hT hto a1 aT hH h125 he (by have := hpl.1; omega) hdp (fun q => absurd yb q) (fun _ => i2 (by omega) (mt_a hT F) (bl1 hbl) (fun f' F' => hK f' (mw_t F F')))
          · have yb' : tx_B (w (p + 1)) := by unfold tx_B; omega
            have n35 : ¬ w (p + 1) = 35 := by omega
            have bB' := bB yb'
            rw [if_neg n35] at bB'
            have l1 := tb_le b2
            rcases List.mem_append.mp hx with hx | hx
            · obtain ⟨i1, i2⟩ := ba_w2 hM hd hto h94 b2 hx bB'
              have hpl := tb_pl b2 _ hx
              refine ⟨i1, fun {dp f} hdp hT hbl hK => ?_⟩
              have F : mw no_R no_R R_a f (mj_u2 f 1766 dp (if w (p + 1) = 35 then nI (w (p + 2)) else Int32.ofInt (-1))) := mw_R (by decide) rfl
              exact ba_h hM hd hT hto a1 aT hH h125 he (by have := hpl.1; omega) hdp (fun q => absurd yb' q) (fun _ => i2 (by omega) (mt_a hT F) ((bl1 hbl).trans (congrArg bch (if_neg n35))) (fun f' F' => hK f' (mw_t F F')))
            · obtain ⟨i1, i2⟩ := ba_w2 hM hd hto h94 b6 hx bB'
              have hpl := tb_pl b6 _ hx
              refine ⟨i1, fun {dp f} hdp hT hbl hK => ?_⟩
              have F : mw no_R no_R R_a f (mj_u2 f 1766 dp (if w (p + 1) = 35 then nI (w (p + 2)) else Int32.ofInt (-1))) := mw_R (by decide) rfl
              refine ba_h hM hd hT hto a1 aT hH h125 he (by have := hpl.1; omega) hdp (fun q => absurd yb' q) (fun _ => ?_)
              refine ba_w1 hM hd hto b2 (by have := hpl.1; omega) _ _ (by omega) (mt_a hT F) (fun f2 F2 l2 => ?_)
              refine ba_x hM hd (mt_a hT (mw_t F F2)) hto b3 (Or.inl b4) b5 (by have := hpl.1; omega) (fun _ => ?_) (fun q => by omega)
              exact i2 (by omega) (mt_a hT (mw_t F F2)) ((bl_c (fun i hi => l2 i hi)).trans ((bl1 hbl).trans (congrArg bch (if_neg n35)))) (fun f' F' => hK f' (mw_t F (mw_t F2 F')))
        · -- behind the tag
          obtain ⟨i1, i2⟩ := ba_w2 hM hd hto h94 h13 hx hb
          have hpl := (tb_pl h13 _ hx).1
          refine ⟨i1, fun {dp f} hdp hT hbl hK => ?_⟩
          have F : mw no_R no_R R_a f (mj_u2 f 1766 dp (if w (p + 1) = 35 then nI (w (p + 2)) else Int32.ofInt (-1))) := mw_R (by decide) rfl
          have lo : ∀ i, i < dp → (mj_u2 f 1766 dp (if w (p + 1) = 35 then nI (w (p + 2)) else Int32.ofInt (-1))) 1766 i = f 1766 i := fun i hi => z_u2m (by omega)
          have rest : ∀ f', mw no_R no_R R_a f f' → (∀ i, i < dp → f' 1766 i = f 1766 i) → p + 3 ≤ m → ba Gm d T to K dp f' m := fun f' F' l' hpm => i2 (by omega) (mt_a hT F') ((bl_c l').trans hbl) (fun f2 F2 => hK f2 (mw_t F' F2))
          have hpl' : m ≤ to := hpl
          rcases h14 with ⟨nb, rfl, -⟩ | ⟨yb, n43, -, q1, b2, b3, b4, b5, rfl⟩ | ⟨yb, q1, q2, La, Lb, b2, b3, b4, b5, b6, b7, b8, b9, rfl, -⟩
          · exact ba_h hM hd hT hto a1 aT hH h125 he hpl' hdp (fun _ => rest f mw_r (fun _ _ => rfl) (by omega)) (fun q => absurd q nb)
          · have l1 := tb_le b2
            refine ba_h hM hd hT hto a1 aT hH h125 he (by omega) hdp (fun q => absurd yb q) (fun _ => ?_)
            refine ba_w1 hM hd hto b2 (by omega) _ _ (by omega) (mt_a hT F) (fun f2 F2 l2 => ?_)
            exact ba_x hM hd (mt_a hT (mw_t F F2)) hto b3 (Or.inr b4) b5 (by omega) (fun q => by omega) (fun _ => ⟨Nat.succ_le_succ (Nat.zero_le _), rest f2 (mw_t F F2) (fun i hi => (l2 i (by omega)).trans (lo i hi)) (by omega)⟩)
          · have l1 := tb_le b2
            have l2' := tb_le b6
            have yb' : tx_B (w (p + 1)) := by unfold tx_B; omega
            refine ba_h hM hd hT hto a1 aT hH h125 he (by omega) hdp (fun q => absurd yb' q) (fun _ => ?_)
            refine ba_w1 hM hd hto b2 (by omega) _ _ (by omega) (mt_a hT F) (fun f2 F2 l2 => ?_)
            refine ba_x hM hd (mt_a hT (mw_t F F2)) hto b3 (Or.inl b4) b5 (by omega) (fun _ => ?_) (fun q => by omega)
            refine ba_w1 hM hd hto b6 (by omega) _ _ (by omega) (mt_a hT (mw_t F F2)) (fun f3 F3 l3 => ?_)
            exact ba_x hM hd (mt_a hT (mw_t F (mw_t F2 F3))) hto b7 (Or.inr b8) b9 (by omega) (fun q => by omega) (fun _ => ⟨Nat.succ_le_succ (Nat.zero_le _), rest f3 (mw_t F (mw_t F2 F3)) (fun i hi => (l3 i (by omega)).trans ((l2 i (by omega)).trans (lo i hi))) (by omega)⟩)
/-- the block around a tag of a template -/
theorem p_blockAround {u : wo} {r0 : Nat} (hM : mm_S Gm) (hu : uP u) (hT10 : T < 10) (hT : mt_T f T (u_w u T) (u_n u T)) (hx : (to, r0) ∈ u_L u T) (h94 : u_w u T (to + 1) = 94) (hd : 15 ≤ d) (hK : ∀ f', mw no_R no_R R_a f f' → K (bch (mj_i (u_G u) r0 3)) f') : bD (mj_i (u_G u) r0 3) ∧ m_blockAround Gm (d + 1) (nI T) (nI to) f K := by
  obtain ⟨hW, -, s, k, hP, hB⟩ := hu.2.2.2 T hT10
  have hpl := tb_pl hB _ hx
  have hn := hW.1
  obtain ⟨i1, i2⟩ := ba_w2 (d := d) (K := K) (T := T) (n := u_n u T) hM hd (by omega) h94 hB hx (Or.inl rfl)
  refine ⟨i1, w_m_blockAround hM ?_⟩
  have h1 : ba Gm d T to K 0 f s := i2 (dp := 0) (by omega) hT rfl hK
  rcases hP with ⟨rfl, -⟩ | ⟨rfl, p1, p2, p3, p4, -⟩
  · exact h1
  · have h3 : 3 < u_n u T := tx_in hW (by omega)
    unfold tx_D at p3
    have hto4 : 4 ≤ to := hpl.1
    have b3 : ba Gm d T to K 0 f 3 := ba_s1 hM hd hT (by omega) (by omega) h3 (by omega) h1
    have b2 : ba Gm d T to K 0 f 2 := ba_s1 hM hd hT (by omega) (by omega) (by omega) (by omega) b3
    have b1 : ba Gm d T to K 0 f 1 := ba_s1 hM hd hT (by omega) (by omega) (by omega) (by omega) b2
    refine ba_s2 hM hd hT (by omega) (by omega) (by omega) p1 (fun _ _ => b1) (fun q => ?_) (fun b => ?_)
    · have q' : u_w u T 1 = 59 := q
      omega
    · have b' : tx_B (u_w u T 1) := b
      unfold tx_B at b'
      omega
end ZV
