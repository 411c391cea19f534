/-! RENDERING: steps paid; lines laid -/
/-- n places below n hold one twice -/
theorem pg_n : ∀ {n : Nat} {c : Nat → Nat}, (∀ i, i < n + 1 → c i < n) → ∃ i j, i < j ∧ j < n + 1 ∧ c i = c j
  | 0, c, h => absurd (h 0 (by decide)) (Nat.not_lt_zero _)
  | n + 1, c, h => by
    by_cases q : ∃ i, i < n + 1 ∧ c i = c (n + 1)
    · obtain ⟨i, h1, h2⟩ := q
      exact ⟨i, n + 1, h1, by omega, h2⟩
    · -- the greatest value is put where the last one's was
      have hne : ∀ i, i < n + 1 → c i ≠ c (n + 1) := fun i hi e => q ⟨i, hi, e⟩
      obtain ⟨i, j, h1, h2, h3⟩ := pg_n (n := n) (c := fun i => if c i = n then c (n + 1) else c i) (fun i hi => by
        show (if c i = n then c (n + 1) else c i) < n
        have a1 := h i (by omega)
        have a2 := h (n + 1) (by omega)
        have a3 := hne i hi
        by_cases e : c i = n
        · rw [if_pos e]; omega
        · rw [if_neg e]; omega)
      refine ⟨i, j, h1, by omega, ?_⟩
      have h3' : (if c i = n then c (n + 1) else c i) = (if c j = n then c (n + 1) else c j) := h3
      have a3 := hne i (by omega)
      have a4 := hne j (by omega)
      by_cases e1 : c i = n
      · by_cases e2 : c j = n
        · omega
        · rw [if_pos e1, if_neg e2] at h3'
          exact absurd h3'.symm a4
      · by_cases e2 : c j = n
        · rw [if_neg e1, if_pos e2] at h3'
          exact absurd h3' a3
        · rw [if_neg e1, if_neg e2] at h3'
          exact h3'
section LI
variable {ρ : Nat → Nat} {D : Nat → rv} {I : Nat → Nat → rv} {G Gm : mj_G} {f : mm_F} {d st bu : Nat}
theorem c_pay {K : Bool → mj_G → Prop} (h : hh ρ D I G) (h7 : mj_i G 6 7 = nI st) (h6 : mj_i G 6 6 = nI bu) (hb : bu ≤ 2000) (hs : st ≤ bu) (h1 : st < bu → ∀ G', hh ρ D I G' → fw ρ (fun o => o = 6) G G' → (∀ j, j ≠ 7 → mj_i G' 6 j = mj_i G 6 j) → mj_i G' 6 7 = nI (st + 1) → (∀ j, mj_r G' 6 j = mj_r G 6 j) → K true G') (h2 : st = bu → K false G) : Rn_pay d G K := by
  refine w_Rn_pay h.1 ?_
  rw [h7, h6, z_lt (by omega) (by omega), z_add]
  refine z_br (fun q => ?_) (fun q => h2 (by omega))
  rintro _ rfl
  have hk : mj_k G 6 ≠ 12 := by rw [cs_k (K := 9) h.1 rfl]; decide
  exact h1 q _ (hh_I h (by unfold imm; rw [ow_s (by decide)]; unfold im_o; omega) (fun _ q => absurd q hk)) (fw_I (ow_s (by decide))) (fun j hj => z_iIm hj) z_iIs (fun _ => rfl)
theorem p_pays {K : mm_F → Prop} (hM : mm_S Gm) (h68 : f 1714 68 = nI st) (h67 : f 1714 67 = nI bu) (hb : bu ≤ 2000) (hs : st ≤ bu) (h1 : st < bu → ∀ f', mw no_R (fun j => j = 68) no_R f f' → f' 1714 68 = nI (st + 1) → K f') (h2 : st = bu → ∀ f', mw no_R (fun j => j = 70) no_R f f' → f' 1714 70 = Int32.ofInt (-9) → K f') : m_pays Gm d f K := by
  refine w_m_pays hM ?_
  rw [h68, h67, z_eq (by omega) (by omega), z_add]
  exact z_br (fun q => h2 q _ (mw_S rfl) z_u2s) (fun q => h1 (by omega) _ (mw_S rfl) z_u2s)
/-- a line from a template on: pa tells of parents, 0 for none, and t + 1 -/
def l_has (c : Nat → Nat) (n t : Nat) : Bool := (List.range n).any (fun k => c k == t)
theorem l_hasT {c : Nat → Nat} {n t : Nat} : l_has c n t = true ↔ ∃ k, k < n ∧ c k = t := by
  unfold l_has
  rw [List.any_eq_true]
  exact ⟨fun ⟨k, h1, h2⟩ => ⟨k, List.mem_range.mp h1, eq_of_beq h2⟩, fun ⟨k, h1, h2⟩ => ⟨k, List.mem_range.mpr h1, by rw [h2]; exact beq_self_eq_true t⟩⟩
def l_ad (c : Nat → Nat) (n t : Nat) : Nat → Nat := fun i => if i = n then t else c i
def l_go (pa : Nat → Nat) : Nat → Nat → (Nat → Nat) → Nat → Bool × Nat × (Nat → Nat)
  | 0, n, c, _ => (false, n, c)
  | m + 1, n, c, t => if pa t = 0 then (true, n + 1, l_ad c n t) else if l_has (l_ad c n t) (n + 1) (pa t - 1) = true then (false, n + 1, l_ad c n t) else l_go pa m (n + 1) (l_ad c n t) (pa t - 1)
/-- where a template and its rows may lie -/
def tp_C (x : Nat) : Prop := (1594 ≤ x ∧ x ≤ 1673 ∧ (x - 1594) % 8 ≤ 2) ∨ 1768 ≤ x
/-- templates in the class, as far as lines go -/
def tH (ρ : Nat → Nat) (G : mj_G) (pa bd : Nat → Nat) : Prop := ∀ t, t < 10 → tp_C (mj_r G 7 t) ∧ imm ρ (mj_r G 7 t) ∧ mj_r G 7 t < mj_n G ∧ mj_k G (mj_r G 7 t) = 11 ∧ mj_i G (mj_r G 7 t) 1 = sh (pa t) ∧ mj_r G (mj_r G 7 t) 0 = bd t ∧ pa t ≤ 10
theorem tH_f {W : Nat → Prop} {ρ' : Nat → Nat} {G' : mj_G} {pa bd : Nat → Nat} (h : hh ρ D I G) (ht : tH ρ G pa bd) (F : fw ρ W G G') (he : ro_e ρ ρ' G) (hW : ∀ o, W o → ¬ im_o o) : tH ρ' G' pa bd := fun t h10 => by
  have hG := hh_n h
  obtain ⟨h1, h2, h3, h4, h5, h6, h7⟩ := ht t h10
  have e7 : mj_r G' 7 t = mj_r G 7 t := (fw_im F hW (a := 7) (by omega) (by rw [ow_s (by decide)]; unfold im_o; omega)).2.2.1 t
  obtain ⟨k1, k2, k3, k4⟩ := fw_im F hW h3 h2
  rw [e7]
  exact ⟨h1, by rw [imm_e he h3]; exact h2, Nat.lt_of_lt_of_le h3 F.1, k1.trans h4, (k4 1).trans h5, (k3 0).trans h6, h7⟩
def lW (i o : Nat) : Prop := o = 707 + 4 * i ∨ o = 708 + 4 * i
theorem c_placeInLine {n i t : Nat} {c : Nat → Nat} {K : Int32 → mj_G → Prop} (hS : cs_S G) (hi : i < 200) (hl : mj_i G (707 + 4 * i) 9 = nI n) (hn : n ≤ 10) (hr : mj_r G (707 + 4 * i) 8 = 708 + 4 * i) (hk : mj_k G (708 + 4 * i) = 20) (hln : mj_l G (708 + 4 * i) = 10) (ht : t < 2 ^ 31) (hc : ∀ k, k < n → mj_i G (708 + 4 * i) k = nI (c k) ∧ c k < 10) (h1 : ∀ k, k < n → c k = t → (∀ j, j < k → c j ≠ t) → K (nI k) G) (h2 : (∀ k, k < n → c k ≠ t) → K (Int32.ofInt (-1)) G) : Rn_placeInLine d (707 + 4 * i) (nI t) G K := by
  have go : ∀ m k, k + m = n → (∀ j, j < k → c j ≠ t) → Rn_placeInLine_2 d (707 + 4 * i) (nI t) (nI k) G K := fun m => by
    induction m with
    | zero =>
      intro k hk2 hno
      refine w_Rn_placeInLine_2 hS ⟨cs_g14 hS hi, ?_⟩
      rw [hl, z_le (by omega) (by omega)]
      exact z_bt (by omega) (h2 (fun j hj => hno j (by omega)))
    | succ m ih =>
      intro k hk2 hno
      obtain ⟨c1, c2⟩ := hc k (by omega)
      refine w_Rn_placeInLine_2 hS ⟨cs_g14 hS hi, ?_⟩
      rw [hl, z_le (by omega) (by omega), hr, hln]
      refine z_bf (by omega) ⟨hk, z_ixi (by omega) (by decide) ?_⟩
      rw [c1, z_eq (by omega) ht, z_add]
      refine z_br (fun q => h1 k (by omega) q hno) (fun q => ih (k + 1) (by omega) (fun j hj => ?_))
      by_cases e : j = k
      · rw [e]; exact q
      · exact hno j (by omega)
  exact w_Rn_placeInLine hS (go n 0 (by omega) (fun j hj => absurd hj (Nat.not_lt_zero j)))
end LI
