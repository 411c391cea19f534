/-! FRAGMENTS: what is kept against what is now, by the class -/
theorem cs_fr_all : ((List.range 10).all fun i => Nat.beq (cs_ro (1597 + 8 * i) 1) (1598 + 8 * i) && Nat.beq (cs_ro (1597 + 8 * i) 5) (1599 + 8 * i) && Nat.beq (cs_ro (1597 + 8 * i) 9) (1600 + 8 * i) && Nat.beq (cs_ro (1597 + 8 * i) 10) (1601 + 8 * i) && Nat.beq (cs_kd (1598 + 8 * i)) 20 && Nat.beq (cs_ln (1598 + 8 * i)) 11 && Nat.beq (cs_kd (1599 + 8 * i)) 20 && Nat.beq (cs_ln (1599 + 8 * i)) 301) = true := by decide +kernel
theorem cs_fr {G : mj_G} {i : Nat} (hS : cs_S G) (hi : i < 10) : mj_r G (1597 + 8 * i) 1 = 1598 + 8 * i ∧ mj_r G (1597 + 8 * i) 5 = 1599 + 8 * i ∧ mj_r G (1597 + 8 * i) 9 = 1600 + 8 * i ∧ mj_r G (1597 + 8 * i) 10 = 1601 + 8 * i ∧ mj_k G (1598 + 8 * i) = 20 ∧ mj_l G (1598 + 8 * i) = 10 ∧ mj_k G (1599 + 8 * i) = 20 ∧ mj_l G (1599 + 8 * i) = 300 := by
  have h := List.all_eq_true.mp cs_fr_all i (List.mem_range.mpr hi)
  simp only [Bool.and_eq_true] at h
  obtain ⟨⟨⟨⟨⟨⟨⟨h1, h2⟩, h3⟩, h4⟩, h5⟩, h6⟩, h7⟩, h8⟩ := h
  have e1 := Nat.eq_of_beq_eq_true h1
  have e2 := Nat.eq_of_beq_eq_true h2
  have e3 := Nat.eq_of_beq_eq_true h3
  have e4 := Nat.eq_of_beq_eq_true h4
  have e5 := Nat.eq_of_beq_eq_true h5
  have e6 := Nat.eq_of_beq_eq_true h6
  have e7 := Nat.eq_of_beq_eq_true h7
  have e8 := Nat.eq_of_beq_eq_true h8
  have r : ∀ j v, cs_ro (1597 + 8 * i) j = v → 1 ≤ v → mj_r G (1597 + 8 * i) j = v := fun j v e hv => by
    rcases hS.2.2.2.1 (1597 + 8 * i) j with q | q
    · omega
    · exact q.trans e
  have k : ∀ a v, cs_kd a = v → 1 ≤ v → mj_k G a = v := fun a v e hv => by
    rcases hS.2.1 a with q | q
    · omega
    · exact q.trans e
  have l : ∀ a v, cs_ln a = v + 1 → mj_l G a = v := fun a v e => by
    rcases hS.2.2.1 a with q | q
    · omega
    · omega
  exact ⟨r _ _ e1 (by omega), r _ _ e2 (by omega), r _ _ e3 (by omega), r _ _ e4 (by omega), k _ _ e5 (by decide), l _ _ e6, k _ _ e7 (by decide), l _ _ e8⟩
section ZZM
variable {u : wo} {ρ ρ' : Nat → Nat} {D : Nat → rv} {I I0 : Nat → Nat → rv} {G G' : mj_G} {Q : Nat → Prop} {a b0 d i l x r p T : Nat} {v v0 w : rv} {N : Nat} {B : Nat → Nat} {M : Nat} {S : Nat → Nat} {lc : Nat} {ln : Nat → Nat} {op : Nat} {ch : List en} {V : Nat → Nat → Option rv} {o : ost} {ra rd : Nat → Int32} {sp : Nat → Bool} {st hts : Nat} {FG : Nat → kfr} {fr b cn : Nat → Nat} {top la : Nat}
theorem kvl_cv (h : kvl ρ G i a v I0) (h3 : rv_t v ≠ 3) : cv (fun c => ρ c = 2000 + i) G a v := by
  obtain ⟨h1, h2, h3', h4, h5, h6, h7, h8, h9, h10⟩ := h
  refine ⟨h4, h6, h7, h8, fun t => ?_, fun t => absurd t h3⟩
  obtain ⟨g1, g2, g3, g4, g5, g6, g7, g8⟩ := h9 t
  exact ⟨g1, g2, g5, by omega, g4, g6, g7, g8⟩
/-- the items of a kept list, from the j-th one on -/
theorem c_skl {X Y : mj_G → Prop} (h : hh ρ D I G) (hk : kvl ρ G i a v0 I0) (hw : rv_in D v) (hb : cv Q G b0 v) (t0 : rv_t v0 = 3) (tv : rv_t v = 3) (hl : rv_l v0 = rv_l v) (K : Bool → mj_G → Prop) (h1 : (∀ k, k < rv_l v → rv_pl (I0 (rv_d v0) k) (I (rv_d v) k)) → K true G) (h2 : ¬ (∀ k, k < rv_l v → rv_pl (I0 (rv_d v0) k) (I (rv_d v) k)) → K false G) :
    ∀ {m j : Nat}, j + m = rv_l v → (∀ k, k < j → rv_pl (I0 (rv_d v0) k) (I (rv_d v) k)) → Va_isLike_41 (d + 1) a b0 (nI j) G K
  | m, j, hi, hj => by
    obtain ⟨-, hd'⟩ := hw.1.2.2.2.2 tv
    obtain ⟨e1', e2'⟩ := hw.2 tv
    obtain ⟨-, -, -, -, g'⟩ := h.2.2.2 _ hd'
    obtain ⟨-, -, -, g4', g5', g6'⟩ := g' e1'
    unfold ir at g4' g5' g6'
    obtain ⟨q1, q2, q3, q4, q5⟩ := hk.2.2.2.2.2.2.2.2.2 t0
    have hn := (hw.1.2.2.2.2 tv).1
    refine w_Va_isLike_41 h.1 ⟨hk.2.2.2.1, ?_⟩
    rw [hb.2.2.2.2.2 tv, q3, q4, g4', g5', e2', z_le (by omega) (by omega)]
    refine ⟨by decide, z_br (fun q => h1 (fun k hk => hj k (by omega))) (fun q => ⟨by decide, z_ixg (by omega) (by omega) ⟨hb.1, by decide, z_ixg (by omega) (by omega) ?_⟩⟩)⟩
    obtain ⟨p1, p2, p3, p4, p5⟩ := q5 j (by omega)
    obtain ⟨p1', p2', p3', p4', p5'⟩ := g6' j (by omega)
    refine ⟨p3.1, c_isPlainlyLike h p4 p4' p3 p3' (by omega) (fun hp => z_bt rfl ?_) (fun hp => z_bf (by decide) (h2 (fun q' => hp (q' j (by omega)))))⟩
    rw [z_add]
    match m, hi with
    | 0, hi => exact absurd hi (by omega)
    | m + 1, hi =>
      refine c_skl (X := X) (Y := Y) h hk hw hb t0 tv hl K h1 h2 (m := m) (j := j + 1) (by omega) (fun k hk => ?_)
      by_cases e : k = j
      · rw [e]; exact hp
      · exact hj k (by omega)
/-- a kept value, and the value now -/
theorem c_sk {X Y : mj_G → Prop} (h : hh ρ D I G) (hk : kvl ρ G i a v0 I0) (hw : rv_in D v) (hb : cv Q G b0 v) (h1 : rv_sk I0 I v0 v → X G) (h2 : ¬ rv_sk I0 I v0 v → Y G) : Va_isLike (d + 1) a b0 G (fun v8 G7 => mm_br (v8 = true) ((mj_k G7 a = 12) ∧ Va_isSafeLike (d + 1) a b0 G7 (fun v11 G10 => mm_br (v11 = true) (X G10) (Y G10))) (Y G7)) := by
  have k12 := hk.2.2.2.1
  have ok0 := hk.2.2.2.2.1
  have i0 := hk.2.2.2.2.2.2.1
  have t0 := ok0.1
  have tv := hw.1.1
  by_cases ht : rv_t v0 = rv_t v
  · by_cases h3 : rv_t v = 3
    · -- lists
      have h03 : rv_t v0 = 3 := ht.trans h3
      obtain ⟨-, hd'⟩ := hw.1.2.2.2.2 h3
      obtain ⟨e1', e2'⟩ := hw.2 h3
      obtain ⟨-, -, -, -, g'⟩ := h.2.2.2 _ hd'
      obtain ⟨-, -, -, g4', g5', -⟩ := g' e1'
      unfold ir at g4' g5'
      obtain ⟨q1, q2, q3, q4, q5⟩ := hk.2.2.2.2.2.2.2.2.2 h03
      have n0 := (ok0.2.2.2.2 h03).1
      have n1 := (hw.1.2.2.2.2 h3).1
      have ss : rv_s v0 = rv_s v := (ok0.2.2.1 (by omega)).trans (hw.1.2.2.1 (by omega)).symm
      refine w_Va_isLike h.1 ⟨k12, ?_⟩
      rw [i0, hb.2.2.1, rv_kn t0 (by omega), rv_kn tv (by omega)]
      refine z_bt (by omega) ⟨hb.1, z_bt (by omega) ?_⟩
      rw [hb.2.2.2.2.2 h3, q3, q4, g4', g5', e2', z_eq (by omega) (by omega)]
      refine ⟨by decide, by decide, z_br (fun hl => ?_) (fun hl => z_bf (by decide) (h2 (fun t => hl t.2.2.1)))⟩
      refine c_skl (X := X) (Y := Y) h hk hw hb h03 h3 hl _ (fun g => z_bt rfl ⟨k12, w_Va_isSafeLike h.1 ⟨k12, ?_⟩⟩) (fun g => z_bf (by decide) (h2 (fun t => g (t.2.2.2.2.2 h03)))) (m := rv_l v) (j := 0) (by omega) (fun k hk => absurd hk (by omega))
      rw [i0, rv_kn t0 (by omega)]
      exact z_bf (by omega) (z_bt rfl (h1 ⟨ht, ss, hl, fun t => by omega, fun t => by omega, fun _ => g⟩))
    · -- no lists
      have c0 := kvl_cv hk (by omega)
      have pls : rv_pl v0 v → (rv_t v0 = 2 → rv_s v0 = rv_s v) → rv_sk I0 I v0 v := fun hp hs => by
        refine ⟨ht, ?_, ?_, hp.2.1, fun t => (hp.2.2 t).1 ▸ (hp.2.2 t).2, fun t => by omega⟩
        · by_cases t : rv_t v0 = 2
          · exact hs t
          · exact (ok0.2.2.1 t).trans (hw.1.2.2.1 (by omega)).symm
        · by_cases t : rv_t v0 = 2
          · exact (hp.2.2 t).1
          · rw [ok0.2.1 (by omega), hw.1.2.1 (by omega)]
      refine w_Va_isLike h.1 ⟨k12, ?_⟩
      rw [i0, hb.2.2.1, rv_kn t0 (by omega), rv_kn tv (by omega)]
      refine z_bf (by omega) (c_isPlainlyLike h ok0 hw.1 c0 hb (by omega) (fun hp => z_bt rfl ⟨k12, c_isSafeLike h ok0 c0 hb ht (fun hs => z_bt rfl (h1 (pls hp hs))) (fun hs => z_bf (by decide) (h2 (fun t => hs (fun _ => t.2.1))))⟩) (fun hp => z_bf (by decide) (h2 (fun t => hp ⟨ht, t.2.2.2.1, fun q => ⟨t.2.2.1, fun j hj => t.2.2.2.2.1 q j (by rw [← t.2.2.1]; exact hj)⟩⟩))))
  · -- of other kinds
    have no : Y G := h2 (fun t => ht t.1)
    have pl : Va_isPlainlyLike d a b0 G (fun v8 G7 => mm_br (v8 = true) ((mj_k G7 a = 12) ∧ Va_isSafeLike (d + 1) a b0 G7 (fun v11 G10 => mm_br (v11 = true) (X G10) (Y G10))) (Y G7)) := by
      refine w_Va_isPlainlyLike h.1 ⟨k12, hb.1, ?_⟩
      rw [i0, hb.2.2.1, rv_kx t0 tv]
      exact z_bf ht (z_bf (by decide) no)
    refine w_Va_isLike h.1 ⟨k12, ?_⟩
    rw [i0, hb.2.2.1, rv_kn t0 (by omega), rv_kn tv (by omega)]
    exact z_br (fun q => ⟨hb.1, z_bf (by omega) pl⟩) (fun q => pl)
/-- the values of a row, from the l-th letter on -/
theorem c_hv3 {A0 i0 : Nat} {R : Int32} {vs : Nat → rv} {K : Bool → mj_G → Prop} (h : hh ρ D I G) (hE : ce ρ D G N B V fr b cn) (hB : ∀ s, B s ≤ s) (hin : ∀ l, l < 26 → rv_in D (e_vl D B V l x)) (hx : x ≤ N) (hA1 : mj_k G A0 = 41) (hA2 : mj_l G A0 = 26) (hv : ∀ l, l < 26 → bt R l → kvl ρ G (i0 + l) (mj_r G A0 l) (vs l) I0) (h1 : (∀ l, l < 26 → bt R l → rv_sk I0 I (vs l) (e_vl D B V l x)) → K true G) (h2 : ¬ (∀ l, l < 26 → bt R l → rv_sk I0 I (vs l) (e_vl D B V l x)) → K false G) : ∀ {n l : Nat}, l + n = 26 → (∀ j, j < l → bt R j → rv_sk I0 I (vs j) (e_vl D B V j x)) → Fg_hasValues_3 (d + 2) A0 R (sf fr x) (nI l) G K
  | 0, l, hl, hj => by
    have q : l = 26 := by omega
    subst q
    exact w_Fg_hasValues_3 h.1 (z_bt (by decide) (h1 hj))
  | n + 1, l, hl, hj => by
    have nx : (bt R l → rv_sk I0 I (vs l) (e_vl D B V l x)) → Fg_hasValues_3 (d + 2) A0 R (sf fr x) (nI (l + 1)) G K := fun hh => c_hv3 h hE hB hin hx hA1 hA2 hv h1 h2 (n := n) (l := l + 1) (by omega) (fun j hj' => by
      by_cases q : j = l
      · rw [q]
        exact hh
      · exact hj j (by omega))
    refine w_Fg_hasValues_3 h.1 (z_bf (by rw [z_le (by omega) (by omega)]; omega) ?_)
    rw [hA1, hA2, bt_0r (by omega), z_add]
    refine ⟨by decide, z_ixi (by omega) (by omega) (z_br (fun q => nx (fun t => absurd t q)) (fun q => ?_))⟩
    have hb : bt R l := Classical.byContradiction q
    have hk := hv l (by omega) hb
    refine z_bf (by have := hk.1; omega) (c_valueFrom h hE hB (by omega) hx (fun a2 ha => ⟨hk.2.2.2.1, ?_⟩))
    exact c_sk h hk (hin l (by omega)) ha.2.2.1 (fun s => nx (fun _ => s)) (fun s => h2 (fun t => s (t l (by omega) hb)))
/-- tags are told by their places -/
theorem tb_uq {A : Nat → Prop} {hm : Int32} {w : Nat → Nat} : ∀ {kk : Nat} {b : Int32} {r p q : Nat} {L : List (Nat × Nat)}, tb_B kk A G hm b r w p q L → ∀ x y, x ∈ L → y ∈ L → x.1 = y.1 → x = y
  | 0, _, _, _, _, _, h => h.elim
  | kk + 1, b, r, p, q, L, h => by
    rcases h with ⟨-, -, rfl⟩ | ⟨-, -, -, -, -, -, -, -, -, -, h⟩ | ⟨-, -, -, -, -, -, -, -, e, m, L1, L2, he, -, -, rfl, h13, h14⟩
    · exact fun x y hx => nomatch hx
    · exact tb_uq h
    · -- the lists lie apart
      have hl := tb_le h13
      have h2 := fun x hx => tb_pl h13 x hx
      have h1 : (∀ x, x ∈ L1 → p < x.1 ∧ x.1 < m) ∧ ∀ x y, x ∈ L1 → y ∈ L1 → x.1 = y.1 → x = y := by
        rcases h14 with ⟨-, -, rfl, -⟩ | ⟨-, -, -, q1, a2, -, -, -, rfl⟩ | ⟨-, q1, q2, La, Lb, a2, -, -, -, a6, -, -, -, rfl, rfl⟩
        · exact ⟨(fun x hx => nomatch hx), (fun x y hx => nomatch hx)⟩
        · exact ⟨fun x hx => by have := tb_pl a2 x hx; omega, tb_uq a2⟩
        · have l1 := tb_le a2
          have l2 := tb_le a6
          refine ⟨fun x hx => ?_, fun x y hx hy hq => ?_⟩
          · rcases List.mem_append.mp hx with g | g
            · have := tb_pl a2 x g
              omega
            · have := tb_pl a6 x g
              omega
          · rcases List.mem_append.mp hx with g | g
            · rcases List.mem_append.mp hy with g' | g'
              · exact tb_uq a2 x y g g' hq
              · have := tb_pl a2 x g
                have := tb_pl a6 y g'
                omega
            · rcases List.mem_append.mp hy with g' | g'
              · have := tb_pl a6 x g
                have := tb_pl a2 y g'
                omega
              · exact tb_uq a6 x y g g' hq
      have hpm : p < m := by
        rcases h14 with ⟨-, rfl, -⟩ | ⟨-, -, -, q1, a2, -, -, -, rfl⟩ | ⟨-, q1, q2, La, Lb, a2, -, -, -, a6, -, -, -, rfl, -⟩
        · omega
        · have := tb_le a2
          omega
        · have := tb_le a2
          have := tb_le a6
          omega
      intro x y hx hy hq
      rcases List.mem_cons.mp hx with rfl | hx
      · rcases List.mem_cons.mp hy with rfl | hy
        · rfl
        · rcases List.mem_append.mp hy with g | g
          · have g' : p < y.1 := (h1.1 y g).1
            have hq' : p = y.1 := hq
            omega
          · have g' : m ≤ y.1 := (h2 y g).1
            have hq' : p = y.1 := hq
            omega
      · rcases List.mem_cons.mp hy with rfl | hy
        · rcases List.mem_append.mp hx with g | g
          · have g' : p < x.1 := (h1.1 x g).1
            have hq' : x.1 = p := hq
            omega
          · have g' : m ≤ x.1 := (h2 x g).1
            have hq' : x.1 = p := hq
            omega
        · rcases List.mem_append.mp hx with g | g
          · rcases List.mem_append.mp hy with g' | g'
            · exact h1.2 x y g g' hq
            · have := h1.1 x g
              have := h2 y g'
              omega
          · rcases List.mem_append.mp hy with g' | g'
            · have := h2 x g
              have := h1.1 y g'
              omega
            · exact tb_uq h13 x y g g' hq
/-- what a kept fragment must be to be put out again -/
def fitV (u : wo) (k : kfr) (N : Nat) (B : Nat → Nat) (V : Nat → Nat → Option rv) : Prop := (∀ l, l < 26 → bt (k_ra k) l → rv_sk (k_I k) (u_I u) (k_vs k l) (e_vl (u_D u) B V l N)) ∧ ∀ l, l < 26 → bt (k_rd k) l → rv_sk (k_I k) (u_I u) (k_vd k l) (u_D u l)
def fitS (k : kfr) (T p lc : Nat) (ln : Nat → Nat) (o : ost) : Prop := k_is k = true ∧ k_T k = T ∧ k_p k = p ∧ k_lc k = lc ∧ (∀ j, j < lc → k_ln k j = ln j) ∧ k_x k = o_x o (o_n o) ∧ k_w k = o_w o
/-- the line of a fragment, from the j-th template on -/
theorem c_hl15 {n la i : Nat} {c0 c : Nat → Nat} {K : Bool → mj_G → Prop} (hS : cs_S G) (hi : i < 10) (hla : la < 200) (hn : n ≤ 10) (h2 : mj_i G (1597 + 8 * i) 2 = nI n) (hc0 : ∀ j, j < n → mj_i G (1598 + 8 * i) j = nI (c0 j) ∧ c0 j < 10) (hc : ∀ j, j < n → mj_i G (708 + 4 * la) j = nI (c j) ∧ c j < 10) (h1 : (∀ j, j < n → c0 j = c j) → K true G) (h0 : ¬ (∀ j, j < n → c0 j = c j) → K false G) : ∀ {m j : Nat}, j + m = n → (∀ k, k < j → c0 k = c k) → Fg_hasLine_15 d (1597 + 8 * i) (707 + 4 * la) (nI j) G K
  | m, j, hj, hk => by
    obtain ⟨r1, -, -, -, k1, l1, -⟩ := cs_fr hS hi
    obtain ⟨r2, k2, l2⟩ := cs_l14 hS hla
    refine w_Fg_hasLine_15 hS ⟨cs_g9 hS hi, ?_⟩
    rw [h2, r1, k1, l1, r2, k2, l2, z_le (by omega) (by omega), z_le (by omega) (by omega)]
    refine z_br (fun q => h1 (fun k hk' => hk k (by omega))) (fun q => ⟨by decide, z_bf (by omega) ⟨rfl, z_ixi (by omega) (by decide) ⟨cs_g14 hS hla, rfl, z_ixi (by omega) (by decide) ?_⟩⟩⟩)
    obtain ⟨a1, a2⟩ := hc0 j (by omega)
    obtain ⟨b1, b2⟩ := hc j (by omega)
    rw [a1, b1, z_eq (by omega) (by omega), z_add]
    refine z_br (fun e => ?_) (fun e => h0 (fun t => e (t j (by omega))))
    match m, hj with
    | 0, hj => exact absurd hj (by omega)
    | m + 1, hj => exact c_hl15 hS hi hla hn h2 hc0 hc h1 h0 (m := m) (j := j + 1) (by omega) (fun k hk' => by
        by_cases t : k = j
        · rw [t]
          exact e
        · exact hk k (by omega))
/-- whether a fragment fits, by the class -/
theorem c_fits {K : Bool → mj_G → Prop} (hu : uP u) (hC : CC u ρ G N B M S lc ln op ch V o ra rd sp st hts FG fr b cn top la) (hV : ∀ s l v, V s l = some v → rv_in (u_D u) v) (hB' : ∀ s, B s ≤ s) (hT : T < 10) (hr : u_A u r) (hpr : (p, r) ∈ u_L u T) (hi : i < 10) (h1 : fitS (FG i) T p lc ln o → fitV u (FG i) N B V → K true G) (h2 : ¬ (fitS (FG i) T p lc ln o ∧ fitV u (FG i) N B V) → K false G) : Fg_fits (d + 4) (1597 + 8 * i) r (707 + 4 * la) (sf fr N) G K := by
  have hS := hC.1.1
  have hs := hC.2.2.1
  have hW := hC.2.1
  have hok := hC.2.2.2.2.2.2.2.1.1.1
  obtain ⟨⟨f1, f2⟩, f3⟩ := hC.2.2.2.2.2.2.2.2 i hi
  obtain ⟨c1, c2, c3, c4, -⟩ := cs_fr hS hi
  have big : ∀ a, u_A u a → 1768 ≤ a := fun a ha => (hW.2.2.2.1 a ha).1
  have tag : ∀ T' x, T' < 10 → x ∈ u_L u T' → u_A u x.2 ∧ x.2 ≠ 0 ∧ mj_i (u_G u) x.2 1 = nI T' ∧ mj_i (u_G u) x.2 2 = nI x.1 ∧ x.1 < 80 := fun T' x hT' hx => by
    obtain ⟨hW', -, s0, kk0, -, hB0⟩ := hu.2.2.2 T' hT'
    obtain ⟨k', b', m', L1', z1, z2, z3, z4⟩ := tb_sub hB0 x hx
    have := tx_in hW' (k := x.1) (by rw [z2.2.2.2.2.1]; decide)
    have := hW'.1
    exact ⟨z1, z2.1, z2.2.2.1, z2.2.2.2.1, by omega⟩
  have hr1 := big r hr
  have no : ∀ {P : Prop}, ¬ P → (fitS (FG i) T p lc ln o ∧ fitV u (FG i) N B V → P) → K false G := fun hn hp => h2 (fun t => hn (hp t))
  have r0 : k_is (FG i) = false → mj_r G (1597 + 8 * i) 0 = 0 := f1
  have hne : mj_r G (1597 + 8 * i) 0 ≠ 1 ∧ mj_r G (1597 + 8 * i) 0 ≠ 2 := by
    cases hki : k_is (FG i) with
    | false => rw [f1 hki]; exact ⟨by decide, by decide⟩
    | true =>
      obtain ⟨g1, -, g3, -⟩ := f2 hki
      have := big _ (tag _ _ g3 (f3 hki)).1
      have g : 1768 ≤ k_r (FG i) := this
      rw [g1]
      exact ⟨by omega, by omega⟩
  refine w_Fg_fits hS ⟨cs_g9 hS hi, hne.1, hne.2, by omega, by omega, z_br (fun q => ?_) (fun q => ?_)⟩
  · -- it is of this tag
    have hki : k_is (FG i) = true := by
      cases hki : k_is (FG i) with
      | false => rw [f1 hki] at q; omega
      | true => rfl
    obtain ⟨g1, g2, g3, g4, g5, g6, g7, g8, g9, g10, g11, g12, g13, g14, g15, g16⟩ := f2 hki
    have hkr : k_r (FG i) = r := g1.symm.trans q
    obtain ⟨t1, t2, t3, t4, t5⟩ := tag _ _ g3 (f3 hki)
    obtain ⟨s1, s2, s3, s4, s5⟩ := tag _ _ hT hpr
    have t3' : mj_i (u_G u) (k_r (FG i)) 1 = nI (k_T (FG i)) := t3
    have t4' : mj_i (u_G u) (k_r (FG i)) 2 = nI (k_p (FG i)) := t4
    have t5' : k_p (FG i) < 80 := t5
    have s3' : mj_i (u_G u) r 1 = nI T := s3
    have s4' : mj_i (u_G u) r 2 = nI p := s4
    have s5' : p < 80 := s5
    rw [hkr, s3', z_eq (by omega) (by omega)] at t3'
    rw [hkr, s4', z_eq (by omega) (by omega)] at t4'
    refine w_Fg_hasLine hS ⟨cs_g9 hS hi, cs_g14 hS (by have := hs.2.1; have := hs.2.2.2.1; omega), ?_⟩
    have hL := hs.2.2.2.2.2.2.2.2.2.1
    have hlc := hs.2.2.2.2.2.2.2.2.2.2.1
    rw [g5, hL.1, z_eq (by omega) (by omega)]
    refine z_br (fun e1 => ?_) (fun e1 => z_bf (by decide) (no e1 (fun t => t.1.2.2.2.1)))
    refine c_hl15 (n := lc) (la := la) (c0 := k_ln (FG i)) (c := ln) hS hi (by have := hs.2.1; have := hs.2.2.2.1; omega) hlc (by rw [g5, e1]) (fun j hj => g7 j (by omega)) (fun j hj => hL.2 j hj) (fun e2 => ?_) (fun e2 => z_bf (by decide) (no e2 (fun t => t.1.2.2.2.2.1))) (m := lc) (j := 0) (Nat.zero_add _) (fun k hk => absurd hk (by omega))
    have ho := hC.2.2.2.2.2.2.2.1.1
    have hn3 := hok.1
    have hx8 := o_x8 hok (Nat.le_refl (o_n o))
    refine z_bt rfl ⟨cs_g9 hS hi, ?_⟩
    rw [ho.2.2.1]
    refine z_ixi (by omega) (by omega) ?_
    rw [g8, ho.2.2.2.2.2 _ (Nat.le_refl _), z_eq (by omega) (by omega)]
    refine z_br (fun e3 => ?_) (fun e3 => no e3 (fun t => t.1.2.2.2.2.2.1))
    rw [g10, ho.2.2.2.1]
    refine z_br (fun e4 => ?_) (fun e4 => no (P := bI (k_w (FG i)) = bI (o_w o)) e4 (fun t => by rw [t.1.2.2.2.2.2.2]))
    have e4' : k_w (FG i) = o_w o := by rw [← qb_bI (k_w (FG i)), e4, qb_bI]
    have hfs : fitS (FG i) T p lc ln o := ⟨hki, t3'.symm, t4'.symm, e1, e2, e3, e4'⟩
    have hda : da (u_D u) (u_I u) := hu.1
    have arr : ∀ j, j < 520 → mj_k G (fg_a j) = 41 ∧ mj_l G (fg_a j) = 26 := hC.1.2.1.2.2.2.2
    have a0 : fg_a (52 * i) = 1600 + 8 * i := by
      unfold fg_a
      omega
    have a1 : fg_a (52 * i + 26) = 1601 + 8 * i := by
      unfold fg_a
      omega
    have r0' := arr (52 * i) (by omega)
    have r1' := arr (52 * i + 26) (by omega)
    rw [a0] at r0'
    rw [a1] at r1'
    have hin : ∀ x l, l < 26 → rv_in (u_D u) (e_vl (u_D u) B V l x) := fun x l hl => e_vl_in hda hV hl
    have e0 : ∀ l, e_vl (u_D u) B V l 0 = u_D u l := fun l => if_pos rfl
    rw [c3, g14]
    refine (w_Fg_hasValues hS (c_hv3 (i0 := 52 * i) (I0 := k_I (FG i)) (vs := k_vs (FG i)) (x := N) hC.1 hC.2.2.2.1.1 hB' (hin N) (Nat.le_refl N) r0'.1 r0'.2 (fun l hl hb => (g16 l hl).1 hb) (fun hv1 => z_bt rfl ⟨cs_g9 hS hi, ?_⟩) (fun hv1 => z_bf (by decide) (no hv1 (fun t => t.2.1))) (n := 26) (l := 0) (Nat.zero_add _) (fun j hj => absurd hj (by omega))))
    rw [c4, g15, show (Int32.ofInt (-1)) = sf fr 0 from rfl]
    refine w_Fg_hasValues hS (c_hv3 (i0 := 52 * i + 26) (I0 := k_I (FG i)) (vs := k_vd (FG i)) (x := 0) hC.1 hC.2.2.2.1.1 hB' (hin 0) (Nat.zero_le N) r1'.1 r1'.2 (fun l hl hb => (g16 l hl).2 hb) (fun hv2 => z_bt rfl (h1 hfs ⟨hv1, fun l hl hb => by rw [← e0 l]; exact hv2 l hl hb⟩)) (fun hv2 => z_bf (by decide) (no hv2 (fun t l hl hb => by rw [e0 l]; exact t.2.2 l hl hb))) (n := 26) (l := 0) (Nat.zero_add _) (fun j hj => absurd hj (by omega)))
  · -- it is of another one
    refine no q (fun t => ?_)
    obtain ⟨⟨g1, g2, g3, -⟩, -⟩ := t
    obtain ⟨a1, -⟩ := f2 g1
    obtain ⟨hW', -, s0, kk0, -, hB0⟩ := hu.2.2.2 T hT
    have m1 := f3 g1
    rw [g2, g3] at m1
    have := tb_uq hB0 _ _ m1 hpr rfl
    rw [a1]
    exact congrArg Prod.snd this
end ZZM
