/-! THE LAW'S TEXTS -/
def lp_15 : List Nat := [123, 107, 49, 125, 123, 61, 97, 125, 123, 59, 125]
def lp_16 : List Nat := [123, 107, 50, 125, 123, 61, 100, 124, 100, 48, 125, 123, 59, 125]
/-- the pieces that the law's templates are made of -/
def lp_t : List (List Nat) := [[97, 123, 61, 97, 125], [60, 123, 61, 98, 125], [60, 112, 32, 123, 61, 98, 125], [34, 123, 61, 97, 125, 34], [123, 42, 100, 99, 125, 123, 61, 100, 125, 123, 58, 125, 110, 123, 59, 125], [123, 43, 125, 123, 61, 99, 125, 123, 58, 125, 101, 123, 59, 125], [123, 35, 49, 125, 98, 123, 61, 98, 125, 123, 59, 125], [123, 94, 125], [123, 64, 49, 125], [123, 64, 50, 125], [123, 36, 49, 97, 98, 61, 55, 125, 123, 61, 98, 125, 123, 126, 125, 123, 59, 125], [123, 33, 49, 97, 44, 98, 58, 98, 125], [123, 38, 49, 98, 125, 123, 61, 100, 124, 100, 51, 125, 123, 59, 125], [123, 37, 100, 40, 97, 43, 49, 41, 125], [123, 37, 100, 39, 60, 115, 62, 39, 125], [123, 107, 49, 125, 123, 61, 97, 125, 123, 59, 125], [123, 107, 50, 125, 123, 61, 100, 124, 100, 48, 125, 123, 59, 125], [32, 123, 45, 125, 32], [123, 116, 48, 97, 125], [123, 63, 98, 125, 62, 123, 58, 125, 123, 61, 98, 124, 117, 125, 123, 59, 125], [60, 115, 62, 39, 123, 61, 98, 125, 123, 61, 99, 124, 106, 125], [123, 126, 125], [123, 61, 99, 46, 49, 125], [39, 62], [120]]
abbrev lp_B (c : Nat) : Prop := c = 63 ∨ c = 42 ∨ c = 43 ∨ c = 35 ∨ c = 36 ∨ c = 38 ∨ c = 107
/-- what a piece holds behind a { -/
abbrev lp_g (l : List Nat) (o : Nat) : Prop := l.getD o 0 = 123 → o + 1 < l.length ∧ l.getD (o + 1) 0 ≠ 60 ∧ (l.getD (o + 1) 0 = 64 → o + 2 < l.length ∧ (l.getD (o + 2) 0 = 49 ∨ l.getD (o + 2) 0 = 50)) ∧ (l.getD (o + 1) 0 = 107 → o = 0 ∧ (l = lp_15 ∨ l = lp_16)) ∧ (lp_B (l.getD (o + 1) 0) → o = 0 ∧ 6 ≤ l.length ∧ l.getD (l.length - 3) 0 = 123 ∧ l.getD (l.length - 2) 0 = 59 ∧ ∀ i, i < l.length → 0 < i → l.getD i 0 = 123 → ¬ lp_B (l.getD (i + 1) 0) ∧ l.getD (i + 1) 0 ≠ 64)
theorem lp_1 : (lp_t.all fun l => (List.range l.length).all fun o => decide (l.getD o 0 = 123 → o + 1 < l.length ∧ l.getD (o + 1) 0 ≠ 60)) = true := by decide +kernel
theorem lp_2 : (lp_t.all fun l => (List.range l.length).all fun o => decide (l.getD o 0 = 123 → l.getD (o + 1) 0 = 64 → o + 2 < l.length ∧ (l.getD (o + 2) 0 = 49 ∨ l.getD (o + 2) 0 = 50))) = true := by decide +kernel
theorem lp_3 : (lp_t.all fun l => (List.range l.length).all fun o => decide (l.getD o 0 = 123 → l.getD (o + 1) 0 = 107 → o = 0 ∧ (l = lp_15 ∨ l = lp_16))) = true := by decide +kernel
theorem lp_4 : (lp_t.all fun l => (List.range l.length).all fun o => !(decide (l.getD o 0 = 123) && decide (lp_B (l.getD (o + 1) 0))) || decide (o = 0 ∧ 6 ≤ l.length ∧ l.getD (l.length - 3) 0 = 123 ∧ l.getD (l.length - 2) 0 = 59)) = true := by decide +kernel
theorem lp_5 : (lp_t.all fun l => (List.range l.length).all fun o => !(decide (l.getD o 0 = 123) && decide (lp_B (l.getD (o + 1) 0))) || (List.range l.length).all fun i => !(decide (0 < i) && decide (l.getD i 0 = 123)) || (!decide (lp_B (l.getD (i + 1) 0)) && decide (l.getD (i + 1) 0 ≠ 64))) = true := by decide +kernel
theorem lp_x {P : List Nat → Nat → Bool} (h : (lp_t.all fun l => (List.range l.length).all fun o => P l o) = true) {l : List Nat} (hl : l ∈ lp_t) {o : Nat} (ho : o < l.length) : P l o = true := List.all_eq_true.mp (List.all_eq_true.mp h l hl) o (List.mem_range.mpr ho)
theorem lp_all (l : List Nat) (hl : l ∈ lp_t) (o : Nat) (ho : o < l.length) : lp_g l o := fun h => by
  obtain ⟨a1, a2⟩ := of_decide_eq_true (lp_x lp_1 hl ho) h
  have a3 := of_decide_eq_true (lp_x lp_2 hl ho) h
  have a4 := of_decide_eq_true (lp_x lp_3 hl ho) h
  refine ⟨a1, a2, a3, a4, fun hB => ?_⟩
  have b4 := lp_x lp_4 hl ho
  have b5 := lp_x lp_5 hl ho
  have e : (!(decide (l.getD o 0 = 123) && decide (lp_B (l.getD (o + 1) 0)))) = false := by
    rw [decide_eq_true h, decide_eq_true hB]
    rfl
  rw [e, Bool.false_or] at b4 b5
  obtain ⟨c1, c2, c3, c4⟩ := of_decide_eq_true b4
  refine ⟨c1, c2, c3, c4, fun i i1 i2 i3 => ?_⟩
  have d := List.all_eq_true.mp b5 i (List.mem_range.mpr i1)
  rw [decide_eq_true i2, decide_eq_true i3] at d
  have d' : (!decide (lp_B (l.getD (i + 1) 0)) && decide (l.getD (i + 1) 0 ≠ 64)) = true := d
  rw [Bool.and_eq_true] at d'
  obtain ⟨d1, d2⟩ := d'
  refine ⟨fun q => ?_, of_decide_eq_true d2⟩
  rw [decide_eq_true q] at d1
  exact absurd d1 (by decide)
/-- a piece, or a character -/
def lg (l : List Nat) : Prop := l ∈ lp_t ∨ ∃ c, l = [c] ∧ c ≠ 123
theorem lg_g {l : List Nat} (h : lg l) : ∀ o, o < l.length → lp_g l o := by
  rcases h with h | ⟨c, rfl, hc⟩
  · exact lp_all l h
  · intro o ho q
    have : o = 0 := by
      have h1 : o < 1 := ho
      omega
    subst this
    exact absurd q hc
/-- pieces, one behind the other -/
def LT (w : Nat → Nat) (n : Nat) : List (List Nat) → Nat → Prop
  | [], p => p = n
  | l :: ls, p => (∀ i, i < l.length → w (p + i) = l.getD i 0) ∧ LT w n ls (p + l.length)
/-- a place within a piece -/
def inst (w : Nat → Nat) (j : Nat) : Prop := ∃ p l, lg l ∧ p ≤ j ∧ j < p + l.length ∧ ∀ i, i < l.length → w (p + i) = l.getD i 0
section F00
variable {A : Nat → Prop} {G : mj_G} {hm : Int32} {w : Nat → Nat} {n : Nat}
theorem LT_at {n : Nat} : ∀ {ls : List (List Nat)} {p : Nat}, LT w n ls p → (∀ l, l ∈ ls → lg l) → ∀ j, p ≤ j → j < n → inst w j
  | [], p, h, _, j, h1, h2 => by
    have h' : p = n := h
    omega
  | l :: ls, p, h, hg, j, h1, h2 => by
    by_cases q : j < p + l.length
    · exact ⟨p, l, hg l (List.mem_cons_self ..), h1, q, h.1⟩
    · exact LT_at h.2 (fun y hy => hg y (List.mem_cons_of_mem _ hy)) j (by omega) h2
theorem ix_f {j : Nat} (h : inst w j) (h1 : w j = 123) : w (j + 1) ≠ 60 ∧ (w (j + 1) = 64 → w (j + 2) = 49 ∨ w (j + 2) = 50) ∧ (w (j + 1) = 107 → (∀ i, i < 11 → w (j + i) = lp_15.getD i 0) ∨ (∀ i, i < 14 → w (j + i) = lp_16.getD i 0)) ∧ (lp_B (w (j + 1)) → ∃ c, j < c ∧ w c = 123 ∧ w (c + 1) = 59 ∧ ∀ i, j < i → i < c + 3 → w i = 123 → ¬ lp_B (w (i + 1)) ∧ w (i + 1) ≠ 64) := by
  obtain ⟨p, l, hl, hp, hj, hw⟩ := h
  obtain ⟨o, rfl⟩ : ∃ o, j = p + o := ⟨j - p, by omega⟩
  have ho : o < l.length := by omega
  have e0 := hw o ho
  rw [h1] at e0
  have hg := lg_g hl
  obtain ⟨g1, g2, g3, g4, g5⟩ := hg o ho e0.symm
  have e1 := hw (o + 1) g1
  rw [show p + (o + 1) = p + o + 1 by omega] at e1
  rw [e1]
  refine ⟨g2, fun q => ?_, fun q => ?_, fun q => ?_⟩
  · obtain ⟨q1, q2⟩ := g3 q
    have e2 := hw (o + 2) q1
    rw [show p + (o + 2) = p + o + 2 by omega] at e2
    rw [e2]
    exact q2
  · obtain ⟨q1, q2⟩ := g4 q
    subst q1
    rw [Nat.add_zero]
    rcases q2 with rfl | rfl
    · exact Or.inl hw
    · exact Or.inr hw
  · obtain ⟨q1, q2, q3, q4, q5⟩ := g5 q
    subst q1
    have e3 := hw (l.length - 3) (by omega)
    have e4 := hw (l.length - 2) (by omega)
    rw [show p + (l.length - 2) = p + (l.length - 3) + 1 by omega] at e4
    refine ⟨p + (l.length - 3), by omega, e3.trans q3, e4.trans q4, fun i i1 i2 i3 => ?_⟩
    obtain ⟨k, rfl⟩ : ∃ k, i = p + k := ⟨i - p, by omega⟩
    have hk : k < l.length := by omega
    have e5 := hw k hk
    rw [i3] at e5
    obtain ⟨g6, -⟩ := hg k hk e5.symm
    have e6 := hw (k + 1) g6
    rw [show p + (k + 1) = p + k + 1 by omega] at e6
    rw [e6]
    exact q5 k hk (by omega) e5.symm
/-- each { of a body is followed by something; the end of a body comes behind its beginning -/
theorem tb_q : ∀ {k : Nat} {b : Int32} {r p q : Nat} {L : List (Nat × Nat)}, tb_B k A G hm b r w p q L → ∀ j, p ≤ j → j < q → w j = 123 → w (j + 1) ≠ 0 ∧ (w (j + 1) = 59 → ∃ x, p ≤ x ∧ x < j ∧ w x = 123 ∧ tx_B (w (x + 1)))
  | 0, _, _, _, _, _, h, _, _, _, _ => h.elim
  | k + 1, b, r, p, q, L, h, j, h1, h2, h3 => by
    rcases h with ⟨-, rfl, -⟩ | ⟨-, -, -, -, -, a6, -, -, -, -, a10⟩ | ⟨-, -, -, -, -, a6, a7, -, e, m, L1, L2, he, hH, h125, rfl, h13, h14⟩
    · omega
    · have hne : j ≠ p := fun q => a6 (q ▸ h3)
      obtain ⟨c1, c2⟩ := tb_q a10 j (by omega) h2 h3
      refine ⟨c1, fun q => ?_⟩
      obtain ⟨x, x1, x2, x3⟩ := c2 q
      exact ⟨x, by omega, x2, x3⟩
    · have hN := (tb_h_ch hH).2
      have hpm : e + 1 ≤ m := by
        rcases h14 with ⟨-, c1, -⟩ | ⟨c0, -, -, q1, a4, b1, b2, b3, c1⟩ | ⟨c0, q1, q2, La, Lb, a2, b1, b2, b3, a6', b4, b5, b6, c1, -⟩
        · omega
        · have := tb_le a4
          omega
        · have := tb_le a2
          have := tb_le a6'
          omega
      by_cases hjp : j = p
      · subst hjp
        unfold tx_T at a7
        exact ⟨by omega, fun q => by omega⟩
      by_cases hje : j ≤ e
      · exfalso
        by_cases hq : j = e
        · rw [hq] at h3
          omega
        · exact (hN j (by omega) (by omega)).1 h3
      by_cases hjm : m ≤ j
      · obtain ⟨c1, c2⟩ := tb_q h13 j hjm h2 h3
        refine ⟨c1, fun q => ?_⟩
        obtain ⟨x, x1, x2, x3⟩ := c2 q
        exact ⟨x, by clear h14; omega, x2, x3⟩
      · rcases h14 with ⟨-, c1, -⟩ | ⟨c0, -, -, q1, a4, b1, b2, b3, rfl⟩ | ⟨c0, q1, q2, La, Lb, a2, b1, b2, b3, a6', b4, b5, b6, rfl, -⟩
        · omega
        · refine ⟨?_, fun _ => ⟨p, Nat.le_refl _, by omega, a6, c0⟩⟩
          by_cases t1 : j < q1
          · exact (tb_q a4 j (by omega) t1 h3).1
          · by_cases t2 : j = q1
            · rw [t2]; omega
            · by_cases t3 : j = q1 + 1
              · rw [t3] at h3; omega
              · have t4 : j = q1 + 2 := by omega
                rw [t4] at h3; omega
        · refine ⟨?_, fun _ => ⟨p, Nat.le_refl _, by omega, a6, by unfold tx_B; omega⟩⟩
          by_cases t1 : j < q1
          · exact (tb_q a2 j (by omega) t1 h3).1
          · by_cases t2 : j = q1
            · rw [t2]; omega
            · by_cases t3 : j = q1 + 1
              · rw [t3] at h3; omega
              · by_cases t4 : j = q1 + 2
                · rw [t4] at h3; omega
                · by_cases t5 : j < q2
                  · exact (tb_q a6' j (by omega) t5 h3).1
                  · by_cases t6 : j = q2
                    · rw [t6]; omega
                    · by_cases t7 : j = q2 + 1
                      · rw [t7] at h3; omega
                      · have t8 : j = q2 + 2 := by omega
                        rw [t8] at h3; omega
/-- a tag with bodies ends where its first {;} ends, if none begins ahead of that -/
theorem tg_span {k r p m c : Nat} {b : Int32} {L1 : List (Nat × Nat)} (ht : tb_t k A G hm b r w p m L1) (hB : tx_B (w (p + 1))) (hc : p < c) (h1 : w c = 123) (h2 : w (c + 1) = 59) (hno : ∀ j, p < j → j < c → w j = 123 → ¬ tx_B (w (j + 1))) : m ≤ c + 3 := by
  obtain ⟨-, -, -, -, a5, a6, -, e, he, hH, h125, h14⟩ := ht
  have hN := (tb_h_ch hH).2
  have hec : e < c := by
    refine Nat.lt_of_not_le (fun q => ?_)
    by_cases t : c = e
    · rw [t] at h1
      omega
    · by_cases t2 : c = p + 1
      · rw [t2] at h1
        unfold tx_B at hB
        omega
      · exact (hN c (by omega) (by omega)).1 h1
  have clo : ∀ {k : Nat} {b : Int32} {r s q : Nat} {L : List (Nat × Nat)}, tb_B k A G hm b r w s q L → p < s → s ≤ c → q ≤ c := fun h hs hc => Nat.le_of_not_lt (fun q => by
    obtain ⟨x, x1, x2, x3, x4⟩ := (tb_q h c hc q h1).2 h2
    exact hno x (by omega) x2 x3 x4)
  rcases h14 with ⟨a, -⟩ | ⟨-, -, -, q1, a4, -, -, -, rfl⟩ | ⟨-, q1, q2, La, Lb, a2, b1, b2, b3, a6', -, -, -, rfl, -⟩
  · exact absurd hB a
  · have := clo a4 (by omega) (by omega)
    omega
  · have g := clo a2 (by omega) (by omega)
    have l1 := tb_le a2
    have : q1 + 3 ≤ c := by
      refine Nat.le_of_not_lt (fun q => ?_)
      by_cases t : c = q1
      · rw [t] at h2; omega
      · by_cases t2 : c = q1 + 1
        · rw [t2] at h1; omega
        · have t3 : c = q1 + 2 := by omega
          rw [t3] at h1; omega
    have := clo a6' (by omega) this
    omega
/-- where the tags within a tag stand -/
theorem tg_pl {k r p m : Nat} {b : Int32} {L1 : List (Nat × Nat)} (ht : tb_t k A G hm b r w p m L1) : ∀ x, x ∈ L1 → p < x.1 ∧ x.1 < m ∧ w x.1 = 123 ∧ tx_T (w (x.1 + 1)) := by
  obtain ⟨-, -, -, -, a5, a6, -, e, he, hH, h125, h14⟩ := ht
  have key : ∀ {k : Nat} {b : Int32} {r s q : Nat} {L : List (Nat × Nat)}, tb_B k A G hm b r w s q L → ∀ x, x ∈ L → s ≤ x.1 ∧ x.1 < q ∧ w x.1 = 123 ∧ tx_T (w (x.1 + 1)) := fun h x hx => by
    obtain ⟨c1, c2⟩ := (tb_un h).1 x hx
    obtain ⟨k', b', m', L1', -, ⟨-, -, -, -, d5, d6, -⟩, -⟩ := tb_sub h x hx
    exact ⟨c1, c2, d5, d6⟩
  intro x hx
  rcases h14 with ⟨-, -, rfl, -⟩ | ⟨-, -, -, q1, a4, -, -, -, rfl⟩ | ⟨-, q1, q2, La, Lb, a2, -, -, -, a6', -, -, -, rfl, rfl⟩
  · exact absurd hx List.not_mem_nil
  · obtain ⟨c1, c2, c3⟩ := key a4 x hx
    exact ⟨by omega, by omega, c3⟩
  · have l1 := tb_le a2
    have l2 := tb_le a6'
    rcases List.mem_append.mp hx with hx | hx
    · obtain ⟨c1, c2, c3⟩ := key a2 x hx
      exact ⟨by omega, by omega, c3⟩
    · obtain ⟨c1, c2, c3⟩ := key a6' x hx
      exact ⟨by omega, by omega, c3⟩
/-- no tag of a law's text holds a fragment or an include, or anything that holds others -/
theorem tg_no {k r p m : Nat} {b : Int32} {L1 : List (Nat × Nat)} (ht : tb_t k A G hm b r w p m L1) (hi : inst w p) : ∀ x, x ∈ L1 → w (x.1 + 1) ≠ 64 ∧ w (x.1 + 1) ≠ 107 := by
  intro x hx
  have hx' := tg_pl ht x hx
  by_cases hB : tx_B (w (p + 1))
  · obtain ⟨c, c1, c2, c3, c4⟩ := (ix_f hi ht.2.2.2.2.1).2.2.2 hB
    have hm := tg_span ht hB c1 c2 c3 (fun j j1 j2 j3 => (c4 j j1 (by omega) j3).1)
    obtain ⟨d1, d2⟩ := c4 x.1 hx'.1 (by omega) hx'.2.2.1
    exact ⟨d2, fun q => d1 (by unfold lp_B; omega)⟩
  · obtain ⟨-, -, -, -, -, -, -, e, he, hH, h125, h14⟩ := ht
    rcases h14 with ⟨-, -, rfl, -⟩ | ⟨a, -⟩ | ⟨a, -⟩
    · exact absurd hx List.not_mem_nil
    · exact absurd a hB
    · exact absurd (by unfold tx_B; omega) hB
/-- a kept fragment of a law's text: its body puts out one variable -/
theorem tg_k {k r p m : Nat} {b : Int32} {L1 : List (Nat × Nat)} (ht : tb_t k A G hm b r w p m L1) (hi : inst w p) (h107 : w (p + 1) = 107) : ∃ d l y, d < 10 ∧ l < 26 ∧ mj_i G r 3 = nI d ∧ mj_r G r 8 ≠ 0 ∧ A (mj_r G r 8) ∧ mj_k G (mj_r G r 8) = 6 ∧ mj_i G (mj_r G r 8) 1 = hm ∧ mj_i G (mj_r G r 8) 2 = nI (p + 4) ∧ mj_i G (mj_r G r 8) 0 = nI 61 ∧ mj_r G (mj_r G r 8) 10 = 0 ∧ ((y = none ∧ mj_i G (mj_r G (mj_r G r 8) 6) 0 = nI 3 ∧ mj_i G (mj_r G (mj_r G r 8) 6) 1 = nI l) ∨ (mj_i G (mj_r G (mj_r G r 8) 6) 0 = nI 100 ∧ mj_i G (mj_r G (mj_r G (mj_r G r 8) 6) 4) 0 = nI 3 ∧ mj_i G (mj_r G (mj_r G (mj_r G r 8) 6) 4) 1 = nI l ∧ mj_i G (mj_r G (mj_r G (mj_r G r 8) 6) 5) 0 = nI 1 ∧ y = some (mj_i G (mj_r G (mj_r G (mj_r G r 8) 6) 5) 1))) := by
  have hx := (ix_f hi ht.2.2.2.2.1).2.2.1 h107
  obtain ⟨-, -, -, -, a5, a6, -, e, he, hH, h125, h14⟩ := ht
  -- what both texts have alike
  have c3 : w (p + 4) = 123 ∧ w (p + 5) = 61 ∧ (w (p + 2) = 49 ∨ w (p + 2) = 50) := by
    rcases hx with hx | hx
    · exact ⟨hx 4 (by decide), hx 5 (by decide), Or.inl (hx 2 (by decide))⟩
    · exact ⟨hx 4 (by decide), hx 5 (by decide), Or.inr (hx 2 (by decide))⟩
  have hdig : w (p + 2) - 48 < 10 := by
    have := c3.2.2
    clear h14 hH hx
    omega
  obtain ⟨rfl, h3⟩ : e = p + 3 ∧ mj_i G r 3 = nI (w (p + 2) - 48) := by
    rcases hH with ⟨a, -⟩ | ⟨a, -⟩ | ⟨a, -⟩ | ⟨-, -, a1, a2, -⟩ | ⟨a, -⟩ | ⟨a, -⟩ | ⟨a, -⟩ | ⟨a, -⟩
    · omega
    · omega
    · omega
    · exact ⟨a1, a2⟩
    all_goals omega
  obtain ⟨b', q1, hb, hq1, hq2⟩ : ∃ b' q1, tb_B k A G hm b' (mj_r G r 8) w (p + 3 + 1) q1 L1 ∧ w q1 = 123 ∧ w (q1 + 1) = 59 := by
    rcases h14 with ⟨a, -⟩ | ⟨-, -, -, q1, a4, a5, a6, -⟩ | ⟨a, -⟩
    · exact absurd (by unfold tx_B; omega) a
    · exact ⟨_, q1, a4, a5, a6⟩
    · omega
  cases k with
  | zero => exact hb.elim
  | succ k =>
    rcases hb with ⟨-, g, -⟩ | ⟨-, -, -, -, -, g, -⟩ | ⟨g1, g2, g3, g4, g5, g6, g7, g8, e2, m2, La, Lb, g9, g10, g11, -, g13, g14⟩
    · rw [← g] at hq2
      exact absurd (hq2.symm.trans c3.2.1) (by decide)
    · exact absurd c3.1 g
    · have c5 : w (p + 3 + 1 + 1) = 61 := c3.2.1
      have hm2 : m2 = e2 + 1 := by
        clear g10
        rcases g14 with ⟨-, g, -⟩ | ⟨g, -⟩ | ⟨g, -⟩
        · exact g
        · unfold tx_B at g
          omega
        · omega
      clear g14
      obtain ⟨l, hE⟩ : ∃ l, tx_E l A G (mj_r G (mj_r G r 8) 6) w (p + 6) e2 false := by
        rcases g10 with ⟨-, c, -⟩ | ⟨a, -⟩ | ⟨a, -⟩ | ⟨a, -⟩ | ⟨a, -⟩ | ⟨a, -⟩ | ⟨a, -⟩ | ⟨a, -⟩
        · exact c
        all_goals omega
      obtain ⟨hlt, hN⟩ := tx_E_ch hE
      clear g10
      have hn10 : w m2 = 123 → w (m2 + 1) = 59 → mj_r G (mj_r G r 8) 10 = 0 := fun t1 t2 => by
        cases k with
        | zero => exact g13.elim
        | succ k =>
          rcases g13 with ⟨t, -⟩ | ⟨-, -, -, -, -, t, -⟩ | ⟨-, -, -, -, -, -, t, -⟩
          · exact t
          · exact absurd t1 t
          · unfold tx_T at t
            omega
      cases l with
      | zero => exact hE.elim
      | succ l =>
        obtain ⟨-, -, -, hE⟩ := hE
        rcases hx with hx | hx
        · have x6 : w (p + 6) = 97 := hx 6 (by decide)
          have x7 : w (p + 7) = 125 := hx 7 (by decide)
          have x8 : w (p + 8) = 123 := hx 8 (by decide)
          have x9 : w (p + 9) = 59 := hx 9 (by decide)
          have he2 : e2 = p + 7 := by
            refine Nat.le_antisymm (Nat.le_of_not_lt (fun q => ?_)) (by omega)
            exact (hN (p + 7) (by omega) q).2.1 x7
          subst he2
          have hk : mj_i G (mj_r G (mj_r G r 8) 6) 0 = nI 3 ∧ mj_i G (mj_r G (mj_r G r 8) 6) 1 = nI (w (p + 6) - 97) := by
            rcases hE with ⟨m, z1, z2, z3, z4, -⟩ | ⟨-, -, -, z1, z2⟩ | ⟨-, z, -⟩ | ⟨z, -⟩ | ⟨z, -⟩ | ⟨z, -⟩ | ⟨-, m, z1, z2, -⟩ | ⟨-, m, z1, z2, -⟩
            · have := z4 (p + 6) (Nat.le_refl _) (by omega)
              unfold tx_D at this
              omega
            · exact ⟨z1, z2⟩
            · have z' : w (p + 7) = 46 := z
              omega
            all_goals omega
          rw [x6] at hk
          refine ⟨w (p + 2) - 48, 0, none, hdig, by decide, h3, g2, g1, g3, g4, g5, by rw [← c5]; exact g8, hn10 (by rw [hm2]; exact x8) (by rw [hm2]; exact x9), Or.inl ⟨rfl, hk.1, hk.2⟩⟩
        · have x6 : w (p + 6) = 100 := hx 6 (by decide)
          have x7 : w (p + 7) = 124 := hx 7 (by decide)
          have x8 : w (p + 8) = 100 := hx 8 (by decide)
          have x9 : w (p + 9) = 48 := hx 9 (by decide)
          have x10 : w (p + 10) = 125 := hx 10 (by decide)
          have x11 : w (p + 11) = 123 := hx 11 (by decide)
          have x12 : w (p + 12) = 59 := hx 12 (by decide)
          have he2 : e2 ≤ p + 10 := Nat.le_of_not_lt (fun q => (hN (p + 10) (by omega) q).2.1 x10)
          have he3 : e2 = p + 10 := by
            by_cases t7 : e2 = p + 7
            · rw [t7] at g11; omega
            by_cases t8 : e2 = p + 8
            · rw [t8] at g11; omega
            by_cases t9 : e2 = p + 9
            · rw [t9] at g11; omega
            omega
          subst he3
          have hvar : ∀ {l r pr}, tx_E l A G r w (p + 6) (p + 7) pr → mj_i G r 0 = nI 3 ∧ mj_i G r 1 = nI 3 := fun {l r pr} h => by
            cases l with
            | zero => exact h.elim
            | succ l =>
              obtain ⟨-, -, -, h⟩ := h
              rcases h with ⟨m, z1, z2, z3, z4, -⟩ | ⟨-, -, -, z1, z2⟩ | ⟨-, z, -⟩ | ⟨z, -⟩ | ⟨z, -⟩ | ⟨z, -⟩ | ⟨-, m, z1, z2, -⟩ | ⟨-, m, z1, z2, -⟩
              · have := z4 (p + 6) (Nat.le_refl _) (by omega)
                unfold tx_D at this
                omega
              · rw [x6] at z2
                exact ⟨z1, z2⟩
              · have z' : w (p + 7) = 46 := z
                omega
              all_goals omega
          have hnum : ∀ {l r pr}, tx_E l A G r w (p + 9) (p + 10) pr → mj_i G r 0 = nI 1 := fun {l r pr} h => by
            cases l with
            | zero => exact h.elim
            | succ l =>
              obtain ⟨-, -, -, h⟩ := h
              rcases h with ⟨m, z1, z2, z3, z4, z5, z6, -⟩ | ⟨z, -⟩ | ⟨z, -⟩ | ⟨z, -⟩ | ⟨z, -⟩ | ⟨z, -⟩ | ⟨-, m, z1, z2, -⟩ | ⟨-, m, z1, z2, -⟩
              · exact z6
              · unfold tx_L at z
                omega
              · unfold tx_L at z
                omega
              all_goals omega
          rcases hE with ⟨m, z1, z2, z3, z4, -⟩ | ⟨-, z, -⟩ | ⟨-, z, -⟩ | ⟨z, -⟩ | ⟨z, -⟩ | ⟨z, -⟩ | ⟨-, m, z1, z2, z3, -⟩ | ⟨-, m, z1, z2, z3, z4, z5, z6, z7⟩
          · have := z4 (p + 6) (Nat.le_refl _) (by omega)
            unfold tx_D at this
            omega
          · omega
          · have z' : w (p + 7) = 46 := z
            omega
          · omega
          · omega
          · omega
          · have hm8 : m = p + 8 := by omega
            rw [hm8] at z3
            omega
          · have hm7 : m = p + 7 := by omega
            subst hm7
            obtain ⟨v1, v2⟩ := hvar z6
            exact ⟨w (p + 2) - 48, 3, some _, hdig, by decide, h3, g2, g1, g3, g4, g5, by rw [← c5]; exact g8, hn10 (by rw [hm2]; exact x11) (by rw [hm2]; exact x12), Or.inr ⟨z5, v1, v2, hnum z7, rfl⟩⟩
end F00
