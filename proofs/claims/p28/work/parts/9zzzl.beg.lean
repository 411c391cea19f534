/-! THE BEGINNING: what the heap is when both objects are made -/
def zb_all : Nat → (Nat → Bool) → Bool
  | 0, _ => true
  | n + 1, p => p n && zb_all n p
theorem zb_of {p : Nat → Bool} : ∀ {n : Nat}, zb_all n p = true → ∀ a, a < n → p a = true
  | 0, _, a, h => absurd h (Nat.not_lt_zero a)
  | n + 1, h, a, ha => by
    have h' : (p n && zb_all n p) = true := h
    rw [Bool.and_eq_true] at h'
    by_cases q : a = n
    · rw [q]; exact h'.1
    · exact zb_of h'.2 a (by omega)
theorem zb_e {x y : Nat} (h : Nat.beq x y = true) : x = y := Nat.eq_of_beq_eq_true h
theorem zb_o {x z : Nat} (h : (Nat.beq z 0 || Nat.beq x z) = true) : z = 0 ∨ x = z := by
  rw [Bool.or_eq_true] at h
  exact h.imp zb_e zb_e
theorem zb_n {x z : Nat} {b : Bool} (h : (!(Nat.beq x z) || b) = true) (e : x = z) : b = true := by
  subst e
  rw [Nat.beq_refl] at h
  exact h
theorem zb_c {b : Bool} {x : Nat} : cond b x x = x := by cases b <;> rfl
theorem li_no {α : Type} : ∀ {l : List α} {n : Nat}, l.length ≤ n → mv_li l n = none
  | [], _, _ => by unfold mv_li; rfl
  | _ :: xs, 0, h => absurd h (Nat.not_succ_le_zero _)
  | _ :: xs, n + 1, h => li_no (l := xs) (Nat.le_of_succ_le_succ h)
section BG
variable {ρ : Nat → Int32} {H : mv_H} {a j : Nat}
theorem bg_k : mj_k (mv_dG ρ H) a = mv_kc H.2.2 a := rfl
theorem bg_r : mj_r (mv_dG ρ H) a j = mv_rc H.2.2 a j := rfl
theorem bg_l (h : a ≠ 1) : mj_l (mv_dG ρ H) a = mv_lc H.2.2 a := if_neg h
theorem bg_i (h : a ≠ 1) : mj_i (mv_dG ρ H) a j = mv_dI ρ (mv_ic H.2.2 a j) := if_neg h
theorem bg_l1 : mj_l (mv_dG ρ H) 1 = (ρ 0).toNatClampNeg := rfl
theorem bg_len : mw_h_a2.2.2.length = 56 := by decide +kernel
theorem bg_la : (match mv_li mw_h_a2.2.2 55 with | some ch => ch.length | none => 0) = 8 := by decide +kernel
theorem bg_hi (h : 1768 ≤ a) : mv_get mw_h_a2.2.2 a = none := by
  have hl := bg_la
  unfold mv_get
  by_cases q : a / 32 < 56
  · have q1 : a / 32 = 55 := by omega
    rw [q1]
    cases e : mv_li mw_h_a2.2.2 55 with
    | none => rfl
    | some ch =>
      rw [e] at hl
      have hl' : ch.length = 8 := hl
      exact li_no (by rw [hl']; omega)
  · rw [li_no (by rw [bg_len]; omega)]
theorem bg_k0 (h : 1768 ≤ a) : mv_kc mw_h_a2.2.2 a = 0 := by
  unfold mv_kc
  rw [bg_hi h]
theorem cs_kd0 (h : 1768 ≤ a) : cs_kd a = 0 := by
  have e : ∀ n, n < 1768 → Nat.beq a n = false := fun n hn => by
    cases q : Nat.beq a n with
    | false => rfl
    | true => have := zb_e q; omega
  have b : ∀ n, n < 1768 → Nat.ble a n = false := fun n hn => by
    cases q : Nat.ble a n with
    | false => rfl
    | true => have := Nat.le_of_ble_eq_true q; omega
  unfold cs_kd
  simp only [e 2 (by decide), e 3 (by decide), e 4 (by decide), e 5 (by decide), e 6 (by decide), e 7 (by decide), e 8 (by decide), e 9 (by decide), e 10 (by decide), e 11 (by decide), e 12 (by decide), e 13 (by decide), e 14 (by decide), e 1507 (by decide), e 1508 (by decide), e 1589 (by decide), e 1590 (by decide), e 1591 (by decide), e 1592 (by decide), e 1593 (by decide), b 66 (by decide), b 706 (by decide), b 1506 (by decide), b 1588 (by decide), b 1673 (by decide), b 1713 (by decide), Bool.and_false, cond_false]
theorem cs_ln0 (h : 1768 ≤ a) : cs_ln a = 0 := by
  have e : ∀ n, n < 1768 → Nat.beq a n = false := fun n hn => by
    cases q : Nat.beq a n with
    | false => rfl
    | true => have := zb_e q; omega
  have b : ∀ n, n < 1768 → Nat.ble a n = false := fun n hn => by
    cases q : Nat.ble a n with
    | false => rfl
    | true => have := Nat.le_of_ble_eq_true q; omega
  unfold cs_ln
  simp only [e 2 (by decide), e 4 (by decide), e 5 (by decide), e 7 (by decide), e 8 (by decide), e 9 (by decide), e 12 (by decide), e 13 (by decide), e 14 (by decide), e 1507 (by decide), e 1508 (by decide), e 1590 (by decide), e 1591 (by decide), e 1592 (by decide), e 1593 (by decide), b 1506 (by decide), b 1673 (by decide), Bool.and_false, cond_false]
theorem cs_ro0 (h : 1768 ≤ a ∨ 14 ≤ j) : cs_ro a j = 0 := by
  rcases h with h | h
  · have e : ∀ n, n < 1768 → Nat.beq a n = false := fun n hn => by
      cases q : Nat.beq a n with
      | false => rfl
      | true => have := zb_e q; omega
    have b : ∀ n, n < 1768 → Nat.ble a n = false := fun n hn => by
      cases q : Nat.ble a n with
      | false => rfl
      | true => have := Nat.le_of_ble_eq_true q; omega
    unfold cs_ro cs_rs
    simp only [e 3 (by decide), e 6 (by decide), e 10 (by decide), e 11 (by decide), e 1589 (by decide), b 1506 (by decide), b 1673 (by decide), Bool.and_false, cond_false]
  · have e : ∀ n, n < 14 → Nat.beq j n = false := fun n hn => by
      cases q : Nat.beq j n with
      | false => rfl
      | true => have := zb_e q; omega
    unfold cs_ro cs_rs cs_r4 cs_r8
    simp only [e 0 (by decide), e 1 (by decide), e 2 (by decide), e 3 (by decide), e 4 (by decide), e 5 (by decide), e 6 (by decide), e 8 (by decide), e 9 (by decide), e 10 (by decide), e 13 (by decide), cond_false, zb_c]
set_option maxRecDepth 1000000 in
theorem bg_1 : zb_all 1768 (fun a => Nat.beq (cs_kd a) 0 || Nat.beq (mv_kc mw_h_a2.2.2 a) (cs_kd a)) = true := by decide +kernel
set_option maxRecDepth 1000000 in
theorem bg_2 : zb_all 1768 (fun a => Nat.beq (cs_ln a) 0 || Nat.beq (mv_lc mw_h_a2.2.2 a + 1) (cs_ln a)) = true := by decide +kernel
set_option maxRecDepth 1000000 in
theorem bg_3 : zb_all 1768 (fun a => zb_all 14 (fun j => Nat.beq (cs_ro a j) 0 || Nat.beq (mv_rc mw_h_a2.2.2 a j) (cs_ro a j))) = true := by decide +kernel
set_option maxRecDepth 1000000 in
theorem bg_4 : zb_all 320 (fun j => (Nat.ble 20 j || Nat.beq (mv_rc mw_h_a2.2.2 8 j) (1674 + 2 * j)) && (Nat.ble 10 j || Nat.beq (mv_rc mw_h_a2.2.2 9 j) (1597 + 8 * j)) && Nat.beq (mv_rc mw_h_a2.2.2 13 j) (67 + 2 * j) && (Nat.ble 200 j || Nat.beq (mv_rc mw_h_a2.2.2 14 j) (707 + 4 * j)) && (Nat.ble 40 j || Nat.beq (mv_rc mw_h_a2.2.2 1507 j) (1509 + 2 * j))) = true := by decide +kernel
theorem bg_or {n j x y : Nat} (h : (Nat.ble n j || Nat.beq x y) = true) (hj : j < n) : x = y := by
  rw [Bool.or_eq_true] at h
  rcases h with h | h
  · have := Nat.le_of_ble_eq_true h; omega
  · exact zb_e h
theorem bg_S : cs_S (mv_dG ρ mw_h_a2) := by
  have h4 : ∀ j, j < 320 → _ := fun j hj => zb_of bg_4 j hj
  simp only [Bool.and_eq_true] at h4
  refine ⟨Nat.le_refl _, fun a => ?_, fun a => ?_, fun a j => ?_, fun j hj => ?_, fun j hj => ?_, fun j hj => ?_, fun j hj => ?_, fun j hj => ?_⟩
  · by_cases h : a < 1768
    · exact zb_o (zb_of bg_1 a h)
    · exact Or.inl (cs_kd0 (by omega))
  · by_cases h : a < 1768
    · by_cases q : a = 1
      · rw [q]; exact Or.inl rfl
      · rw [bg_l q]
        exact zb_o (zb_of bg_2 a h)
    · exact Or.inl (cs_ln0 (by omega))
  · by_cases h : a < 1768 ∧ j < 14
    · exact zb_o (zb_of (zb_of bg_3 a h.1) j h.2)
    · exact Or.inl (cs_ro0 (by omega))
  · exact bg_or (h4 j (by omega)).1.1.1.1 hj
  · exact bg_or (h4 j (by omega)).1.1.1.2 hj
  · exact zb_e (h4 j (by omega)).1.1.2
  · exact bg_or (h4 j (by omega)).1.2 hj
  · exact bg_or (h4 j (by omega)).2 hj
set_option maxRecDepth 1000000 in
theorem bg_5 : mm_tb.all (fun p => Nat.beq (mv_rc mw_h_a2.2.2 1714 p.1) p.2.1 && Nat.beq (mv_kc mw_h_a2.2.2 p.2.1) p.2.2.1 && (Nat.ble 2 p.2.1 && Nat.beq (mv_lc mw_h_a2.2.2 p.2.1) p.2.2.2)) = true := by decide +kernel
set_option maxRecDepth 1000000 in
theorem bg_6 : (Nat.beq (mv_kc mw_h_a2.2.2 1714) 14 && Nat.beq (mv_kc mw_h_a2.2.2 1) 20 && Nat.beq (mv_kc mw_h_a2.2.2 1767) 21 && Nat.beq (mv_lc mw_h_a2.2.2 1767) 1) = true := by decide +kernel
end BG
