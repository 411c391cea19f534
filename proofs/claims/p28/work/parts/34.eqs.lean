/-! BOTH SIDES' FUNCTIONS OF INTS, one against the other -/
theorem q_lead_all : ((List.range 8).all fun a => (List.range 128).all fun b => decide (q_12033 (Int32.ofNat a) (Int32.ofNat b) = q_13076 (Int32.ofNat a) (Int32.ofNat b))) = true := by decide +kernel
theorem q_lead_eq {a b : Nat} (ha : a < 8) (hb : b < 128) : q_12033 (Int32.ofNat a) (Int32.ofNat b) = q_13076 (Int32.ofNat a) (Int32.ofNat b) :=
  of_decide_eq_true (List.all_eq_true.mp (List.all_eq_true.mp q_lead_all a (List.mem_range.mpr ha)) b (List.mem_range.mpr hb))
theorem q_letter_all : ((List.range 128).all fun b => decide (q_12029 (Int32.ofNat b) = q_13005 (Int32.ofNat b)) && decide (q_12030 (Int32.ofNat b) = q_13004 (Int32.ofNat b))) = true := by decide +kernel
theorem q_letter_eq {b : Nat} (hb : b < 128) : q_12029 (Int32.ofNat b) = q_13005 (Int32.ofNat b) ∧ q_12030 (Int32.ofNat b) = q_13004 (Int32.ofNat b) := by
  have h := List.all_eq_true.mp q_letter_all b (List.mem_range.mpr hb)
  rw [Bool.and_eq_true, decide_eq_true_eq, decide_eq_true_eq] at h
  exact h
