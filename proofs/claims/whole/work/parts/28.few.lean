/-! SCRIPTS OF AT MOST THREE INTS -/
theorem mw_f2t {ρ : Nat → Int32} {x y : mv_I} (h : (mv_dI ρ x).toInt < (mv_dI ρ y).toInt) : mv_hold ρ (2, x, y, true) := ⟨fun _ => rfl, fun _ => Int32.lt_iff_toInt_lt.mpr h⟩
theorem mw_f0 {ρ : Nat → Int32} {i : Int32} (h0 : ρ 0 = 3) (h : i < 3) : mv_hold ρ (2, .inl i, .inr 0, true) := ⟨fun _ => rfl, fun _ => by
  show i < ρ 0
  rw [h0]
  exact h⟩
theorem mw_f2f {ρ : Nat → Int32} {x y : mv_I} (h : ¬ (mv_dI ρ x).toInt < (mv_dI ρ y).toInt) : mv_hold ρ (2, x, y, false) := ⟨fun q => absurd (Int32.lt_iff_toInt_lt.mp q) h, fun q => by cases q⟩
theorem mw_f4t {ρ : Nat → Int32} {x y : mv_I} (h : (mv_dI ρ y).toInt < (mv_dI ρ x).toInt) : mv_hold ρ (4, x, y, true) := ⟨fun _ => rfl, fun _ => Int32.lt_iff_toInt_lt.mpr h⟩
theorem mw_f4f {ρ : Nat → Int32} {x y : mv_I} (h : ¬ (mv_dI ρ y).toInt < (mv_dI ρ x).toInt) : mv_hold ρ (4, x, y, false) := ⟨fun q => absurd (Int32.lt_iff_toInt_lt.mp q) h, fun q => by cases q⟩
theorem mw_f5t {ρ : Nat → Int32} {x y : mv_I} (h : (mv_dI ρ x).toInt ≤ (mv_dI ρ y).toInt) : mv_hold ρ (5, x, y, true) := ⟨fun _ => rfl, fun _ => Int32.le_iff_toInt_le.mpr h⟩
theorem mw_f5f {ρ : Nat → Int32} {x y : mv_I} (h : ¬ (mv_dI ρ x).toInt ≤ (mv_dI ρ y).toInt) : mv_hold ρ (5, x, y, false) := ⟨fun q => absurd (Int32.le_iff_toInt_le.mp q) h, fun q => by cases q⟩
theorem mw_f6t {ρ : Nat → Int32} {x y : mv_I} (h : mj_c (mv_dI ρ x)) : mv_hold ρ (6, x, y, true) := ⟨fun _ => rfl, fun _ => h⟩
theorem mw_all_nil {P : (Nat × mv_I × mv_I × Bool) → Prop} : ∀ z ∈ ([] : mv_F), P z := fun z hz => absurd hz List.not_mem_nil
theorem mw_all_cons {P : (Nat × mv_I × mv_I × Bool) → Prop} {a : Nat × mv_I × mv_I × Bool} {l : mv_F} (h : P a) (hl : ∀ z ∈ l, P z) : ∀ z ∈ a :: l, P z := fun z hz => (List.mem_cons.mp hz).elim (fun e => by rw [e]; exact h) (hl z)
theorem mw_of_toInt {x : Int32} {k : Nat} (h : x.toInt = (k : Int)) (hk : k < 2147483648) : x = Int32.ofNat k := by
  apply Int32.toInt_inj.mp
  rw [h]
  exact (nI_toInt hk).symm
theorem mw_i2c (x : Int32) : 0 ≤ ((x.toUInt32 % 65536).toInt32).toInt ∧ ((x.toUInt32 % 65536).toInt32).toInt ≤ 65535 := by
  have h1 : (x.toUInt32 % 65536).toNat < 65536 := by
    rw [UInt32.toNat_mod]
    exact Nat.mod_lt _ (by decide)
  have h2 : (x.toUInt32 % 65536).toInt32 = Int32.ofNat (x.toUInt32 % 65536).toNat := by
    apply Int32.toBitVec_inj.mp
    apply BitVec.eq_of_toNat_eq
    show (x.toUInt32 % 65536).toNat = (BitVec.ofNat 32 (x.toUInt32 % 65536).toNat).toNat
    rw [BitVec.toNat_ofNat, Nat.mod_eq_of_lt (by omega)]
  rw [h2]
  have h3 : (Int32.ofNat (x.toUInt32 % 65536).toNat).toInt = ((x.toUInt32 % 65536).toNat : Int) := nI_toInt (by omega)
  rw [h3]
  omega
theorem mw_and31 (x : Int32) : ∃ k, k < 32 ∧ x &&& 31 = Int32.ofNat k := by
  refine ⟨(x.toBitVec &&& 31#32).toNat, ?_, ?_⟩
  · rw [BitVec.toNat_and]
    exact Nat.lt_of_le_of_lt Nat.and_le_right (by decide)
  · apply Int32.toBitVec_inj.mp
    apply BitVec.eq_of_toNat_eq
    show (x.toBitVec &&& 31#32).toNat = (BitVec.ofNat 32 (x.toBitVec &&& 31#32).toNat).toNat
    rw [BitVec.toNat_ofNat, Nat.mod_eq_of_lt (BitVec.isLt _)]
theorem mw_ht {ρ : Nat → Int32} {op : Int32} {l : mv_T} (h0 : ρ 0 = 3) (h1 : ρ 1 &&& 31 = op) (hl : ∀ e ∈ l, mv_dI ρ e.2.2.2 = mv_ops e.1 (mv_dI ρ e.2.1) (mv_dI ρ e.2.2.1)) : mv_okT ρ (mw_b op l) := by
  refine ⟨by rw [h0]; decide, fun e he => ?_⟩
  rcases List.mem_cons.mp he with rfl | he
  · show (0 : Int32) = ρ 0 - 3
    rw [h0]
    rfl
  · rcases List.mem_cons.mp he with rfl | he
    · exact h1.symm
    · exact hl e he
theorem mw_h1 {P : (Nat × mv_I × mv_I × mv_I) → Prop} {a : Nat × mv_I × mv_I × mv_I} (h : P a) : ∀ e ∈ [a], P e := fun e he => by
  rw [List.mem_singleton.mp he]
  exact h
theorem mw_h2 {P : (Nat × mv_I × mv_I × mv_I) → Prop} {a b : Nat × mv_I × mv_I × mv_I} (h : P a) (h2 : P b) : ∀ e ∈ [a, b], P e := fun e he => by
  rcases List.mem_cons.mp he with rfl | he
  · exact h
  · rw [List.mem_singleton.mp he]
    exact h2
theorem mw_h0 {P : (Nat × mv_I × mv_I × mv_I) → Prop} : ∀ e ∈ ([] : mv_T), P e := fun e he => absurd he List.not_mem_nil
theorem mw_s_1 {ρ : Nat → Int32} (h0 : ρ 0 = 3) (h2 : ρ 2 = ((ρ 3).toUInt32 % 65536).toInt32) (h1 : ρ 1 &&& 31 = 1) : mw_S ρ := by
  exact mw_op (mw_ht h0 h1 mw_h0) mw_t_o1 (mw_all_cons (mw_f0 h0 (by decide)) (mw_all_nil))
theorem mw_s_2 {ρ : Nat → Int32} (h0 : ρ 0 = 3) (h2 : ρ 2 = ((ρ 3).toUInt32 % 65536).toInt32) (h1 : ρ 1 &&& 31 = 2) : mw_S ρ := by
  exact mw_op (mw_ht h0 h1 mw_h0) mw_t_o2 (mw_all_cons (mw_f0 h0 (by decide)) (mw_all_nil))
theorem mw_s_13 {ρ : Nat → Int32} (h0 : ρ 0 = 3) (h2 : ρ 2 = ((ρ 3).toUInt32 % 65536).toInt32) (h1 : ρ 1 &&& 31 = 13) : mw_S ρ := by
  exact mw_op (mw_ht h0 h1 mw_h0) mw_t_o13 (mw_all_cons (mw_f0 h0 (by decide)) (mw_all_nil))
theorem mw_s_14 {ρ : Nat → Int32} (h0 : ρ 0 = 3) (h2 : ρ 2 = ((ρ 3).toUInt32 % 65536).toInt32) (h1 : ρ 1 &&& 31 = 14) : mw_S ρ := by
  exact mw_op (mw_ht h0 h1 mw_h0) mw_t_o14 (mw_all_cons (mw_f0 h0 (by decide)) (mw_all_nil))
theorem mw_s_15 {ρ : Nat → Int32} (h0 : ρ 0 = 3) (h2 : ρ 2 = ((ρ 3).toUInt32 % 65536).toInt32) (h1 : ρ 1 &&& 31 = 15) : mw_S ρ := by
  exact mw_op (mw_ht h0 h1 mw_h0) mw_t_o15 (mw_all_cons (mw_f0 h0 (by decide)) (mw_all_nil))
theorem mw_s_20 {ρ : Nat → Int32} (h0 : ρ 0 = 3) (h2 : ρ 2 = ((ρ 3).toUInt32 % 65536).toInt32) (h1 : ρ 1 &&& 31 = 20) : mw_S ρ := by
  exact mw_op (mw_ht h0 h1 mw_h0) mw_t_o20 (mw_all_cons (mw_f0 h0 (by decide)) (mw_all_nil))
theorem mw_s_21 {ρ : Nat → Int32} (h0 : ρ 0 = 3) (h2 : ρ 2 = ((ρ 3).toUInt32 % 65536).toInt32) (h1 : ρ 1 &&& 31 = 21) : mw_S ρ := by
  exact mw_op (mw_ht h0 h1 mw_h0) mw_t_o21 (mw_all_cons (mw_f0 h0 (by decide)) (mw_all_nil))
theorem mw_s_25 {ρ : Nat → Int32} (h0 : ρ 0 = 3) (h2 : ρ 2 = ((ρ 3).toUInt32 % 65536).toInt32) (h1 : ρ 1 &&& 31 = 25) : mw_S ρ := by
  exact mw_op (mw_ht h0 h1 mw_h0) mw_t_o25 (mw_all_cons (mw_f0 h0 (by decide)) (mw_all_nil))
theorem mw_s_26 {ρ : Nat → Int32} (h0 : ρ 0 = 3) (h2 : ρ 2 = ((ρ 3).toUInt32 % 65536).toInt32) (h1 : ρ 1 &&& 31 = 26) : mw_S ρ := by
  exact mw_op (mw_ht h0 h1 mw_h0) mw_t_o26 (mw_all_cons (mw_f0 h0 (by decide)) (mw_all_nil))
theorem mw_s_27 {ρ : Nat → Int32} (h0 : ρ 0 = 3) (h2 : ρ 2 = ((ρ 3).toUInt32 % 65536).toInt32) (h1 : ρ 1 &&& 31 = 27) : mw_S ρ := by
  exact mw_op (mw_ht h0 h1 mw_h0) mw_t_o27 (mw_all_cons (mw_f0 h0 (by decide)) (mw_all_nil))
theorem mw_s_28 {ρ : Nat → Int32} (h0 : ρ 0 = 3) (h2 : ρ 2 = ((ρ 3).toUInt32 % 65536).toInt32) (h1 : ρ 1 &&& 31 = 28) : mw_S ρ := by
  exact mw_op (mw_ht h0 h1 mw_h0) mw_t_o28 (mw_all_cons (mw_f0 h0 (by decide)) (mw_all_nil))
theorem mw_s_29 {ρ : Nat → Int32} (h0 : ρ 0 = 3) (h2 : ρ 2 = ((ρ 3).toUInt32 % 65536).toInt32) (h1 : ρ 1 &&& 31 = 29) : mw_S ρ := by
  exact mw_op (mw_ht h0 h1 mw_h0) mw_t_o29 (mw_all_cons (mw_f0 h0 (by decide)) (mw_all_nil))
theorem mw_s_30 {ρ : Nat → Int32} (h0 : ρ 0 = 3) (h2 : ρ 2 = ((ρ 3).toUInt32 % 65536).toInt32) (h1 : ρ 1 &&& 31 = 30) : mw_S ρ := by
  exact mw_op (mw_ht h0 h1 mw_h0) mw_t_o30 (mw_all_cons (mw_f0 h0 (by decide)) (mw_all_nil))
theorem mw_s_31 {ρ : Nat → Int32} (h0 : ρ 0 = 3) (h2 : ρ 2 = ((ρ 3).toUInt32 % 65536).toInt32) (h1 : ρ 1 &&& 31 = 31) : mw_S ρ := by
  exact mw_op (mw_ht h0 h1 mw_h0) mw_t_o31 (mw_all_cons (mw_f0 h0 (by decide)) (mw_all_nil))
theorem mw_s_5 {ρ : Nat → Int32} (h0 : ρ 0 = 3) (h2 : ρ 2 = ((ρ 3).toUInt32 % 65536).toInt32) (h1 : ρ 1 &&& 31 = 5) : mw_S ρ := by
  have hc := mw_i2c (ρ 3)
  rw [← h2] at hc
  by_cases ha : (ρ 2).toInt < 97
  · exact mw_op (mw_ht h0 h1 (mw_h1 (a := (8, .inr 3, .inl 0, .inr 2)) h2)) mw_t_o5_lo (mw_all_cons (mw_f2t (show (ρ 2).toInt < (97 : Int) by omega)) (mw_all_cons (mw_f0 h0 (by decide)) (mw_all_cons (mw_f0 h0 (by decide)) (mw_all_cons (mw_f0 h0 (by decide)) (mw_all_nil)))))
  by_cases hb : 122 < (ρ 2).toInt
  · exact mw_op (mw_ht h0 h1 (mw_h1 (a := (8, .inr 3, .inl 0, .inr 2)) h2)) mw_t_o5_hi (mw_all_cons (mw_f4t (show (122 : Int) < (ρ 2).toInt by omega)) (mw_all_cons (mw_f2f (show ¬ (ρ 2).toInt < (97 : Int) by omega)) (mw_all_cons (mw_f0 h0 (by decide)) (mw_all_cons (mw_f0 h0 (by decide)) (mw_all_cons (mw_f0 h0 (by decide)) (mw_all_nil))))))
  · skip
    obtain ⟨k, hk, ek⟩ : ∃ k, k < 26 ∧ ρ 2 = Int32.ofNat (97 + k) := ⟨((ρ 2).toInt - 97).toNat, by omega, mw_of_toInt (by omega) (by omega)⟩
    exact mw_op (mw_ht h0 h1 (mw_h1 (a := (8, .inr 3, .inl 0, .inl (Int32.ofNat (97 + k)))) (show Int32.ofNat (97 + k) = ((ρ 3).toUInt32 % 65536).toInt32 from by rw [← h2]; exact ek.symm))) (List.all_eq_true.mp mw_t_o5_a k (List.mem_range.mpr hk)) (mw_all_cons (mw_f0 h0 (by decide)) (mw_all_cons (mw_f0 h0 (by decide)) (mw_all_cons (mw_f0 h0 (by decide)) (mw_all_nil))))
theorem mw_s_6 {ρ : Nat → Int32} (h0 : ρ 0 = 3) (h2 : ρ 2 = ((ρ 3).toUInt32 % 65536).toInt32) (h1 : ρ 1 &&& 31 = 6) : mw_S ρ := by
  have hc := mw_i2c (ρ 3)
  rw [← h2] at hc
  by_cases ha : (ρ 2).toInt < 97
  · exact mw_op (mw_ht h0 h1 (mw_h1 (a := (8, .inr 3, .inl 0, .inr 2)) h2)) mw_t_o6_lo (mw_all_cons (mw_f2t (show (ρ 2).toInt < (97 : Int) by omega)) (mw_all_cons (mw_f0 h0 (by decide)) (mw_all_cons (mw_f0 h0 (by decide)) (mw_all_nil))))
  by_cases hb : 122 < (ρ 2).toInt
  · exact mw_op (mw_ht h0 h1 (mw_h1 (a := (8, .inr 3, .inl 0, .inr 2)) h2)) mw_t_o6_hi (mw_all_cons (mw_f4t (show (122 : Int) < (ρ 2).toInt by omega)) (mw_all_cons (mw_f2f (show ¬ (ρ 2).toInt < (97 : Int) by omega)) (mw_all_cons (mw_f0 h0 (by decide)) (mw_all_cons (mw_f0 h0 (by decide)) (mw_all_nil)))))
  · skip
    obtain ⟨k, hk, ek⟩ : ∃ k, k < 26 ∧ ρ 2 = Int32.ofNat (97 + k) := ⟨((ρ 2).toInt - 97).toNat, by omega, mw_of_toInt (by omega) (by omega)⟩
    exact mw_op (mw_ht h0 h1 (mw_h1 (a := (8, .inr 3, .inl 0, .inl (Int32.ofNat (97 + k)))) (show Int32.ofNat (97 + k) = ((ρ 3).toUInt32 % 65536).toInt32 from by rw [← h2]; exact ek.symm))) (List.all_eq_true.mp mw_t_o6_a k (List.mem_range.mpr hk)) (mw_all_cons (mw_f0 h0 (by decide)) (mw_all_cons (mw_f0 h0 (by decide)) (mw_all_nil)))
theorem mw_s_7 {ρ : Nat → Int32} (h0 : ρ 0 = 3) (h2 : ρ 2 = ((ρ 3).toUInt32 % 65536).toInt32) (h1 : ρ 1 &&& 31 = 7) : mw_S ρ := by
  have hc := mw_i2c (ρ 3)
  rw [← h2] at hc
  by_cases ha : (ρ 2).toInt < 97
  · exact mw_op (mw_ht h0 h1 (mw_h1 (a := (8, .inr 3, .inl 0, .inr 2)) h2)) mw_t_o7_lo (mw_all_cons (mw_f2t (show (ρ 2).toInt < (97 : Int) by omega)) (mw_all_cons (mw_f0 h0 (by decide)) (mw_all_cons (mw_f0 h0 (by decide)) (mw_all_nil))))
  by_cases hb : 122 < (ρ 2).toInt
  · exact mw_op (mw_ht h0 h1 (mw_h1 (a := (8, .inr 3, .inl 0, .inr 2)) h2)) mw_t_o7_hi (mw_all_cons (mw_f4t (show (122 : Int) < (ρ 2).toInt by omega)) (mw_all_cons (mw_f2f (show ¬ (ρ 2).toInt < (97 : Int) by omega)) (mw_all_cons (mw_f0 h0 (by decide)) (mw_all_cons (mw_f0 h0 (by decide)) (mw_all_nil)))))
  · skip
    obtain ⟨k, hk, ek⟩ : ∃ k, k < 26 ∧ ρ 2 = Int32.ofNat (97 + k) := ⟨((ρ 2).toInt - 97).toNat, by omega, mw_of_toInt (by omega) (by omega)⟩
    exact mw_op (mw_ht h0 h1 (mw_h1 (a := (8, .inr 3, .inl 0, .inl (Int32.ofNat (97 + k)))) (show Int32.ofNat (97 + k) = ((ρ 3).toUInt32 % 65536).toInt32 from by rw [← h2]; exact ek.symm))) (List.all_eq_true.mp mw_t_o7_a k (List.mem_range.mpr hk)) (mw_all_cons (mw_f0 h0 (by decide)) (mw_all_cons (mw_f0 h0 (by decide)) (mw_all_nil)))
theorem mw_s_8 {ρ : Nat → Int32} (h0 : ρ 0 = 3) (h2 : ρ 2 = ((ρ 3).toUInt32 % 65536).toInt32) (h1 : ρ 1 &&& 31 = 8) : mw_S ρ := by
  have hc := mw_i2c (ρ 3)
  rw [← h2] at hc
  by_cases ha : (ρ 2).toInt < 97
  · exact mw_op (mw_ht h0 h1 (mw_h1 (a := (8, .inr 3, .inl 0, .inr 2)) h2)) mw_t_o8_lo (mw_all_cons (mw_f2t (show (ρ 2).toInt < (97 : Int) by omega)) (mw_all_cons (mw_f0 h0 (by decide)) (mw_all_cons (mw_f0 h0 (by decide)) (mw_all_cons (mw_f0 h0 (by decide)) (mw_all_nil)))))
  by_cases hb : 122 < (ρ 2).toInt
  · exact mw_op (mw_ht h0 h1 (mw_h1 (a := (8, .inr 3, .inl 0, .inr 2)) h2)) mw_t_o8_hi (mw_all_cons (mw_f4t (show (122 : Int) < (ρ 2).toInt by omega)) (mw_all_cons (mw_f2f (show ¬ (ρ 2).toInt < (97 : Int) by omega)) (mw_all_cons (mw_f0 h0 (by decide)) (mw_all_cons (mw_f0 h0 (by decide)) (mw_all_cons (mw_f0 h0 (by decide)) (mw_all_nil))))))
  · skip
    obtain ⟨k, hk, ek⟩ : ∃ k, k < 26 ∧ ρ 2 = Int32.ofNat (97 + k) := ⟨((ρ 2).toInt - 97).toNat, by omega, mw_of_toInt (by omega) (by omega)⟩
    exact mw_op (mw_ht h0 h1 (mw_h1 (a := (8, .inr 3, .inl 0, .inl (Int32.ofNat (97 + k)))) (show Int32.ofNat (97 + k) = ((ρ 3).toUInt32 % 65536).toInt32 from by rw [← h2]; exact ek.symm))) (List.all_eq_true.mp mw_t_o8_a k (List.mem_range.mpr hk)) (mw_all_cons (mw_f0 h0 (by decide)) (mw_all_cons (mw_f0 h0 (by decide)) (mw_all_cons (mw_f0 h0 (by decide)) (mw_all_nil))))
theorem mw_s_9 {ρ : Nat → Int32} (h0 : ρ 0 = 3) (h2 : ρ 2 = ((ρ 3).toUInt32 % 65536).toInt32) (h1 : ρ 1 &&& 31 = 9) : mw_S ρ := by
  have hc := mw_i2c (ρ 3)
  rw [← h2] at hc
  by_cases ha : (ρ 2).toInt < 97
  · exact mw_op (mw_ht h0 h1 (mw_h1 (a := (8, .inr 3, .inl 0, .inr 2)) h2)) mw_t_o9_lo (mw_all_cons (mw_f2t (show (ρ 2).toInt < (97 : Int) by omega)) (mw_all_cons (mw_f0 h0 (by decide)) (mw_all_cons (mw_f0 h0 (by decide)) (mw_all_nil))))
  by_cases hb : 122 < (ρ 2).toInt
  · exact mw_op (mw_ht h0 h1 (mw_h1 (a := (8, .inr 3, .inl 0, .inr 2)) h2)) mw_t_o9_hi (mw_all_cons (mw_f4t (show (122 : Int) < (ρ 2).toInt by omega)) (mw_all_cons (mw_f2f (show ¬ (ρ 2).toInt < (97 : Int) by omega)) (mw_all_cons (mw_f0 h0 (by decide)) (mw_all_cons (mw_f0 h0 (by decide)) (mw_all_nil)))))
  · skip
    obtain ⟨k, hk, ek⟩ : ∃ k, k < 26 ∧ ρ 2 = Int32.ofNat (97 + k) := ⟨((ρ 2).toInt - 97).toNat, by omega, mw_of_toInt (by omega) (by omega)⟩
    exact mw_op (mw_ht h0 h1 (mw_h1 (a := (8, .inr 3, .inl 0, .inl (Int32.ofNat (97 + k)))) (show Int32.ofNat (97 + k) = ((ρ 3).toUInt32 % 65536).toInt32 from by rw [← h2]; exact ek.symm))) (List.all_eq_true.mp mw_t_o9_a k (List.mem_range.mpr hk)) (mw_all_cons (mw_f0 h0 (by decide)) (mw_all_cons (mw_f0 h0 (by decide)) (mw_all_nil)))
theorem mw_s_10 {ρ : Nat → Int32} (h0 : ρ 0 = 3) (h2 : ρ 2 = ((ρ 3).toUInt32 % 65536).toInt32) (h1 : ρ 1 &&& 31 = 10) : mw_S ρ := by
  have hc := mw_i2c (ρ 3)
  rw [← h2] at hc
  by_cases ha : (ρ 2).toInt < 97
  · exact mw_op (mw_ht h0 h1 (mw_h1 (a := (8, .inr 3, .inl 0, .inr 2)) h2)) mw_t_o10_lo (mw_all_cons (mw_f2t (show (ρ 2).toInt < (97 : Int) by omega)) (mw_all_cons (mw_f0 h0 (by decide)) (mw_all_cons (mw_f0 h0 (by decide)) (mw_all_nil))))
  by_cases hb : 122 < (ρ 2).toInt
  · exact mw_op (mw_ht h0 h1 (mw_h1 (a := (8, .inr 3, .inl 0, .inr 2)) h2)) mw_t_o10_hi (mw_all_cons (mw_f4t (show (122 : Int) < (ρ 2).toInt by omega)) (mw_all_cons (mw_f2f (show ¬ (ρ 2).toInt < (97 : Int) by omega)) (mw_all_cons (mw_f0 h0 (by decide)) (mw_all_cons (mw_f0 h0 (by decide)) (mw_all_nil)))))
  · skip
    obtain ⟨k, hk, ek⟩ : ∃ k, k < 26 ∧ ρ 2 = Int32.ofNat (97 + k) := ⟨((ρ 2).toInt - 97).toNat, by omega, mw_of_toInt (by omega) (by omega)⟩
    exact mw_op (mw_ht h0 h1 (mw_h1 (a := (8, .inr 3, .inl 0, .inl (Int32.ofNat (97 + k)))) (show Int32.ofNat (97 + k) = ((ρ 3).toUInt32 % 65536).toInt32 from by rw [← h2]; exact ek.symm))) (List.all_eq_true.mp mw_t_o10_a k (List.mem_range.mpr hk)) (mw_all_cons (mw_f0 h0 (by decide)) (mw_all_cons (mw_f0 h0 (by decide)) (mw_all_nil)))
theorem mw_s_23 {ρ : Nat → Int32} (h0 : ρ 0 = 3) (h2 : ρ 2 = ((ρ 3).toUInt32 % 65536).toInt32) (h1 : ρ 1 &&& 31 = 23) : mw_S ρ := by
  have hc := mw_i2c (ρ 3)
  rw [← h2] at hc
  by_cases ha : (ρ 2).toInt < 97
  · exact mw_op (mw_ht h0 h1 (mw_h1 (a := (8, .inr 3, .inl 0, .inr 2)) h2)) mw_t_o23_lo (mw_all_cons (mw_f2t (show (ρ 2).toInt < (97 : Int) by omega)) (mw_all_cons (mw_f0 h0 (by decide)) (mw_all_cons (mw_f0 h0 (by decide)) (mw_all_cons (mw_f0 h0 (by decide)) (mw_all_nil)))))
  by_cases hb : 122 < (ρ 2).toInt
  · exact mw_op (mw_ht h0 h1 (mw_h1 (a := (8, .inr 3, .inl 0, .inr 2)) h2)) mw_t_o23_hi (mw_all_cons (mw_f4t (show (122 : Int) < (ρ 2).toInt by omega)) (mw_all_cons (mw_f2f (show ¬ (ρ 2).toInt < (97 : Int) by omega)) (mw_all_cons (mw_f0 h0 (by decide)) (mw_all_cons (mw_f0 h0 (by decide)) (mw_all_cons (mw_f0 h0 (by decide)) (mw_all_nil))))))
  · skip
    obtain ⟨k, hk, ek⟩ : ∃ k, k < 26 ∧ ρ 2 = Int32.ofNat (97 + k) := ⟨((ρ 2).toInt - 97).toNat, by omega, mw_of_toInt (by omega) (by omega)⟩
    by_cases ha : (ρ 5).toInt < 1
    · exact mw_op (mw_ht h0 h1 (mw_h1 (a := (8, .inr 3, .inl 0, .inl (Int32.ofNat (97 + k)))) (show Int32.ofNat (97 + k) = ((ρ 3).toUInt32 % 65536).toInt32 from by rw [← h2]; exact ek.symm))) (List.all_eq_true.mp mw_t_o23_alo k (List.mem_range.mpr hk)) (mw_all_cons (mw_f2t (show (ρ 5).toInt < (1 : Int) by omega)) (mw_all_cons (mw_f0 h0 (by decide)) (mw_all_cons (mw_f0 h0 (by decide)) (mw_all_cons (mw_f0 h0 (by decide)) (mw_all_nil)))))
    by_cases hb : 15 < (ρ 5).toInt
    · exact mw_op (mw_ht h0 h1 (mw_h1 (a := (8, .inr 3, .inl 0, .inl (Int32.ofNat (97 + k)))) (show Int32.ofNat (97 + k) = ((ρ 3).toUInt32 % 65536).toInt32 from by rw [← h2]; exact ek.symm))) (List.all_eq_true.mp mw_t_o23_ahi k (List.mem_range.mpr hk)) (mw_all_cons (mw_f4t (show (15 : Int) < (ρ 5).toInt by omega)) (mw_all_cons (mw_f2f (show ¬ (ρ 5).toInt < (1 : Int) by omega)) (mw_all_cons (mw_f0 h0 (by decide)) (mw_all_cons (mw_f0 h0 (by decide)) (mw_all_cons (mw_f5f (show ¬ (ρ 5).toInt ≤ (15 : Int) by omega)) (mw_all_cons (mw_f0 h0 (by decide)) (mw_all_nil)))))))
    · exact mw_op (mw_ht h0 h1 (mw_h1 (a := (8, .inr 3, .inl 0, .inl (Int32.ofNat (97 + k)))) (show Int32.ofNat (97 + k) = ((ρ 3).toUInt32 % 65536).toInt32 from by rw [← h2]; exact ek.symm))) (List.all_eq_true.mp mw_t_o23_ain k (List.mem_range.mpr hk)) (mw_all_cons (mw_f4f (show ¬ (15 : Int) < (ρ 5).toInt by omega)) (mw_all_cons (mw_f2f (show ¬ (ρ 5).toInt < (1 : Int) by omega)) (mw_all_cons (mw_f0 h0 (by decide)) (mw_all_cons (mw_f0 h0 (by decide)) (mw_all_cons (mw_f5t (show (ρ 5).toInt ≤ (15 : Int) by omega)) (mw_all_cons (mw_f0 h0 (by decide)) (mw_all_nil)))))))
theorem mw_s_0 {ρ : Nat → Int32} (h0 : ρ 0 = 3) (h2 : ρ 2 = ((ρ 3).toUInt32 % 65536).toInt32) (h1 : ρ 1 &&& 31 = 0) : mw_S ρ := by
  have hc := mw_i2c (ρ 3)
  rw [← h2] at hc
  have hc6 : mj_c (mv_dI ρ (.inr 2)) := ⟨Int32.le_iff_toInt_le.mpr (show (0 : Int) ≤ (ρ 2).toInt by omega), Int32.le_iff_toInt_le.mpr (show (ρ 2).toInt ≤ (65535 : Int) by omega)⟩
  by_cases ha : (ρ 2).toInt < 32
  · exact mw_op (mw_ht h0 h1 (mw_h1 (a := (8, .inr 3, .inl 0, .inr 2)) h2)) mw_t_o0_lo (mw_all_cons (mw_f2t (show (ρ 2).toInt < (32 : Int) by omega)) (mw_all_cons (mw_f0 h0 (by decide)) (mw_all_cons (mw_f0 h0 (by decide)) (mw_all_nil))))
  by_cases hb : 126 < (ρ 2).toInt
  · exact mw_op (mw_ht h0 h1 (mw_h1 (a := (8, .inr 3, .inl 0, .inr 2)) h2)) mw_t_o0_hi (mw_all_cons (mw_f4t (show (126 : Int) < (ρ 2).toInt by omega)) (mw_all_cons (mw_f2f (show ¬ (ρ 2).toInt < (32 : Int) by omega)) (mw_all_cons (mw_f0 h0 (by decide)) (mw_all_cons (mw_f5f (show ¬ (ρ 2).toInt ≤ (126 : Int) by omega)) (mw_all_cons (mw_f0 h0 (by decide)) (mw_all_nil))))))
  · exact mw_op (mw_ht h0 h1 (mw_h1 (a := (8, .inr 3, .inl 0, .inr 2)) h2)) mw_t_o0_in (mw_all_cons (mw_f4f (show ¬ (126 : Int) < (ρ 2).toInt by omega)) (mw_all_cons (mw_f2f (show ¬ (ρ 2).toInt < (32 : Int) by omega)) (mw_all_cons (mw_f0 h0 (by decide)) (mw_all_cons (mw_f6t hc6) (mw_all_cons (mw_f5t (show (ρ 2).toInt ≤ (126 : Int) by omega)) (mw_all_cons (mw_f0 h0 (by decide)) (mw_all_nil)))))))
theorem mw_s_3 {ρ : Nat → Int32} (h0 : ρ 0 = 3) (h2 : ρ 2 = ((ρ 3).toUInt32 % 65536).toInt32) (h1 : ρ 1 &&& 31 = 3) : mw_S ρ := by
  by_cases ha : (ρ 3).toInt < 0
  · exact mw_op (mw_ht h0 h1 mw_h0) mw_t_o3_lo (mw_all_cons (mw_f2t (show (ρ 3).toInt < (0 : Int) by omega)) (mw_all_cons (mw_f0 h0 (by decide)) (mw_all_cons (mw_f0 h0 (by decide)) (mw_all_nil))))
  by_cases hb : 9 < (ρ 3).toInt
  · exact mw_op (mw_ht h0 h1 mw_h0) mw_t_o3_hi (mw_all_cons (mw_f4t (show (9 : Int) < (ρ 3).toInt by omega)) (mw_all_cons (mw_f2f (show ¬ (ρ 3).toInt < (0 : Int) by omega)) (mw_all_cons (mw_f0 h0 (by decide)) (mw_all_cons (mw_f2f (show ¬ (ρ 3).toInt < (10 : Int) by omega)) (mw_all_cons (mw_f0 h0 (by decide)) (mw_all_nil))))))
  · obtain ⟨k, hk, ek⟩ : ∃ k, k < 10 ∧ ρ 3 = Int32.ofNat k := ⟨(ρ 3).toInt.toNat, by omega, mw_of_toInt (by omega) (by omega)⟩
    exact mw_op (mw_ht h0 h1 (mw_h1 (a := (9, .inr 3, .inl 0, .inl (Int32.ofNat k))) ek.symm)) (List.all_eq_true.mp mw_t_o3_a k (List.mem_range.mpr hk)) (mw_all_cons (mw_f0 h0 (by decide)) (mw_all_cons (mw_f0 h0 (by decide)) (mw_all_nil)))
theorem mw_s_12 {ρ : Nat → Int32} (h0 : ρ 0 = 3) (h2 : ρ 2 = ((ρ 3).toUInt32 % 65536).toInt32) (h1 : ρ 1 &&& 31 = 12) : mw_S ρ := by
  by_cases ha : (ρ 3).toInt < 0
  · exact mw_op (mw_ht h0 h1 mw_h0) mw_t_o12_lo (mw_all_cons (mw_f2t (show (ρ 3).toInt < (0 : Int) by omega)) (mw_all_cons (mw_f0 h0 (by decide)) (mw_all_cons (mw_f0 h0 (by decide)) (mw_all_nil))))
  by_cases hb : 9 < (ρ 3).toInt
  · exact mw_op (mw_ht h0 h1 mw_h0) mw_t_o12_hi (mw_all_cons (mw_f4t (show (9 : Int) < (ρ 3).toInt by omega)) (mw_all_cons (mw_f2f (show ¬ (ρ 3).toInt < (0 : Int) by omega)) (mw_all_cons (mw_f0 h0 (by decide)) (mw_all_cons (mw_f2f (show ¬ (ρ 3).toInt < (10 : Int) by omega)) (mw_all_cons (mw_f0 h0 (by decide)) (mw_all_nil))))))
  · obtain ⟨k, hk, ek⟩ : ∃ k, k < 10 ∧ ρ 3 = Int32.ofNat k := ⟨(ρ 3).toInt.toNat, by omega, mw_of_toInt (by omega) (by omega)⟩
    exact mw_op (mw_ht h0 h1 (mw_h1 (a := (9, .inr 3, .inl 0, .inl (Int32.ofNat k))) ek.symm)) (List.all_eq_true.mp mw_t_o12_a k (List.mem_range.mpr hk)) (mw_all_cons (mw_f0 h0 (by decide)) (mw_all_cons (mw_f0 h0 (by decide)) (mw_all_nil)))
theorem mw_s_22 {ρ : Nat → Int32} (h0 : ρ 0 = 3) (h2 : ρ 2 = ((ρ 3).toUInt32 % 65536).toInt32) (h1 : ρ 1 &&& 31 = 22) : mw_S ρ := by
  by_cases ha : (ρ 3).toInt < 0
  · exact mw_op (mw_ht h0 h1 mw_h0) mw_t_o22_lo (mw_all_cons (mw_f2t (show (ρ 3).toInt < (0 : Int) by omega)) (mw_all_cons (mw_f0 h0 (by decide)) (mw_all_cons (mw_f0 h0 (by decide)) (mw_all_nil))))
  by_cases hb : 9 < (ρ 3).toInt
  · exact mw_op (mw_ht h0 h1 mw_h0) mw_t_o22_hi (mw_all_cons (mw_f4t (show (9 : Int) < (ρ 3).toInt by omega)) (mw_all_cons (mw_f2f (show ¬ (ρ 3).toInt < (0 : Int) by omega)) (mw_all_cons (mw_f0 h0 (by decide)) (mw_all_cons (mw_f2f (show ¬ (ρ 3).toInt < (10 : Int) by omega)) (mw_all_cons (mw_f0 h0 (by decide)) (mw_all_nil))))))
  · obtain ⟨k, hk, ek⟩ : ∃ k, k < 10 ∧ ρ 3 = Int32.ofNat k := ⟨(ρ 3).toInt.toNat, by omega, mw_of_toInt (by omega) (by omega)⟩
    exact mw_op (mw_ht h0 h1 (mw_h1 (a := (9, .inr 3, .inl 0, .inl (Int32.ofNat k))) ek.symm)) (List.all_eq_true.mp mw_t_o22_a k (List.mem_range.mpr hk)) (mw_all_cons (mw_f0 h0 (by decide)) (mw_all_cons (mw_f0 h0 (by decide)) (mw_all_nil)))
theorem mw_s_24 {ρ : Nat → Int32} (h0 : ρ 0 = 3) (h2 : ρ 2 = ((ρ 3).toUInt32 % 65536).toInt32) (h1 : ρ 1 &&& 31 = 24) : mw_S ρ := by
  by_cases ha : (ρ 3).toInt < 0
  · exact mw_op (mw_ht h0 h1 mw_h0) mw_t_o24_lo (mw_all_cons (mw_f2t (show (ρ 3).toInt < (0 : Int) by omega)) (mw_all_cons (mw_f0 h0 (by decide)) (mw_all_cons (mw_f0 h0 (by decide)) (mw_all_nil))))
  by_cases hb : 9 < (ρ 3).toInt
  · exact mw_op (mw_ht h0 h1 mw_h0) mw_t_o24_hi (mw_all_cons (mw_f4t (show (9 : Int) < (ρ 3).toInt by omega)) (mw_all_cons (mw_f2f (show ¬ (ρ 3).toInt < (0 : Int) by omega)) (mw_all_cons (mw_f0 h0 (by decide)) (mw_all_cons (mw_f2f (show ¬ (ρ 3).toInt < (10 : Int) by omega)) (mw_all_cons (mw_f0 h0 (by decide)) (mw_all_nil))))))
  · obtain ⟨k, hk, ek⟩ : ∃ k, k < 10 ∧ ρ 3 = Int32.ofNat k := ⟨(ρ 3).toInt.toNat, by omega, mw_of_toInt (by omega) (by omega)⟩
    exact mw_op (mw_ht h0 h1 (mw_h1 (a := (9, .inr 3, .inl 0, .inl (Int32.ofNat k))) ek.symm)) (List.all_eq_true.mp mw_t_o24_a k (List.mem_range.mpr hk)) (mw_all_cons (mw_f0 h0 (by decide)) (mw_all_cons (mw_f0 h0 (by decide)) (mw_all_nil)))
theorem mw_s_19 {ρ : Nat → Int32} (h0 : ρ 0 = 3) (h2 : ρ 2 = ((ρ 3).toUInt32 % 65536).toInt32) (h1 : ρ 1 &&& 31 = 19) : mw_S ρ := by
  by_cases ha : (ρ 3).toInt < 0
  · exact mw_op (mw_ht h0 h1 mw_h0) mw_t_o19_lo (mw_all_cons (mw_f2t (show (ρ 3).toInt < (0 : Int) by omega)) (mw_all_cons (mw_f0 h0 (by decide)) (mw_all_cons (mw_f0 h0 (by decide)) (mw_all_nil))))
  by_cases hb : 0 < (ρ 3).toInt
  · exact mw_op (mw_ht h0 h1 mw_h0) mw_t_o19_hi (mw_all_cons (mw_f4t (show (0 : Int) < (ρ 3).toInt by omega)) (mw_all_cons (mw_f2f (show ¬ (ρ 3).toInt < (0 : Int) by omega)) (mw_all_cons (mw_f0 h0 (by decide)) (mw_all_cons (mw_f5f (show ¬ (ρ 3).toInt ≤ (0 : Int) by omega)) (mw_all_cons (mw_f0 h0 (by decide)) (mw_all_nil))))))
  · obtain ⟨k, hk, ek⟩ : ∃ k, k < 1 ∧ ρ 3 = Int32.ofNat k := ⟨(ρ 3).toInt.toNat, by omega, mw_of_toInt (by omega) (by omega)⟩
    exact mw_op (mw_ht h0 h1 (mw_h1 (a := (9, .inr 3, .inl 0, .inl (Int32.ofNat k))) ek.symm)) (List.all_eq_true.mp mw_t_o19_a k (List.mem_range.mpr hk)) (mw_all_cons (mw_f0 h0 (by decide)) (mw_all_cons (mw_f0 h0 (by decide)) (mw_all_nil)))
theorem mw_s_16 {ρ : Nat → Int32} (h0 : ρ 0 = 3) (h2 : ρ 2 = ((ρ 3).toUInt32 % 65536).toInt32) (h1 : ρ 1 &&& 31 = 16) : mw_S ρ := by
  by_cases ha : (ρ 3).toInt < 0
  · exact mw_op (mw_ht h0 h1 mw_h0) mw_t_o16_lo (mw_all_cons (mw_f2t (show (ρ 3).toInt < (0 : Int) by omega)) (mw_all_cons (mw_f0 h0 (by decide)) (mw_all_cons (mw_f0 h0 (by decide)) (mw_all_nil))))
  · exact mw_op (mw_ht h0 h1 mw_h0) mw_t_o16_hi (mw_all_cons (mw_f4t (show (-1 : Int) < (ρ 3).toInt by omega)) (mw_all_cons (mw_f2f (show ¬ (ρ 3).toInt < (0 : Int) by omega)) (mw_all_cons (mw_f0 h0 (by decide)) (mw_all_cons (mw_f0 h0 (by decide)) (mw_all_nil)))))
theorem mw_s_17 {ρ : Nat → Int32} (h0 : ρ 0 = 3) (h2 : ρ 2 = ((ρ 3).toUInt32 % 65536).toInt32) (h1 : ρ 1 &&& 31 = 17) : mw_S ρ := by
  by_cases ha : (ρ 3).toInt < 0
  · exact mw_op (mw_ht h0 h1 mw_h0) mw_t_o17_lo (mw_all_cons (mw_f2t (show (ρ 3).toInt < (0 : Int) by omega)) (mw_all_cons (mw_f0 h0 (by decide)) (mw_all_cons (mw_f0 h0 (by decide)) (mw_all_nil))))
  · exact mw_op (mw_ht h0 h1 mw_h0) mw_t_o17_hi (mw_all_cons (mw_f4t (show (-1 : Int) < (ρ 3).toInt by omega)) (mw_all_cons (mw_f2f (show ¬ (ρ 3).toInt < (0 : Int) by omega)) (mw_all_cons (mw_f0 h0 (by decide)) (mw_all_cons (mw_f0 h0 (by decide)) (mw_all_nil)))))
theorem mw_s_18 {ρ : Nat → Int32} (h0 : ρ 0 = 3) (h2 : ρ 2 = ((ρ 3).toUInt32 % 65536).toInt32) (h1 : ρ 1 &&& 31 = 18) : mw_S ρ := by
  by_cases ha : (ρ 3).toInt < 0
  · exact mw_op (mw_ht h0 h1 mw_h0) mw_t_o18_lo (mw_all_cons (mw_f2t (show (ρ 3).toInt < (0 : Int) by omega)) (mw_all_cons (mw_f0 h0 (by decide)) (mw_all_cons (mw_f0 h0 (by decide)) (mw_all_nil))))
  · exact mw_op (mw_ht h0 h1 mw_h0) mw_t_o18_hi (mw_all_cons (mw_f4t (show (-1 : Int) < (ρ 3).toInt by omega)) (mw_all_cons (mw_f2f (show ¬ (ρ 3).toInt < (0 : Int) by omega)) (mw_all_cons (mw_f0 h0 (by decide)) (mw_all_cons (mw_f0 h0 (by decide)) (mw_all_nil)))))
theorem mw_s_11 {ρ : Nat → Int32} (h0 : ρ 0 = 3) (h2 : ρ 2 = ((ρ 3).toUInt32 % 65536).toInt32) (h1 : ρ 1 &&& 31 = 11) : mw_S ρ := by
  by_cases ha : (ρ 3).toInt < 1
  · exact mw_op (mw_ht h0 h1 mw_h0) mw_t_o11_lo (mw_all_cons (mw_f2t (show (ρ 3).toInt < (1 : Int) by omega)) (mw_all_cons (mw_f0 h0 (by decide)) (mw_all_cons (mw_f0 h0 (by decide)) (mw_all_nil))))
  by_cases hb : 2000 < (ρ 3).toInt
  · exact mw_op (mw_ht h0 h1 mw_h0) mw_t_o11_hi (mw_all_cons (mw_f4t (show (2000 : Int) < (ρ 3).toInt by omega)) (mw_all_cons (mw_f2f (show ¬ (ρ 3).toInt < (1 : Int) by omega)) (mw_all_cons (mw_f0 h0 (by decide)) (mw_all_cons (mw_f5f (show ¬ (ρ 3).toInt ≤ (2000 : Int) by omega)) (mw_all_cons (mw_f0 h0 (by decide)) (mw_all_nil))))))
  · exact mw_op (mw_ht h0 h1 mw_h0) mw_t_o11_in (mw_all_cons (mw_f4f (show ¬ (2000 : Int) < (ρ 3).toInt by omega)) (mw_all_cons (mw_f2f (show ¬ (ρ 3).toInt < (1 : Int) by omega)) (mw_all_cons (mw_f0 h0 (by decide)) (mw_all_cons (mw_f5t (show (ρ 3).toInt ≤ (2000 : Int) by omega)) (mw_all_cons (mw_f0 h0 (by decide)) (mw_all_nil))))))
theorem mw_s_4 {ρ : Nat → Int32} (h0 : ρ 0 = 3) (h2 : ρ 2 = ((ρ 3).toUInt32 % 65536).toInt32) (h1 : ρ 1 &&& 31 = 4) : mw_S ρ := by
  by_cases ha : (ρ 3).toInt < 0
  · exact mw_op (mw_ht h0 h1 mw_h0) mw_t_o4_lo (mw_all_cons (mw_f2t (show (ρ 3).toInt < (0 : Int) by omega)) (mw_all_cons (mw_f0 h0 (by decide)) (mw_all_cons (mw_f0 h0 (by decide)) (mw_all_cons (mw_f0 h0 (by decide)) (mw_all_nil)))))
  by_cases hb : 9 < (ρ 3).toInt
  · exact mw_op (mw_ht h0 h1 mw_h0) mw_t_o4_hi (mw_all_cons (mw_f4t (show (9 : Int) < (ρ 3).toInt by omega)) (mw_all_cons (mw_f2f (show ¬ (ρ 3).toInt < (0 : Int) by omega)) (mw_all_cons (mw_f0 h0 (by decide)) (mw_all_cons (mw_f0 h0 (by decide)) (mw_all_cons (mw_f2f (show ¬ (ρ 3).toInt < (10 : Int) by omega)) (mw_all_cons (mw_f0 h0 (by decide)) (mw_all_nil)))))))
  by_cases hc : (ρ 5).toInt < 0
  · exact mw_op (mw_ht h0 h1 mw_h0) mw_t_o4_flo (mw_all_cons (mw_f2t (show (ρ 5).toInt < (0 : Int) by omega)) (mw_all_cons (mw_f4f (show ¬ (9 : Int) < (ρ 3).toInt by omega)) (mw_all_cons (mw_f2f (show ¬ (ρ 3).toInt < (0 : Int) by omega)) (mw_all_cons (mw_f0 h0 (by decide)) (mw_all_cons (mw_f0 h0 (by decide)) (mw_all_cons (mw_f2t (show (ρ 3).toInt < (10 : Int) by omega)) (mw_all_cons (mw_f0 h0 (by decide)) (mw_all_nil))))))))
  by_cases hd : 1 < (ρ 5).toInt
  · exact mw_op (mw_ht h0 h1 mw_h0) mw_t_o4_fhi (mw_all_cons (mw_f4t (show (1 : Int) < (ρ 5).toInt by omega)) (mw_all_cons (mw_f2f (show ¬ (ρ 5).toInt < (0 : Int) by omega)) (mw_all_cons (mw_f4f (show ¬ (9 : Int) < (ρ 3).toInt by omega)) (mw_all_cons (mw_f2f (show ¬ (ρ 3).toInt < (0 : Int) by omega)) (mw_all_cons (mw_f0 h0 (by decide)) (mw_all_cons (mw_f0 h0 (by decide)) (mw_all_cons (mw_f5f (show ¬ (ρ 5).toInt ≤ (1 : Int) by omega)) (mw_all_cons (mw_f2t (show (ρ 3).toInt < (10 : Int) by omega)) (mw_all_cons (mw_f0 h0 (by decide)) (mw_all_nil))))))))))
  · obtain ⟨k, hk, ek⟩ : ∃ k, k < 10 ∧ ρ 3 = Int32.ofNat k := ⟨(ρ 3).toInt.toNat, by omega, mw_of_toInt (by omega) (by omega)⟩
    by_cases he : (ρ 5).toInt = 0
    · have ef : ρ 5 = 0 := mw_of_toInt (k := 0) he (by omega)
      exact mw_op (mw_ht h0 h1 (mw_h2 (a := (9, .inr 3, .inl 0, .inl (Int32.ofNat k))) (b := (9, .inr 5, .inl 0, .inl 0)) ek.symm ef.symm)) (List.all_eq_true.mp mw_t_o4_a0 k (List.mem_range.mpr hk)) (mw_all_cons (mw_f0 h0 (by decide)) (mw_all_cons (mw_f0 h0 (by decide)) (mw_all_cons (mw_f0 h0 (by decide)) (mw_all_nil))))
    · have ef : ρ 5 = 1 := mw_of_toInt (k := 1) (by omega) (by omega)
      exact mw_op (mw_ht h0 h1 (mw_h2 (a := (9, .inr 3, .inl 0, .inl (Int32.ofNat k))) (b := (9, .inr 5, .inl 0, .inl 1)) ek.symm ef.symm)) (List.all_eq_true.mp mw_t_o4_a1 k (List.mem_range.mpr hk)) (mw_all_cons (mw_f0 h0 (by decide)) (mw_all_cons (mw_f0 h0 (by decide)) (mw_all_cons (mw_f0 h0 (by decide)) (mw_all_nil))))
theorem mw_s {ρ : Nat → Int32} (h0 : ρ 0 = 3) (h2 : ρ 2 = ((ρ 3).toUInt32 % 65536).toInt32) : mw_S ρ := by
  obtain ⟨k, hk, h1⟩ := mw_and31 (ρ 1)
  have h : k = 0 ∨ k = 1 ∨ k = 2 ∨ k = 3 ∨ k = 4 ∨ k = 5 ∨ k = 6 ∨ k = 7 ∨ k = 8 ∨ k = 9 ∨ k = 10 ∨ k = 11 ∨ k = 12 ∨ k = 13 ∨ k = 14 ∨ k = 15 ∨ k = 16 ∨ k = 17 ∨ k = 18 ∨ k = 19 ∨ k = 20 ∨ k = 21 ∨ k = 22 ∨ k = 23 ∨ k = 24 ∨ k = 25 ∨ k = 26 ∨ k = 27 ∨ k = 28 ∨ k = 29 ∨ k = 30 ∨ k = 31 := by omega
  rcases h with rfl | rfl | rfl | rfl | rfl | rfl | rfl | rfl | rfl | rfl | rfl | rfl | rfl | rfl | rfl | rfl | rfl | rfl | rfl | rfl | rfl | rfl | rfl | rfl | rfl | rfl | rfl | rfl | rfl | rfl | rfl | rfl
  · exact mw_s_0 h0 h2 h1
  · exact mw_s_1 h0 h2 h1
  · exact mw_s_2 h0 h2 h1
  · exact mw_s_3 h0 h2 h1
  · exact mw_s_4 h0 h2 h1
  · exact mw_s_5 h0 h2 h1
  · exact mw_s_6 h0 h2 h1
  · exact mw_s_7 h0 h2 h1
  · exact mw_s_8 h0 h2 h1
  · exact mw_s_9 h0 h2 h1
  · exact mw_s_10 h0 h2 h1
  · exact mw_s_11 h0 h2 h1
  · exact mw_s_12 h0 h2 h1
  · exact mw_s_13 h0 h2 h1
  · exact mw_s_14 h0 h2 h1
  · exact mw_s_15 h0 h2 h1
  · exact mw_s_16 h0 h2 h1
  · exact mw_s_17 h0 h2 h1
  · exact mw_s_18 h0 h2 h1
  · exact mw_s_19 h0 h2 h1
  · exact mw_s_20 h0 h2 h1
  · exact mw_s_21 h0 h2 h1
  · exact mw_s_22 h0 h2 h1
  · exact mw_s_23 h0 h2 h1
  · exact mw_s_24 h0 h2 h1
  · exact mw_s_25 h0 h2 h1
  · exact mw_s_26 h0 h2 h1
  · exact mw_s_27 h0 h2 h1
  · exact mw_s_28 h0 h2 h1
  · exact mw_s_29 h0 h2 h1
  · exact mw_s_30 h0 h2 h1
  · exact mw_s_31 h0 h2 h1
def mw_bl (L : Nat) : mv_T := [(1, .inr 0, .inl 3, .inl (Int32.ofNat L - 3))]
set_option maxRecDepth 1000000 in
theorem mw_t_L : (List.range 3).all (fun L => mw_ck [] (mw_r (mw_bl L) [])) = true := by decide +kernel
def mw_ρ (L : Nat) (xs : Nat → Int32) (k : Nat) : Int32 := if k = 0 then Int32.ofNat L else if k = 2 then ((xs 1).toUInt32 % 65536).toInt32 else xs (k / 2)
theorem mw_short {L : Nat} {xs : Nat → Int32} (hL : L < 3) : mw_S (mw_ρ L xs) := by
  refine mw_op (tb := mw_bl L) ⟨?_, fun e he => ?_⟩ (List.all_eq_true.mp mw_t_L L (List.mem_range.mpr hL)) mw_all_nil
  · show ¬ Int32.ofNat L < 0
    have h : L = 0 ∨ L = 1 ∨ L = 2 := by omega
    rcases h with rfl | rfl | rfl <;> decide
  · rw [List.mem_singleton.mp he]
    rfl
theorem mw_pure {C S : Nat} (hC : 1800 ≤ C) (hS : 240000 ≤ S) {L : Nat} {xs : Nat → Int32} (hL : L ≤ 3) : ∃ f, mj_XF f 2047 14018 0 (mj_en [.inr (.inr 1)] 7) [] (mj_G0 L xs) (fun o G => o = .inl (some (.inl 1)) ∧ mj_n G ≤ C ∧ mj_u G ≤ S) := by
  have h : L = 0 ∨ L = 1 ∨ L = 2 ∨ L = 3 := by omega
  have hn : ¬ mw_ρ L xs 0 < 0 := by
    show ¬ Int32.ofNat L < 0
    rcases h with rfl | rfl | rfl | rfl <;> decide
  have hl : (mw_ρ L xs 0).toNatClampNeg = L := by
    show (Int32.ofNat L).toNatClampNeg = L
    rcases h with rfl | rfl | rfl | rfl <;> decide
  have hx : ∀ k, mw_ρ L xs (2 * k + 1) = xs k := fun k => by
    unfold mw_ρ
    rw [if_neg (by omega), if_neg (by omega), show (2 * k + 1) / 2 = k by omega]
  have hs : mw_S (mw_ρ L xs) := by
    by_cases h3 : L < 3
    · exact mw_short h3
    · have e : L = 3 := by omega
      subst e
      exact mw_s rfl rfl
  obtain ⟨f, hf⟩ := mw_pre hn hs
  refine ⟨f, ?_⟩
  rw [← mw_G0 hl hx]
  rw [mv_enD] at hf
  exact mj_XF_mono hf fun o G ⟨a, b, c⟩ => ⟨a, by omega, by omega⟩
