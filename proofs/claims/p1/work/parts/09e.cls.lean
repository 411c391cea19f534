/-! CLASSES AND FIELDS: their words, decided once -/
set_option maxRecDepth 100000 in
theorem mj_ok_qc : mj_QC.all mj_ck_qc = true := by decide +kernel
set_option maxRecDepth 100000 in
theorem mj_qc_all : ∀ c, c < 18 → c ≠ 2 → c ≠ 14 → ∃ r ∈ mj_QC, r.1 = c := by decide +kernel
theorem mj_lay_mv (C : String) (T : u_T) (k : Nat) : mj_mvb (u_lay C T k) = true := by
  unfold u_lay
  split <;> rfl
theorem mj_qc_w {c : Nat} (h : c < 18) (h2 : c ≠ 2) (h14 : c ≠ 14) : Jvm.Cond.initialized (mj_R c) ∈ mj_W ∧ Jvm.Cond.instantiable (mj_R c) (mj_isz c) ∈ mj_W ∧ ∀ w ∈ u_ws (mj_R c) (mj_F c) (mj_N c), w ∈ mj_W := by
  obtain ⟨r, hr, rfl⟩ := mj_qc_all c h h2 h14
  have h1 := List.all_eq_true.mp mj_ok_qc _ hr
  simp only [mj_ck_qc, Bool.and_eq_true, decide_eq_true_eq] at h1
  obtain ⟨⟨a1, a2⟩, a3⟩ := h1
  refine ⟨mj_in a1 rfl, mj_in a2 rfl, fun w hw => ?_⟩
  obtain ⟨j, hj, rfl⟩ := List.mem_map.mp hw
  have h3 : some (u_lay (mj_R r.1) (mj_F r.1) j) ∈ (List.range (mj_N r.1)).map (fun j => some (u_lay (mj_R r.1) (mj_F r.1) j)) := List.mem_map.mpr ⟨j, hj, rfl⟩
  rw [← a3] at h3
  obtain ⟨q, -, hq⟩ := List.mem_map.mp h3
  exact mj_in hq (mj_lay_mv _ _ _)
set_option maxRecDepth 100000 in
theorem mj_qi_ok : mj_QI.all (fun r => decide ((mj_tb r.2.1)[r.2.2]? = some (.initialized (mj_R r.1)))) = true := by decide +kernel
theorem mj_qi_all : ∀ c, c < 15 → ∃ r ∈ mj_QI, r.1 = c := by decide +kernel
theorem mj_qi_w {c : Nat} (h : c < 15) : Jvm.Cond.initialized (mj_R c) ∈ mj_W := by
  obtain ⟨r, hr, rfl⟩ := mj_qi_all c h
  have h1 := List.all_eq_true.mp mj_qi_ok _ hr
  exact mj_in (of_decide_eq_true h1) rfl
-- fields
set_option maxRecDepth 100000 in
theorem mj_f_ok : ∀ c, c < 18 → ((List.range (mj_N c)).all (fun j => decide (parseFieldDescriptor (mj_F c j).2.2.1 = some (mj_Y c j)) && decide ((mj_F c j).1 = mj_R c) && (List.range (mj_N c)).all (fun i => Nat.beq i j || !(decide ((mj_F c i).2.1 = (mj_F c j).2.1))))) = true := by decide +kernel
theorem mj_f_y {c j : Nat} (hc : c < 18) (hj : j < mj_N c) : parseFieldDescriptor (mj_F c j).2.2.1 = some (mj_Y c j) ∧ (mj_F c j).1 = mj_R c := by
  have h := List.all_eq_true.mp (mj_f_ok c hc) j (List.mem_range.mpr hj)
  simp only [Bool.and_eq_true, decide_eq_true_eq] at h
  exact h.1
theorem mj_f_n {c : Nat} (hc : c < 18) : ∀ a, a < mj_N c → ∀ b, b < mj_N c → a ≠ b → (mj_F c a).2.1 ≠ (mj_F c b).2.1 := by
  intro a ha b hb hne he
  have h := List.all_eq_true.mp (mj_f_ok c hc) b (List.mem_range.mpr hb)
  simp only [Bool.and_eq_true] at h
  have h2 := List.all_eq_true.mp h.2 a (List.mem_range.mpr ha)
  simp only [Bool.or_eq_true, Bool.not_eq_true', decide_eq_false_iff_not] at h2
  rcases h2 with h2 | h2
  · exact hne (Nat.eq_of_beq_eq_true h2)
  · exact h2 he
def mj_ty (t : Nat) (y : FieldType) : Bool := match t, y with
  | 0, .int => true
  | 1, .boolean => true
  | 2, .char => true
  | 3, .object _ => true
  | 3, .array _ => true
  | _, _ => false
theorem mj_f_t : ∀ c, c < 18 → ((List.range (mj_N c)).all (fun j => mj_ty (mj_T c j) (mj_Y c j))) = true := by decide +kernel
