/-! CLASSES AND FIELDS: their words, decided once -/
set_option maxRecDepth 100000 in
theorem rj_ok_qc : rj_QC.all rj_ck_qc = true := by decide +kernel
set_option maxRecDepth 100000 in
theorem rj_qc_all : ∀ c, c < 18 → c ≠ 2 → rj_no (c) → ∃ r ∈ rj_QC, r.1 = c := by decide +kernel
theorem rj_lay_mv (C : String) (T : u_T) (k : Nat) : rj_mvb (u_lay C T k) = true := by
  unfold u_lay
  split <;> rfl
theorem rj_qc_w {c : Nat} (h : c < 18) (h2 : c ≠ 2) (h14 : rj_no (c)) : Jvm.Cond.initialized (rj_R c) ∈ rj_W ∧ Jvm.Cond.instantiable (rj_R c) (rj_isz c) ∈ rj_W ∧ ∀ w ∈ u_ws (rj_R c) (rj_F c) (rj_N c), w ∈ rj_W := by
  obtain ⟨r, hr, rfl⟩ := rj_qc_all c h h2 h14
  have h1 := List.all_eq_true.mp rj_ok_qc _ hr
  simp only [rj_ck_qc, Bool.and_eq_true, decide_eq_true_eq] at h1
  obtain ⟨⟨a1, a2⟩, a3⟩ := h1
  refine ⟨rj_in a1 rfl, rj_in a2 rfl, fun w hw => ?_⟩
  obtain ⟨j, hj, rfl⟩ := List.mem_map.mp hw
  have h3 : some (u_lay (rj_R r.1) (rj_F r.1) j) ∈ (List.range (rj_N r.1)).map (fun j => some (u_lay (rj_R r.1) (rj_F r.1) j)) := List.mem_map.mpr ⟨j, hj, rfl⟩
  rw [← a3] at h3
  obtain ⟨q, -, hq⟩ := List.mem_map.mp h3
  exact rj_in hq (rj_lay_mv _ _ _)
set_option maxRecDepth 100000 in
theorem rj_qi_ok : rj_QI.all (fun r => decide ((rj_tb r.2.1)[r.2.2]? = some (.initialized (rj_R r.1)))) = true := by decide +kernel
theorem rj_qi_all : ∀ c, c < 15 → ∃ r ∈ rj_QI, r.1 = c := by decide +kernel
theorem rj_qi_w {c : Nat} (h : c < 15) : Jvm.Cond.initialized (rj_R c) ∈ rj_W := by
  obtain ⟨r, hr, rfl⟩ := rj_qi_all c h
  have h1 := List.all_eq_true.mp rj_qi_ok _ hr
  exact rj_in (of_decide_eq_true h1) rfl
-- fields
set_option maxRecDepth 100000 in
theorem rj_f_ok : ∀ c, c < 18 → ((List.range (rj_N c)).all (fun j => decide (parseFieldDescriptor (rj_F c j).2.2.1 = some (rj_Y c j)) && decide ((rj_F c j).1 = rj_R c) && (List.range (rj_N c)).all (fun i => Nat.beq i j || !(decide ((rj_F c i).2.1 = (rj_F c j).2.1))))) = true := by decide +kernel
theorem rj_f_y {c j : Nat} (hc : c < 18) (hj : j < rj_N c) : parseFieldDescriptor (rj_F c j).2.2.1 = some (rj_Y c j) ∧ (rj_F c j).1 = rj_R c := by
  have h := List.all_eq_true.mp (rj_f_ok c hc) j (List.mem_range.mpr hj)
  simp only [Bool.and_eq_true, decide_eq_true_eq] at h
  exact h.1
theorem rj_f_n {c : Nat} (hc : c < 18) : ∀ a, a < rj_N c → ∀ b, b < rj_N c → a ≠ b → (rj_F c a).2.1 ≠ (rj_F c b).2.1 := by
  intro a ha b hb hne he
  have h := List.all_eq_true.mp (rj_f_ok c hc) b (List.mem_range.mpr hb)
  simp only [Bool.and_eq_true] at h
  have h2 := List.all_eq_true.mp h.2 a (List.mem_range.mpr ha)
  simp only [Bool.or_eq_true, Bool.not_eq_true', decide_eq_false_iff_not] at h2
  rcases h2 with h2 | h2
  · exact hne (Nat.eq_of_beq_eq_true h2)
  · exact h2 he
def rj_ty (t : Nat) (y : FieldType) : Bool := match t, y with
  | 0, .int => true
  | 1, .boolean => true
  | 2, .char => true
  | 3, .object _ => true
  | 3, .array _ => true
  | _, _ => false
theorem rj_f_t : ∀ c, c < 18 → ((List.range (rj_N c)).all (fun j => rj_ty (rj_T c j) (rj_Y c j))) = true := by decide +kernel
