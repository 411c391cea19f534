/-! RENDERING: frames of the class pushed, opened, cut -/
def pW (top o : Nat) : Prop := o = 11 ∨ o = 707 + 4 * (top + 1)
/-- the frame on top is one more, with what it takes over -/
def pF (G G' : mj_G) (top : Nat) (kd : Int32) (r2 r3 : Nat) : Prop := mj_i G' 11 4 = nI (top + 1) ∧ mj_i G' 11 2 = mj_i G 11 2 ∧ (∀ j, j = 3 ∨ j = 7 ∨ j = 10 ∨ j = 11 ∨ j = 12 → mj_i G' (707 + 4 * (top + 1)) j = mj_i G (707 + 4 * top) j) ∧ mj_i G' (707 + 4 * (top + 1)) 0 = kd ∧ (∀ j, j ≠ 0 → j ≠ 3 → j ≠ 7 → j ≠ 10 → j ≠ 11 → j ≠ 12 → mj_i G' (707 + 4 * (top + 1)) j = mj_i G (707 + 4 * (top + 1)) j) ∧ mj_r G' (707 + 4 * (top + 1)) 1 = r2 ∧ mj_r G' (707 + 4 * (top + 1)) 2 = r3 ∧ (∀ j, j ≠ 1 → j ≠ 2 → mj_r G' (707 + 4 * (top + 1)) j = mj_r G (707 + 4 * (top + 1)) j) ∧ mj_n G' = mj_n G
section PS
variable {ρ : Nat → Nat} {D : Nat → rv} {I : Nat → Nat → rv} {G : mj_G} {d top r2 r3 : Nat} {kd : Int32}
theorem pW_im (ht : top < 199) {o : Nat} (h : pW top o) : ¬ im_o o := by
  unfold pW at h
  unfold im_o
  omega
theorem p_hI {a j : Nat} {y : Int32} (h : hh ρ D I G) (ht : top < 199) (ha : pW top a) : hh ρ D I (mj_pI G a j y) ∧ fw ρ (pW top) G (mj_pI G a j y) := by
  have hk : mj_k G a ≠ 12 := by
    rcases ha with e | e
    · rw [e, cs_k (K := 10) h.1 rfl]; decide
    · rw [e, cs_g14 h.1 (by omega)]; decide
  have ho : ow ρ a = a := ow_s (by unfold pW at ha; omega)
  exact ⟨hh_I h (by unfold imm; rw [ho]; exact pW_im ht ha) (fun _ q => absurd q hk), fw_I (by rw [ho]; exact ha)⟩
theorem p_hR {j y : Nat} (h : hh ρ D I G) (ht : top < 199) (hj : j = 1 ∨ j = 2) : hh ρ D I (mj_pR G (707 + 4 * (top + 1)) j y) ∧ fw ρ (pW top) G (mj_pR G (707 + 4 * (top + 1)) j y) := by
  have ho : ow ρ (707 + 4 * (top + 1)) = 707 + 4 * (top + 1) := ow_s (by omega)
  have hl : ¬ lz (707 + 4 * (top + 1)) j := by unfold lz; omega
  have hc : cs_fk 5 j = true := by rcases hj with rfl | rfl <;> rfl
  exact ⟨hh_R h (by unfold imm; rw [ho]; exact pW_im ht (Or.inr rfl)) hl (cs_pR h.1 (cs_g14 h.1 (by omega)) hc), fw_R (by rw [ho]; exact Or.inr rfl) hl h.2.1⟩
/-- a frame written, int by int -/
def pS (ρ : Nat → Nat) (D : Nat → rv) (I : Nat → Nat → rv) (G : mj_G) (top : Nat) (u : Nat → Int32) (G' : mj_G) : Prop := hh ρ D I G' ∧ fw ρ (pW top) G G' ∧ (∀ j, mj_i G' (707 + 4 * (top + 1)) j = u j) ∧ (∀ x j, x ≠ 707 + 4 * (top + 1) → mj_i G' x j = mj_i G x j) ∧ (∀ x j, mj_r G' x j = mj_r G x j) ∧ mj_n G' = mj_n G
def pU (u : Nat → Int32) (j : Nat) (y : Int32) : Nat → Int32 := fun i => if i = j then y else u i
theorem pS_0 (h : hh ρ D I G) : pS ρ D I G top (fun j => mj_i G (707 + 4 * (top + 1)) j) G := ⟨h, fw_r, fun _ => rfl, fun _ _ _ => rfl, fun _ _ => rfl, rfl⟩
theorem pS_s {G1 G2 : mj_G} {u : Nat → Int32} {j : Nat} {y : Int32} (h : pS ρ D I G top u G1) (ht : top < 199) (e : G2 = mj_pI G1 (707 + 4 * (top + 1)) j y) : pS ρ D I G top (pU u j y) G2 := by
  subst e
  obtain ⟨h1, h2, h3, h4, h5, h6⟩ := h
  obtain ⟨k1, F1⟩ := p_hI (a := 707 + 4 * (top + 1)) (j := j) (y := y) h1 ht (Or.inr rfl)
  refine ⟨k1, fw_t h2 ro_r F1, fun i => ?_, fun x i hx => (z_iIn hx).trans (h4 x i hx), h5, h6⟩
  unfold pU
  by_cases q : i = j
  · rw [if_pos q, q, z_iIs]
  · rw [if_neg q, z_iIm q]
    exact h3 i
theorem pU_s {u : Nat → Int32} {j : Nat} {y : Int32} : pU u j y j = y := if_pos rfl
theorem pU_n {u : Nat → Int32} {i j : Nat} {y : Int32} (h : i ≠ j) : pU u j y i = u i := if_neg h
theorem c_push {K : Nat → mj_G → Prop} (h : hh ρ D I G) (h11 : mj_i G 11 4 = nI top) (ht : top < 199) (hK : ∀ G', hh ρ D I G' → fw ρ (pW top) G G' → pF G G' top kd r2 r3 → K (707 + 4 * (top + 1)) G') : St_push d kd r2 r3 G K := by
  have n1 : 707 + 4 * top ≠ 707 + 4 * (top + 1) := by omega
  have n2 : 11 ≠ 707 + 4 * (top + 1) := by omega
  refine w_St_push h.1 ?_
  rw [h11, z_add, z_lt (by omega) (by decide), z_lt (by omega) (by decide)]
  refine z_bf (by omega) (z_bt ht (z_ixi (by omega) (by decide) (z_ixi (by omega) (by decide) ?_)))
  have s0 := pS_0 (top := top) h
  intro G1 e1
  have s1 := pS_s s0 ht e1
  clear e1 s0
  intro G2 e2
  rw [s1.2.2.2.1 _ 7 n1] at e2
  have s2 := pS_s s1 ht e2
  clear e2 s1
  intro G3 e3
  rw [s2.2.2.2.1 _ 10 n1] at e3
  have s3 := pS_s s2 ht e3
  clear e3 s2
  intro G4 e4
  rw [s3.2.2.2.1 _ 11 n1] at e4
  have s4 := pS_s s3 ht e4
  clear e4 s3
  intro G5 e5
  rw [s4.2.2.2.1 _ 12 n1] at e5
  have s5 := pS_s s4 ht e5
  clear e5 s4
  intro G6 e6
  have s6 := pS_s s5 ht e6
  clear e6 s5
  obtain ⟨h6, F6, u6, o6, r6, m6⟩ := s6
  intro G7 e7
  intro G8 e8
  intro G9 e9
  obtain ⟨h7, F7⟩ := p_hR (j := 1) (y := r2) h6 ht (Or.inl rfl)
  rw [← e7] at h7 F7
  obtain ⟨h8, F8⟩ := p_hR (j := 2) (y := r3) h7 ht (Or.inr rfl)
  rw [← e8] at h8 F8
  have i8 : ∀ x j, mj_i G8 x j = mj_i G6 x j := fun x j => by rw [e8, e7]; rfl
  have r81 : mj_r G8 (707 + 4 * (top + 1)) 1 = r2 := by rw [e8, z_rRm (by decide), e7, z_rRs]
  have r82 : mj_r G8 (707 + 4 * (top + 1)) 2 = r3 := by rw [e8, z_rRs]
  have r8o : ∀ j, j ≠ 1 → j ≠ 2 → mj_r G8 (707 + 4 * (top + 1)) j = mj_r G (707 + 4 * (top + 1)) j := fun j x1 x2 => by rw [e8, z_rRm x2, e7, z_rRm x1]; exact r6 _ _
  have m8 : mj_n G8 = mj_n G := by rw [e8, e7]; exact m6
  clear e7 e8
  rw [i8 11 4, o6 11 4 n2, h11, z_add] at e9
  obtain ⟨h9, F9⟩ := p_hI (a := 11) (j := 4) (y := nI (top + 1)) h8 ht (Or.inl rfl)
  rw [← e9] at h9 F9
  have i9 : ∀ j, mj_i G9 (707 + 4 * (top + 1)) j = mj_i G6 (707 + 4 * (top + 1)) j := fun j => by rw [e9, z_iIn n2.symm]; exact i8 _ _
  refine hK G9 h9 (fw_t F6 ro_r (fw_t F7 ro_r (fw_t F8 ro_r F9))) ⟨by rw [e9, z_iIs], by rw [e9, z_iIm (by decide), i8, o6 11 2 n2], fun j hj => ?_, ?_, fun j x0 x1 x2 x3 x4 x5 => ?_, by rw [e9]; exact r81, by rw [e9]; exact r82, fun j x1 x2 => by rw [e9]; exact r8o j x1 x2, by rw [e9]; exact m8⟩
  · rw [i9, u6]
    rcases hj with rfl | rfl | rfl | rfl | rfl
    · exact (pU_n (by decide)).trans ((pU_n (by decide)).trans ((pU_n (by decide)).trans ((pU_n (by decide)).trans ((pU_n (by decide)).trans pU_s))))
    · exact (pU_n (by decide)).trans ((pU_n (by decide)).trans ((pU_n (by decide)).trans ((pU_n (by decide)).trans pU_s)))
    · exact (pU_n (by decide)).trans ((pU_n (by decide)).trans ((pU_n (by decide)).trans pU_s))
    · exact (pU_n (by decide)).trans ((pU_n (by decide)).trans pU_s)
    · exact (pU_n (by decide)).trans pU_s
  · rw [i9, u6]
    exact pU_s
  · rw [i9, u6]
    exact (pU_n x0).trans ((pU_n x5).trans ((pU_n x4).trans ((pU_n x3).trans ((pU_n x2).trans (pU_n x1)))))
/-- a frame with a scope of its own -/
def pFS (G G' : mj_G) (top : Nat) (kd : Int32) (r2 r3 : Nat) : Prop := mj_i G' 11 4 = nI (top + 1) ∧ mj_i G' 11 2 = mj_i G 11 2 ∧ (∀ j, j = 7 ∨ j = 10 ∨ j = 11 ∨ j = 12 → mj_i G' (707 + 4 * (top + 1)) j = mj_i G (707 + 4 * top) j) ∧ mj_i G' (707 + 4 * (top + 1)) 0 = kd ∧ mj_i G' (707 + 4 * (top + 1)) 3 = nI (top + 1) ∧ mj_i G' (707 + 4 * (top + 1)) 4 = mj_i G (707 + 4 * top) 3 ∧ mj_i G' (707 + 4 * (top + 1)) 5 = mj_i G 11 2 ∧ mj_i G' (707 + 4 * (top + 1)) 6 = nI 0 ∧ (∀ j, j ≠ 0 → ¬ (3 ≤ j ∧ j ≤ 7) → ¬ (10 ≤ j ∧ j ≤ 12) → mj_i G' (707 + 4 * (top + 1)) j = mj_i G (707 + 4 * (top + 1)) j) ∧ mj_r G' (707 + 4 * (top + 1)) 1 = r2 ∧ mj_r G' (707 + 4 * (top + 1)) 2 = r3 ∧ (∀ j, j ≠ 1 → j ≠ 2 → mj_r G' (707 + 4 * (top + 1)) j = mj_r G (707 + 4 * (top + 1)) j) ∧ mj_n G' = mj_n G
theorem c_pushScope {K : Nat → mj_G → Prop} (h : hh ρ D I G) (h11 : mj_i G 11 4 = nI top) (ht : top < 199) (hK : ∀ G', hh ρ D I G' → fw ρ (pW top) G G' → pFS G G' top kd r2 r3 → K (707 + 4 * (top + 1)) G') : St_pushScope (d + 1) kd r2 r3 G K := by
  have n2 : 707 + 4 * (top + 1) ≠ 11 := by omega
  refine w_St_pushScope h.1 (c_push h h11 ht (fun G1 h1 F1 p1 => z_bf (by omega) ⟨cs_g14 h1.1 (by omega), ?_⟩))
  obtain ⟨b1, b2, b3, b4, b5, b6, b7, b8, b9⟩ := p1
  have s1 := pS_0 (top := top) h1
  intro G2 e2
  rw [b3 3 (by decide)] at e2
  have s2 := pS_s s1 ht e2
  clear e2 s1
  intro G3 e3
  rw [s2.2.2.2.1 11 4 n2.symm, b1] at e3
  have s3 := pS_s s2 ht e3
  clear e3 s2
  intro G4 e4
  rw [s3.2.2.2.1 11 2 n2.symm, b2] at e4
  have s4 := pS_s s3 ht e4
  clear e4 s3
  intro G5 e5
  have s5 := pS_s s4 ht e5
  clear e5 s4
  obtain ⟨h5, F5, u5, o5, r5, m5⟩ := s5
  refine hK _ h5 (fw_t F1 ro_r F5) ⟨(o5 11 4 n2.symm).trans b1, (o5 11 2 n2.symm).trans b2, fun j hj => ?_, ?_, ?_, ?_, ?_, ?_, fun j x1 x2 x3 => ?_, (r5 _ _).trans b6, (r5 _ _).trans b7, fun j x1 x2 => (r5 _ _).trans (b8 j x1 x2), m5.trans b9⟩
  · rw [u5]
    exact (pU_n (by omega)).trans ((pU_n (by omega)).trans ((pU_n (by omega)).trans ((pU_n (by omega)).trans (b3 j (by omega)))))
  · rw [u5]
    exact (pU_n (by decide)).trans ((pU_n (by decide)).trans ((pU_n (by decide)).trans ((pU_n (by decide)).trans b4)))
  · rw [u5]
    exact (pU_n (by decide)).trans ((pU_n (by decide)).trans pU_s)
  · rw [u5]
    exact (pU_n (by decide)).trans ((pU_n (by decide)).trans ((pU_n (by decide)).trans pU_s))
  · rw [u5]
    exact (pU_n (by decide)).trans pU_s
  · rw [u5]
    exact pU_s
  · rw [u5]
    exact (pU_n (by omega)).trans ((pU_n (by omega)).trans ((pU_n (by omega)).trans ((pU_n (by omega)).trans (b5 j x1 (by omega) (by omega) (by omega) (by omega) (by omega)))))
end PS
