/-! THE LAW'S WRAPPERS -/
/-- what a wrapper answers: 0 and what was told, or the place of what was thrown -/
def wrK (c : Nat → Nat) (Q : mj_O → mj_G → Prop) (r : Int32 ⊕ Nat) (G1 : mj_G) : Prop := mj_k G1 1767 = 21 ∧ mj_l G1 1767 = 1 ∧ (∀ v, r = .inl v → Q (.inl (some (.inl (nI 0)))) (mj_pJ G1 1767 0 v.toInt64)) ∧ ∀ k, r = .inr k → c k ≠ 0 ∧ Q (.inl (some (.inl (nI (c k))))) G1
def wrV (c : Nat → Nat) (Q : mj_O → mj_G → Prop) (r : Int32 ⊕ Nat) (G1 : mj_G) : Prop := (∀ v, r = .inl v → Q (.inl (some (.inl (nI 0)))) G1) ∧ ∀ k, r = .inr k → c k ≠ 0 ∧ Q (.inl (some (.inl (nI (c k))))) G1
theorem cA_x {k : Nat} (h : cA k ≠ 0) : (k = 15 ∧ cA k = 1) ∨ (k = 16 ∧ cA k = 2) := by
  unfold cA at h ⊢
  by_cases q : k = 15
  · rw [if_pos q]; exact Or.inl ⟨q, rfl⟩
  · rw [if_neg q] at h ⊢
    by_cases q1 : k = 16
    · rw [if_pos q1]; exact Or.inr ⟨q1, rfl⟩
    · rw [if_neg q1] at h; exact absurd rfl h
theorem cB_x {k : Nat} (h : cB k ≠ 0) : (k = 17 ∧ cB k = 1) ∨ (k = 15 ∧ cB k = 2) := by
  unfold cB at h ⊢
  by_cases q : k = 17
  · rw [if_pos q]; exact Or.inl ⟨q, rfl⟩
  · rw [if_neg q] at h ⊢
    by_cases q1 : k = 15
    · rw [if_pos q1]; exact Or.inr ⟨q1, rfl⟩
    · rw [if_neg q1] at h; exact absurd rfl h
theorem c15_x {k : Nat} (h : c15 k ≠ 0) : k = 15 ∧ c15 k = 1 := by
  unfold c15 at h ⊢
  by_cases q : k = 15
  · rw [if_pos q]; exact ⟨q, rfl⟩
  · rw [if_neg q] at h; exact absurd rfl h
theorem c17_x {k : Nat} (h : c17 k ≠ 0) : k = 17 ∧ c17 k = 1 := by
  unfold c17 at h ⊢
  by_cases q : k = 17
  · rw [if_pos q]; exact ⟨q, rfl⟩
  · rw [if_neg q] at h; exact absurd rfl h
theorem vp_01 : vp_in (Int32.ofInt 0) 1 := (z_ixi (n := 0) (N := 1) (K := fun _ => True) (by decide) (by decide) trivial).1
section ZZZE
variable {d : Nat} {x1 x2 : Int32} {G : mj_G} {Q : mj_O → mj_G → Prop}
theorem wr_14000 (hk : mj_k G 3 = 13) (h : Tq_type d x1 G (wrK cA Q)) : mj_X (d + 1) 14000 0 [some (.inr (.inr 3)), some (.inl x1), some (.inr (.inr 1767)), none] [] G Q := by
  refine mk_14000_0 (mj_X_callP (d := d) (mi := 14000) (pc := 4) (len := 3) (mt := 12001) (as := [.inr (.inr 3), .inl x1]) (rest := [.inl (Int32.ofInt 0), .inr (.inr 1767)]) rfl rfl rfl (by decide) ⟨by show 2 ≤ mj_mL 12001; decide, hk⟩ h ?_)
  intro o G1 hP
  rcases hP.2 with ⟨v, rfl, h1, h2, h3, -⟩ | ⟨k, rfl, h1, h2, -, h3⟩
  · exact mk_14000_7 h1 (by rw [h2]; exact vp_01) rfl (mk_14000_18 (h3 v rfl))
  · obtain ⟨h4, h5⟩ := h3 k rfl
    rcases cA_x h4 with ⟨rfl, e⟩ | ⟨rfl, e⟩
    · rw [e] at h5
      exact ⟨rfl, rfl, mj_X_sp (n := 1) (mj_X_ir rfl trivial h5)⟩
    · rw [e] at h5
      exact ⟨rfl, rfl, mj_X_sp (n := 1) (mj_X_ir rfl trivial h5)⟩
theorem wr_14001 (hk : mj_k G 3 = 13) (h : Tq_template d x1 G (wrK cB Q)) : mj_X (d + 1) 14001 0 [some (.inr (.inr 3)), some (.inl x1), some (.inr (.inr 1767)), none] [] G Q := by
  refine mk_14001_0 (mj_X_callP (d := d) (mi := 14001) (pc := 4) (len := 3) (mt := 12004) (as := [.inr (.inr 3), .inl x1]) (rest := [.inl (Int32.ofInt 0), .inr (.inr 1767)]) rfl rfl rfl (by decide) ⟨by show 2 ≤ mj_mL 12004; decide, hk⟩ h ?_)
  intro o G1 hP
  rcases hP.2 with ⟨v, rfl, h1, h2, h3, -⟩ | ⟨k, rfl, h1, h2, -, h3⟩
  · exact mk_14001_7 h1 (by rw [h2]; exact vp_01) rfl (mk_14001_18 (h3 v rfl))
  · obtain ⟨h4, h5⟩ := h3 k rfl
    rcases cB_x h4 with ⟨rfl, e⟩ | ⟨rfl, e⟩
    · rw [e] at h5
      exact ⟨rfl, rfl, mj_X_sp (n := 1) (mj_X_ir rfl trivial h5)⟩
    · rw [e] at h5
      exact ⟨rfl, rfl, mj_X_sp (n := 1) (mj_X_ir rfl trivial h5)⟩
theorem wr_14002 (hk : mj_k G 3 = 13) (h : Tq_message d x1 x2 G (wrK cB Q)) : mj_X (d + 1) 14002 0 [some (.inr (.inr 3)), some (.inl x1), some (.inl x2), some (.inr (.inr 1767)), none] [] G Q := by
  refine mk_14002_0 (mj_X_callP (d := d) (mi := 14002) (pc := 5) (len := 3) (mt := 12005) (as := [.inr (.inr 3), .inl x1, .inl x2]) (rest := [.inl (Int32.ofInt 0), .inr (.inr 1767)]) rfl rfl rfl (by decide) ⟨by show 3 ≤ mj_mL 12005; decide, hk⟩ h ?_)
  intro o G1 hP
  rcases hP.2 with ⟨v, rfl, h1, h2, h3, -⟩ | ⟨k, rfl, h1, h2, -, h3⟩
  · exact mk_14002_8 h1 (by rw [h2]; exact vp_01) rfl (mk_14002_21 (h3 v rfl))
  · obtain ⟨h4, h5⟩ := h3 k rfl
    rcases cB_x h4 with ⟨rfl, e⟩ | ⟨rfl, e⟩
    · rw [e] at h5
      exact ⟨rfl, rfl, mj_X_sp (n := 1) (mj_X_ir rfl trivial h5)⟩
    · rw [e] at h5
      exact ⟨rfl, rfl, mj_X_sp (n := 1) (mj_X_ir rfl trivial h5)⟩
theorem wr_14004 (hk : mj_k G 3 = 13) (h : Tq_text d x1 G (wrK c15 Q)) : mj_X (d + 1) 14004 0 [some (.inr (.inr 3)), some (.inl x1), some (.inr (.inr 1767)), none] [] G Q := by
  refine mk_14004_0 (mj_X_callP (d := d) (mi := 14004) (pc := 4) (len := 3) (mt := 12007) (as := [.inr (.inr 3), .inl x1]) (rest := [.inl (Int32.ofInt 0), .inr (.inr 1767)]) rfl rfl rfl (by decide) ⟨by show 2 ≤ mj_mL 12007; decide, hk⟩ h ?_)
  intro o G1 hP
  rcases hP.2 with ⟨v, rfl, h1, h2, h3, -⟩ | ⟨k, rfl, h1, h2, -, h3⟩
  · exact mk_14004_7 h1 (by rw [h2]; exact vp_01) rfl (mk_14004_15 (h3 v rfl))
  · obtain ⟨h4, h5⟩ := h3 k rfl
    obtain ⟨rfl, e⟩ := c15_x h4
    rw [e] at h5
    exact ⟨rfl, rfl, mj_X_sp (n := 1) (mj_X_ir rfl trivial h5)⟩
theorem wr_14006 (hk : mj_k G 3 = 13) (h : Tq_add d x1 x2 G (wrK cA Q)) : mj_X (d + 1) 14006 0 [some (.inr (.inr 3)), some (.inl x1), some (.inl x2), some (.inr (.inr 1767)), none] [] G Q := by
  refine mk_14006_0 (mj_X_callP (d := d) (mi := 14006) (pc := 5) (len := 3) (mt := 12009) (as := [.inr (.inr 3), .inl x1, .inl x2]) (rest := [.inl (Int32.ofInt 0), .inr (.inr 1767)]) rfl rfl rfl (by decide) ⟨by show 3 ≤ mj_mL 12009; decide, hk⟩ h ?_)
  intro o G1 hP
  rcases hP.2 with ⟨v, rfl, h1, h2, h3, -⟩ | ⟨k, rfl, h1, h2, -, h3⟩
  · exact mk_14006_8 h1 (by rw [h2]; exact vp_01) rfl (mk_14006_21 (h3 v rfl))
  · obtain ⟨h4, h5⟩ := h3 k rfl
    rcases cA_x h4 with ⟨rfl, e⟩ | ⟨rfl, e⟩
    · rw [e] at h5
      exact ⟨rfl, rfl, mj_X_sp (n := 1) (mj_X_ir rfl trivial h5)⟩
    · rw [e] at h5
      exact ⟨rfl, rfl, mj_X_sp (n := 1) (mj_X_ir rfl trivial h5)⟩
theorem wr_14007 (hk : mj_k G 3 = 13) (h : Tq_addText d x1 G (wrK cA Q)) : mj_X (d + 1) 14007 0 [some (.inr (.inr 3)), some (.inl x1), some (.inr (.inr 1767)), none] [] G Q := by
  refine mk_14007_0 (mj_X_callP (d := d) (mi := 14007) (pc := 4) (len := 3) (mt := 12010) (as := [.inr (.inr 3), .inl x1]) (rest := [.inl (Int32.ofInt 0), .inr (.inr 1767)]) rfl rfl rfl (by decide) ⟨by show 2 ≤ mj_mL 12010; decide, hk⟩ h ?_)
  intro o G1 hP
  rcases hP.2 with ⟨v, rfl, h1, h2, h3, -⟩ | ⟨k, rfl, h1, h2, -, h3⟩
  · exact mk_14007_7 h1 (by rw [h2]; exact vp_01) rfl (mk_14007_18 (h3 v rfl))
  · obtain ⟨h4, h5⟩ := h3 k rfl
    rcases cA_x h4 with ⟨rfl, e⟩ | ⟨rfl, e⟩
    · rw [e] at h5
      exact ⟨rfl, rfl, mj_X_sp (n := 1) (mj_X_ir rfl trivial h5)⟩
    · rw [e] at h5
      exact ⟨rfl, rfl, mj_X_sp (n := 1) (mj_X_ir rfl trivial h5)⟩
theorem wr_14009 (hk : mj_k G 3 = 13) (h : Tq_budget d x1 G (wrK c15 Q)) : mj_X (d + 1) 14009 0 [some (.inr (.inr 3)), some (.inl x1), some (.inr (.inr 1767)), none] [] G Q := by
  refine mk_14009_0 (mj_X_callP (d := d) (mi := 14009) (pc := 4) (len := 3) (mt := 12015) (as := [.inr (.inr 3), .inl x1]) (rest := [.inl (Int32.ofInt 0), .inr (.inr 1767)]) rfl rfl rfl (by decide) ⟨by show 2 ≤ mj_mL 12015; decide, hk⟩ h ?_)
  intro o G1 hP
  rcases hP.2 with ⟨v, rfl, h1, h2, h3, -⟩ | ⟨k, rfl, h1, h2, -, h3⟩
  · exact mk_14009_7 h1 (by rw [h2]; exact vp_01) rfl (mk_14009_15 (h3 v rfl))
  · obtain ⟨h4, h5⟩ := h3 k rfl
    obtain ⟨rfl, e⟩ := c15_x h4
    rw [e] at h5
    exact ⟨rfl, rfl, mj_X_sp (n := 1) (mj_X_ir rfl trivial h5)⟩
theorem wr_14010 (hk : mj_k G 3 = 13) (h : Tq_render d x1 G (wrK c17 Q)) : mj_X (d + 1) 14010 0 [some (.inr (.inr 3)), some (.inl x1), some (.inr (.inr 1767)), none] [] G Q := by
  refine mk_14010_0 (mj_X_callP (d := d) (mi := 14010) (pc := 4) (len := 3) (mt := 12016) (as := [.inr (.inr 3), .inl x1]) (rest := [.inl (Int32.ofInt 0), .inr (.inr 1767)]) rfl rfl rfl (by decide) ⟨by show 2 ≤ mj_mL 12016; decide, hk⟩ h ?_)
  intro o G1 hP
  rcases hP.2 with ⟨v, rfl, h1, h2, h3, -⟩ | ⟨k, rfl, h1, h2, -, h3⟩
  · exact mk_14010_7 h1 (by rw [h2]; exact vp_01) rfl (mk_14010_15 (h3 v rfl))
  · obtain ⟨h4, h5⟩ := h3 k rfl
    obtain ⟨rfl, e⟩ := c17_x h4
    rw [e] at h5
    exact ⟨rfl, rfl, mj_X_sp (n := 1) (mj_X_ir rfl trivial h5)⟩
theorem wr_14011 (hk : mj_k G 3 = 13) (h : Tq_out d x1 G (wrK c17 Q)) : mj_X (d + 1) 14011 0 [some (.inr (.inr 3)), some (.inl x1), some (.inr (.inr 1767)), none] [] G Q := by
  refine mk_14011_0 (mj_X_callP (d := d) (mi := 14011) (pc := 4) (len := 3) (mt := 12020) (as := [.inr (.inr 3), .inl x1]) (rest := [.inl (Int32.ofInt 0), .inr (.inr 1767)]) rfl rfl rfl (by decide) ⟨by show 2 ≤ mj_mL 12020; decide, hk⟩ h ?_)
  intro o G1 hP
  rcases hP.2 with ⟨v, rfl, h1, h2, h3, -⟩ | ⟨k, rfl, h1, h2, -, h3⟩
  · exact mk_14011_7 h1 (by rw [h2]; exact vp_01) rfl (mk_14011_15 (h3 v rfl))
  · obtain ⟨h4, h5⟩ := h3 k rfl
    obtain ⟨rfl, e⟩ := c17_x h4
    rw [e] at h5
    exact ⟨rfl, rfl, mj_X_sp (n := 1) (mj_X_ir rfl trivial h5)⟩
theorem wr_14012 (hk : mj_k G 3 = 13) (h : Tq_outAnew d x1 G (wrK c17 Q)) : mj_X (d + 1) 14012 0 [some (.inr (.inr 3)), some (.inl x1), some (.inr (.inr 1767)), none] [] G Q := by
  refine mk_14012_0 (mj_X_callP (d := d) (mi := 14012) (pc := 4) (len := 3) (mt := 12021) (as := [.inr (.inr 3), .inl x1]) (rest := [.inl (Int32.ofInt 0), .inr (.inr 1767)]) rfl rfl rfl (by decide) ⟨by show 2 ≤ mj_mL 12021; decide, hk⟩ h ?_)
  intro o G1 hP
  rcases hP.2 with ⟨v, rfl, h1, h2, h3, -⟩ | ⟨k, rfl, h1, h2, -, h3⟩
  · exact mk_14012_7 h1 (by rw [h2]; exact vp_01) rfl (mk_14012_15 (h3 v rfl))
  · obtain ⟨h4, h5⟩ := h3 k rfl
    obtain ⟨rfl, e⟩ := c17_x h4
    rw [e] at h5
    exact ⟨rfl, rfl, mj_X_sp (n := 1) (mj_X_ir rfl trivial h5)⟩
theorem wr_14013 (hk : mj_k G 3 = 13) (h : Tq_source d x1 G (wrK c17 Q)) : mj_X (d + 1) 14013 0 [some (.inr (.inr 3)), some (.inl x1), some (.inr (.inr 1767)), none] [] G Q := by
  refine mk_14013_0 (mj_X_callP (d := d) (mi := 14013) (pc := 4) (len := 3) (mt := 12022) (as := [.inr (.inr 3), .inl x1]) (rest := [.inl (Int32.ofInt 0), .inr (.inr 1767)]) rfl rfl rfl (by decide) ⟨by show 2 ≤ mj_mL 12022; decide, hk⟩ h ?_)
  intro o G1 hP
  rcases hP.2 with ⟨v, rfl, h1, h2, h3, -⟩ | ⟨k, rfl, h1, h2, -, h3⟩
  · exact mk_14013_7 h1 (by rw [h2]; exact vp_01) rfl (mk_14013_15 (h3 v rfl))
  · obtain ⟨h4, h5⟩ := h3 k rfl
    obtain ⟨rfl, e⟩ := c17_x h4
    rw [e] at h5
    exact ⟨rfl, rfl, mj_X_sp (n := 1) (mj_X_ir rfl trivial h5)⟩
theorem wr_14014 (hk : mj_k G 3 = 13) (h : Tq_context d x1 G (wrK c17 Q)) : mj_X (d + 1) 14014 0 [some (.inr (.inr 3)), some (.inl x1), some (.inr (.inr 1767)), none] [] G Q := by
  refine mk_14014_0 (mj_X_callP (d := d) (mi := 14014) (pc := 4) (len := 3) (mt := 12023) (as := [.inr (.inr 3), .inl x1]) (rest := [.inl (Int32.ofInt 0), .inr (.inr 1767)]) rfl rfl rfl (by decide) ⟨by show 2 ≤ mj_mL 12023; decide, hk⟩ h ?_)
  intro o G1 hP
  rcases hP.2 with ⟨v, rfl, h1, h2, h3, -⟩ | ⟨k, rfl, h1, h2, -, h3⟩
  · exact mk_14014_7 h1 (by rw [h2]; exact vp_01) rfl (mk_14014_15 (h3 v rfl))
  · obtain ⟨h4, h5⟩ := h3 k rfl
    obtain ⟨rfl, e⟩ := c17_x h4
    rw [e] at h5
    exact ⟨rfl, rfl, mj_X_sp (n := 1) (mj_X_ir rfl trivial h5)⟩
theorem wr_14015 (hk : mj_k G 3 = 13) (h : Tq_mayEnd d x1 G (wrK c17 Q)) : mj_X (d + 1) 14015 0 [some (.inr (.inr 3)), some (.inl x1), some (.inr (.inr 1767)), none] [] G Q := by
  refine mk_14015_0 (mj_X_callP (d := d) (mi := 14015) (pc := 4) (len := 3) (mt := 12026) (as := [.inr (.inr 3), .inl x1]) (rest := [.inl (Int32.ofInt 0), .inr (.inr 1767)]) rfl rfl rfl (by decide) ⟨by show 2 ≤ mj_mL 12026; decide, hk⟩ h ?_)
  intro o G1 hP
  rcases hP.2 with ⟨v, rfl, h1, h2, h3, -⟩ | ⟨k, rfl, h1, h2, -, h3⟩
  · exact mk_14015_7 h1 (by rw [h2]; exact vp_01) rfl (mk_14015_15 (h3 v rfl))
  · obtain ⟨h4, h5⟩ := h3 k rfl
    obtain ⟨rfl, e⟩ := c17_x h4
    rw [e] at h5
    exact ⟨rfl, rfl, mj_X_sp (n := 1) (mj_X_ir rfl trivial h5)⟩
theorem wr_14016 (hk : mj_k G 3 = 13) (h : Tq_shape d x1 x2 G (wrK c15 Q)) : mj_X (d + 1) 14016 0 [some (.inr (.inr 3)), some (.inl x1), some (.inl x2), some (.inr (.inr 1767)), none] [] G Q := by
  refine mk_14016_0 (mj_X_callP (d := d) (mi := 14016) (pc := 5) (len := 3) (mt := 12027) (as := [.inr (.inr 3), .inl x1, .inl x2]) (rest := [.inl (Int32.ofInt 0), .inr (.inr 1767)]) rfl rfl rfl (by decide) ⟨by show 3 ≤ mj_mL 12027; decide, hk⟩ h ?_)
  intro o G1 hP
  rcases hP.2 with ⟨v, rfl, h1, h2, h3, -⟩ | ⟨k, rfl, h1, h2, -, h3⟩
  · exact mk_14016_8 h1 (by rw [h2]; exact vp_01) rfl (mk_14016_17 (h3 v rfl))
  · obtain ⟨h4, h5⟩ := h3 k rfl
    obtain ⟨rfl, e⟩ := c15_x h4
    rw [e] at h5
    exact ⟨rfl, rfl, mj_X_sp (n := 1) (mj_X_ir rfl trivial h5)⟩
theorem wr_14017 (hk : mj_k G 3 = 13) (h : Tq_check d x1 G (wrK c17 Q)) : mj_X (d + 1) 14017 0 [some (.inr (.inr 3)), some (.inl x1), some (.inr (.inr 1767)), none] [] G Q := by
  refine mk_14017_0 (mj_X_callP (d := d) (mi := 14017) (pc := 4) (len := 3) (mt := 12028) (as := [.inr (.inr 3), .inl x1]) (rest := [.inl (Int32.ofInt 0), .inr (.inr 1767)]) rfl rfl rfl (by decide) ⟨by show 2 ≤ mj_mL 12028; decide, hk⟩ h ?_)
  intro o G1 hP
  rcases hP.2 with ⟨v, rfl, h1, h2, h3, -⟩ | ⟨k, rfl, h1, h2, -, h3⟩
  · exact mk_14017_7 h1 (by rw [h2]; exact vp_01) rfl (mk_14017_15 (h3 v rfl))
  · obtain ⟨h4, h5⟩ := h3 k rfl
    obtain ⟨rfl, e⟩ := c17_x h4
    rw [e] at h5
    exact ⟨rfl, rfl, mj_X_sp (n := 1) (mj_X_ir rfl trivial h5)⟩
/-- a wrapper that is told nothing -/
theorem wr_14003 (hk : mj_k G 3 = 13) (h : Tq_number d x1 x2 G (fun r G' => wrV c15 Q (rU r) G')) : mj_X (d + 1) 14003 0 [some (.inr (.inr 3)), some (.inl x1), some (.inl x2), none] [] G Q := by
  refine mk_14003_0 (mj_X_callP (d := d) (mi := 14003) (pc := 3) (len := 3) (mt := 12006) (as := [.inr (.inr 3), .inl x1, .inl x2]) (rest := []) rfl rfl rfl (by decide) ⟨by show 3 ≤ mj_mL 12006; decide, hk⟩ h ?_)
  intro o G1 hP
  rcases hP.2 with ⟨rfl, h3, -⟩ | ⟨k, rfl, -, h3⟩
  · exact mk_14003_6 (mk_14003_12 (h3 _ rfl))
  · obtain ⟨h4, h5⟩ := h3 k rfl
    obtain ⟨rfl, e⟩ := c15_x h4
    rw [e] at h5
    exact ⟨rfl, rfl, mj_X_sp (n := 1) (mj_X_ir rfl trivial h5)⟩
theorem wr_14005 (hk : mj_k G 3 = 13) (h : Tq_list d x1 G (fun r G' => wrV c15 Q (rU r) G')) : mj_X (d + 1) 14005 0 [some (.inr (.inr 3)), some (.inl x1), none] [] G Q := by
  refine mk_14005_0 (mj_X_callP (d := d) (mi := 14005) (pc := 2) (len := 3) (mt := 12008) (as := [.inr (.inr 3), .inl x1]) (rest := []) rfl rfl rfl (by decide) ⟨by show 2 ≤ mj_mL 12008; decide, hk⟩ h ?_)
  intro o G1 hP
  rcases hP.2 with ⟨rfl, h3, -⟩ | ⟨k, rfl, -, h3⟩
  · exact mk_14005_5 (mk_14005_11 (h3 _ rfl))
  · obtain ⟨h4, h5⟩ := h3 k rfl
    obtain ⟨rfl, e⟩ := c15_x h4
    rw [e] at h5
    exact ⟨rfl, rfl, mj_X_sp (n := 1) (mj_X_ir rfl trivial h5)⟩
theorem wr_14008 (hk : mj_k G 3 = 13) (h : Tq_clear d x1 G (fun r G' => wrK c15 Q (rZ r) G')) : mj_X (d + 1) 14008 0 [some (.inr (.inr 3)), some (.inl x1), some (.inr (.inr 1767)), none] [] G Q := by
  refine mk_14008_0 (mj_X_callP (d := d) (mi := 14008) (pc := 4) (len := 3) (mt := 12011) (as := [.inr (.inr 3), .inl x1]) (rest := [.inl (Int32.ofInt 0), .inr (.inr 1767)]) rfl rfl rfl (by decide) ⟨by show 2 ≤ mj_mL 12011; decide, hk⟩ h ?_)
  intro o G1 hP
  rcases hP.2 with ⟨b, rfl, h1, h2, h3, -⟩ | ⟨k, rfl, h1, h2, -, h3⟩
  · have h4 := h3 (bI b) rfl
    refine mk_14008_7 (fun q => mk_14008_14 ?_) (fun q => mk_14008_10 ?_)
    · cases b with
      | true => exact absurd q (by decide)
      | false =>
        rw [show (bI false).toInt64 = (0 : Int64) from by decide] at h4
        exact mk_14008_15 h1 (by rw [h2]; exact vp_01) rfl (mk_14008_22 h4)
    · cases b with
      | false => exact absurd rfl q
      | true =>
        rw [show (bI true).toInt64 = (1 : Int64) from by decide] at h4
        exact mk_14008_15 h1 (by rw [h2]; exact vp_01) rfl (mk_14008_22 h4)
  · obtain ⟨h4, h5⟩ := h3 k rfl
    obtain ⟨rfl, e⟩ := c15_x h4
    rw [e] at h5
    exact ⟨rfl, rfl, mj_X_sp (n := 1) (mj_X_ir rfl trivial h5)⟩
end ZZZE
