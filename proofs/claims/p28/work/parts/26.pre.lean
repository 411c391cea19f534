/-! THE LAW'S BEGINNING, TOGETHER -/
theorem mv_callN {ρ : Nat → Int32} {d mi pc len mt : Nat} {i : Instr} {ls : mv_L} {st as rest : List mv_V} {H H1 : mv_H} {Q : mj_O → mj_G → Prop} (hat : mj_at mi pc = some (i, len)) (htg : mj_tg (mi / 1000) i = some mt) (htk : mv_tk (mj_na mt) [] st = some (as, rest)) (hc : (Nat.ble (mv_w rest) 8 && mv_rcv H mt as) = true)
    (h1 : mj_X d mt 0 (mv_dL ρ (mv_en as (mj_mL mt))) [] (mv_dG ρ H) (fun a b => a = .inl none ∧ b = mv_dG ρ H1)) (h2 : mj_X (d + 1) mi (pc + len) (mv_dL ρ ls) (mv_dS ρ rest) (mv_dG ρ H1) Q) : mj_X (d + 1) mi pc (mv_dL ρ ls) (mv_dS ρ st) (mv_dG ρ H) Q := by
  rw [Bool.and_eq_true] at hc
  rw [mv_enD] at h1
  exact mj_X_call hat htg (mv_tkD ρ htk) (by rw [mv_wD]; exact Nat.le_of_ble_eq_true hc.1) (mv_rcv_e hc.2) h1 (o1 := .inl none) h2
theorem mw_c_e {ρ : Nat → Int32} (hρ : ¬ ρ 0 < 0) : mj_X 2043 9000 0 (mv_dL ρ (mv_en [.inr (.inr 11)] 2)) [] (mv_dG ρ mw_h_d1) (fun a b => a = .inl none ∧ b = mv_dG ρ mw_h_e99) := by
  refine mv_seg (st := []) hρ mw_t_e1 ?_
  refine mv_seg (st := mw_s_e1) hρ mw_t_e2 ?_
  refine mv_seg (st := mw_s_e2) hρ mw_t_e3 ?_
  refine mv_seg (st := mw_s_e3) hρ mw_t_e4 ?_
  refine mv_seg (st := mw_s_e4) hρ mw_t_e5 ?_
  refine mv_seg (st := mw_s_e5) hρ mw_t_e6 ?_
  refine mv_seg (st := mw_s_e6) hρ mw_t_e7 ?_
  refine mv_seg (st := mw_s_e7) hρ mw_t_e8 ?_
  refine mv_seg (st := mw_s_e8) hρ mw_t_e9 ?_
  refine mv_seg (st := mw_s_e9) hρ mw_t_e10 ?_
  exact mv_fin hρ mw_t_e99
theorem mw_c_d {ρ : Nat → Int32} (hρ : ¬ ρ 0 < 0) : mj_X 2044 1000 0 (mv_dL ρ (mv_en [.inr (.inr 10)] 2)) [] (mv_dG ρ mw_h_c1) (fun a b => a = .inl none ∧ b = mv_dG ρ mw_h_d99) := by
  refine mv_seg (st := []) hρ mw_t_d1 ?_
  refine mv_callN (d := 2043) (H1 := mw_h_e99) (rest := mw_s_d1.drop 1) (as := mw_s_d1.take 1) (mt := 9000) rfl rfl rfl (by decide +kernel) (mw_c_e hρ) ?_
  exact mv_fin hρ mw_t_d99
theorem mw_c_c {ρ : Nat → Int32} (hρ : ¬ ρ 0 < 0) : mj_X 2045 8000 0 (mv_dL ρ (mv_en [.inr (.inr 6)] 2)) [] (mv_dG ρ mw_h_b1) (fun a b => a = .inl none ∧ b = mv_dG ρ mw_h_c99) := by
  refine mv_seg (st := []) hρ mw_t_c1 ?_
  refine mv_callN (d := 2044) (H1 := mw_h_d99) (rest := mw_s_c1.drop 1) (as := mw_s_c1.take 1) (mt := 1000) rfl rfl rfl (by decide +kernel) (mw_c_d hρ) ?_
  exact mv_fin hρ mw_t_c99
theorem mw_c_b {ρ : Nat → Int32} (hρ : ¬ ρ 0 < 0) : mj_X 2046 12000 0 (mv_dL ρ (mv_en [.inr (.inr 3)] 2)) [] (mv_dG ρ mw_h_a1) (fun a b => a = .inl none ∧ b = mv_dG ρ mw_h_b99) := by
  refine mv_seg (st := []) hρ mw_t_b1 ?_
  refine mv_callN (d := 2045) (H1 := mw_h_c99) (rest := mw_s_b1.drop 1) (as := mw_s_b1.take 1) (mt := 8000) rfl rfl rfl (by decide +kernel) (mw_c_c hρ) ?_
  exact mv_fin hρ mw_t_b99
theorem mw_pre {ρ : Nat → Int32} (hρ : ¬ ρ 0 < 0) {Q : mj_O → mj_G → Prop} (hQ : mj_X 2047 14018 23 (mv_dL ρ mw_l_a2) (mv_dS ρ []) (mv_dG ρ mw_h_a2) Q) : mj_X 2047 14018 0 (mv_dL ρ (mv_en [.inr (.inr 1)] 7)) [] (mv_dG ρ mv_H0) Q := by
  refine mv_seg (st := []) hρ mw_t_a1 ?_
  refine mv_callN (d := 2046) (H1 := mw_h_b99) (rest := mw_s_a1.drop 1) (as := mw_s_a1.take 1) (mt := 12000) rfl rfl rfl (by decide +kernel) (mw_c_b hρ) ?_
  exact mv_seg hρ mw_t_a2 hQ