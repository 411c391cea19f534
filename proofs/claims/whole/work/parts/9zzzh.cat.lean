/-! THE CASES OF THE LAW, those that tell an int (wip/tools/gencas.py) -/
theorem cB_2 (k : Nat) : cB k ≤ 2 := by
  unfold cB
  by_cases q : k = 17
  · rw [if_pos q]; decide
  · rw [if_neg q]
    by_cases q1 : k = 15
    · rw [if_pos q1]; decide
    · rw [if_neg q1]; decide
theorem c15_2 (k : Nat) : c15 k ≤ 2 := by
  unfold c15
  by_cases q : k = 15
  · rw [if_pos q]; decide
  · rw [if_neg q]; decide
theorem c17_2 (k : Nat) : c17 k ≤ 2 := by
  unfold c17
  by_cases q : k = 17
  · rw [if_pos q]; decide
  · rw [if_neg q]; decide
section ZZZH
variable {N cnt : Nat} {G : mj_G} {Q : mj_O → mj_G → Prop}
theorem st_236 (hI : LI N cnt G) (h3 : 3 * cnt + 3 ≤ N) (hN : N ≤ 1536) (nx : ∀ G', LI N (cnt + 1) G' → mj_X 2047 14018 1282 (lv5 (nI (3 * cnt))) [] G' Q) : mj_X 2047 14018 236 (lv5 (nI (3 * cnt))) [] G Q := by
  obtain ⟨s, ρ, f, hS, hs, hC, hL, hE, hn, hu⟩ := hI
  have hG := hh_n hC.1
  obtain ⟨k, G2, s', ρ', res, X, z1, z2, z3, z4, z5, z6⟩ := wrap_v (c := cB) (op_template) (fun Q h => wr_14001 (d := 2045) (x1 := mj_i G 1 (3 * cnt + 1)) (cs_k (K := 13) hC.1.1 rfl) h) hS hs hC hL
  have hS2 := lw_yR hG hS z5
  have e1 : nI (3 * cnt) + Int32.ofInt 1 = nI (3 * cnt + 1) := z_add _ _
  have eM : mm_M f G2 = G2 := mm_G2 z5 hE
  refine mk_14018_236 hS.2.1 (by rw [e1, hS.2.2.1]; exact z_vp (by omega) (by omega)) rfl ?_
  rw [e1, z_tn (n := 3 * cnt + 1) (by omega)]
  refine mc_14018_244 (R := fun v G1 => v = k ∧ G1 = G2) (mj_X_mono X (fun a b hab => ⟨k, hab.1, rfl, hab.2⟩)) (fun v G1 hv => ?_)
  rw [hv.1, hv.2]
  refine mk_14018_247 hS2.2.1 (by rw [e1, hS2.2.2.1]; exact z_vp (by omega) (by omega)) rfl ?_
  rw [e1, z_tn (n := 3 * cnt + 1) (by omega), (z5.2.1 1 (3 * cnt + 1) (Or.inl rfl) (by decide)).1]
  have hm : mj_X 2046 13026 0 [some (.inr (.inr (1714))), some (.inl (mj_i G 1 (3 * cnt + 1))), none, none] [] (mm_M f G2) (fun o G1 => ∃ v, o = .inl (some (.inl v)) ∧ ∃ f1, G1 = mm_M f1 G2 ∧ (LM s' f1 ∧ rJ cB res v (f1 1714 0))) := z6 (fun v f' => LM s' f' ∧ rJ cB res v (f' 1714 0)) (fun f' v a b => ⟨a, b⟩)
  rw [eM] at hm
  refine mc_14018_256 (R := fun v G3 => ∃ f1, G3 = mm_M f1 G2 ∧ (LM s' f1 ∧ rJ cB res v (f1 1714 0))) hS2.1.1 hm (fun v G3 hv => ?_)
  obtain ⟨f1, rfl, hL1, hr⟩ := hv
  have ht : mj_X 2046 13001 0 [some (.inr (.inr 1714))] [] (mm_M f1 G2) (fun o G1 => ∃ v, o = .inl (some (.inl v)) ∧ ∃ f2, G1 = mm_M f2 G2 ∧ (v = f1 1714 0 ∧ f2 = f1)) := w_m_thrown (K := fun v f2 => v = f1 1714 0 ∧ f2 = f1) hS2.1 ⟨rfl, rfl⟩
  refine mk_14018_259 (mc_14018_262 (R := fun v G4 => ∃ f2, G4 = mm_M f2 G2 ∧ (v = f1 1714 0 ∧ f2 = f1)) hS2.1.1 ht (fun v4 G4 hv4 => ?_))
  obtain ⟨f2, rfl, rfl, rfl⟩ := hv4
  have nxt := nx _ (LI_n hG hS hn hu z3 z4 z5 hL1)
  refine mk_14018_265 (fun _ => mk_14018_272 (fun _ => mk_14018_289 nxt) (fun q => ?_)) (fun q => absurd (th_e (fun r hr' => (z1 r hr').1) z2 hr) q)
  have er := th_r cB_2 z2 hr q
  refine mk_14018_277 hS2.2.2.2.1 (by show vp_in _ (mj_l G2 1767); rw [hS2.2.2.2.2]; exact vp_01) rfl (fun _ => mk_14018_289 nxt) (fun q1 => ?_)
  exfalso
  refine q1 ?_
  show lg_cmp (mj_j G2 1767 0) v.toInt64 = (0 : Int32)
  rw [(z1 v er).2]
  exact lg_00
theorem st_292 (hI : LI N cnt G) (h3 : 3 * cnt + 3 ≤ N) (hN : N ≤ 1536) (nx : ∀ G', LI N (cnt + 1) G' → mj_X 2047 14018 1282 (lv5 (nI (3 * cnt))) [] G' Q) : mj_X 2047 14018 292 (lv5 (nI (3 * cnt))) [] G Q := by
  obtain ⟨s, ρ, f, hS, hs, hC, hL, hE, hn, hu⟩ := hI
  have hG := hh_n hC.1
  obtain ⟨k, G2, s', ρ', res, X, z1, z2, z3, z4, z5, z6⟩ := wrap_v (c := cB) (opD_of (opK_of op_message)) (fun Q h => wr_14002 (d := 2045) (x1 := mj_i G 1 (3 * cnt + 1)) (x2 := mj_i G 1 (3 * cnt + 2)) (cs_k (K := 13) hC.1.1 rfl) h) hS hs hC hL
  have hS2 := lw_yR hG hS z5
  have e1 : nI (3 * cnt) + Int32.ofInt 1 = nI (3 * cnt + 1) := z_add _ _
  have e2 : nI (3 * cnt) + Int32.ofInt 2 = nI (3 * cnt + 2) := z_add _ _
  have eM : mm_M f G2 = G2 := mm_G2 z5 hE
  refine mk_14018_292 hS.2.1 (by rw [e1, hS.2.2.1]; exact z_vp (by omega) (by omega)) rfl hS.2.1 (by rw [e2, hS.2.2.1]; exact z_vp (by omega) (by omega)) rfl ?_
  rw [e1, z_tn (n := 3 * cnt + 1) (by omega), e2, z_tn (n := 3 * cnt + 2) (by omega)]
  refine mc_14018_306 (R := fun v G1 => v = k ∧ G1 = G2) (mj_X_mono X (fun a b hab => ⟨k, hab.1, rfl, hab.2⟩)) (fun v G1 hv => ?_)
  rw [hv.1, hv.2]
  refine mk_14018_309 hS2.2.1 (by rw [e1, hS2.2.2.1]; exact z_vp (by omega) (by omega)) rfl hS2.2.1 (by rw [e2, hS2.2.2.1]; exact z_vp (by omega) (by omega)) rfl ?_
  rw [e1, z_tn (n := 3 * cnt + 1) (by omega), (z5.2.1 1 (3 * cnt + 1) (Or.inl rfl) (by decide)).1, e2, z_tn (n := 3 * cnt + 2) (by omega), (z5.2.1 1 (3 * cnt + 2) (Or.inl rfl) (by decide)).1]
  have hm : mj_X 2046 13027 0 [some (.inr (.inr (1714))), some (.inl (mj_i G 1 (3 * cnt + 1))), some (.inl (mj_i G 1 (3 * cnt + 2))), none, none] [] (mm_M f G2) (fun o G1 => ∃ v, o = .inl (some (.inl v)) ∧ ∃ f1, G1 = mm_M f1 G2 ∧ (LM s' f1 ∧ rJ cB res v (f1 1714 0))) := z6 (fun v f' => LM s' f' ∧ rJ cB res v (f' 1714 0)) (fun f' v a b => ⟨a, b⟩)
  rw [eM] at hm
  refine mc_14018_324 (R := fun v G3 => ∃ f1, G3 = mm_M f1 G2 ∧ (LM s' f1 ∧ rJ cB res v (f1 1714 0))) hS2.1.1 hm (fun v G3 hv => ?_)
  obtain ⟨f1, rfl, hL1, hr⟩ := hv
  have ht : mj_X 2046 13001 0 [some (.inr (.inr 1714))] [] (mm_M f1 G2) (fun o G1 => ∃ v, o = .inl (some (.inl v)) ∧ ∃ f2, G1 = mm_M f2 G2 ∧ (v = f1 1714 0 ∧ f2 = f1)) := w_m_thrown (K := fun v f2 => v = f1 1714 0 ∧ f2 = f1) hS2.1 ⟨rfl, rfl⟩
  refine mk_14018_327 (mc_14018_330 (R := fun v G4 => ∃ f2, G4 = mm_M f2 G2 ∧ (v = f1 1714 0 ∧ f2 = f1)) hS2.1.1 ht (fun v4 G4 hv4 => ?_))
  obtain ⟨f2, rfl, rfl, rfl⟩ := hv4
  have nxt := nx _ (LI_n hG hS hn hu z3 z4 z5 hL1)
  refine mk_14018_333 (fun _ => mk_14018_340 (fun _ => mk_14018_357 nxt) (fun q => ?_)) (fun q => absurd (th_e (fun r hr' => (z1 r hr').1) z2 hr) q)
  have er := th_r cB_2 z2 hr q
  refine mk_14018_345 hS2.2.2.2.1 (by show vp_in _ (mj_l G2 1767); rw [hS2.2.2.2.2]; exact vp_01) rfl (fun _ => mk_14018_357 nxt) (fun q1 => ?_)
  exfalso
  refine q1 ?_
  show lg_cmp (mj_j G2 1767 0) v.toInt64 = (0 : Int32)
  rw [(z1 v er).2]
  exact lg_00
theorem st_410 (hI : LI N cnt G) (h3 : 3 * cnt + 3 ≤ N) (hN : N ≤ 1536) (nx : ∀ G', LI N (cnt + 1) G' → mj_X 2047 14018 1282 (lv5 (nI (3 * cnt))) [] G' Q) : mj_X 2047 14018 410 (lv5 (nI (3 * cnt))) [] G Q := by
  obtain ⟨s, ρ, f, hS, hs, hC, hL, hE, hn, hu⟩ := hI
  have hG := hh_n hC.1
  obtain ⟨y1, hc1, ec1⟩ := ch_x (x := mj_i G 1 (3 * cnt + 1))
  obtain ⟨k, G2, s', ρ', res, X, z1, z2, z3, z4, z5, z6⟩ := wrap_v (c := c15) (opD_of (opK_of (op_text hc1))) (fun Q h => wr_14004 (d := 2045) (x1 := nI y1) (cs_k (K := 13) hC.1.1 rfl) h) hS hs hC hL
  have hS2 := lw_yR hG hS z5
  have e1 : nI (3 * cnt) + Int32.ofInt 1 = nI (3 * cnt + 1) := z_add _ _
  have eM : mm_M f G2 = G2 := mm_G2 z5 hE
  refine mk_14018_410 hS.2.1 (by rw [e1, hS.2.2.1]; exact z_vp (by omega) (by omega)) rfl ?_
  rw [e1, z_tn (n := 3 * cnt + 1) (by omega), ec1]
  refine mc_14018_419 (R := fun v G1 => v = k ∧ G1 = G2) (mj_X_mono X (fun a b hab => ⟨k, hab.1, rfl, hab.2⟩)) (fun v G1 hv => ?_)
  rw [hv.1, hv.2]
  refine mk_14018_422 hS2.2.1 (by rw [e1, hS2.2.2.1]; exact z_vp (by omega) (by omega)) rfl ?_
  rw [e1, z_tn (n := 3 * cnt + 1) (by omega), (z5.2.1 1 (3 * cnt + 1) (Or.inl rfl) (by decide)).1, ec1]
  have hm : mj_X 2046 13029 0 [some (.inr (.inr (1714))), some (.inl (nI y1)), none, none] [] (mm_M f G2) (fun o G1 => ∃ v, o = .inl (some (.inl v)) ∧ ∃ f1, G1 = mm_M f1 G2 ∧ (LM s' f1 ∧ rJ c15 res v (f1 1714 0))) := z6 (fun v f' => LM s' f' ∧ rJ c15 res v (f' 1714 0)) (fun f' v a b => ⟨a, b⟩)
  rw [eM] at hm
  refine mc_14018_432 (R := fun v G3 => ∃ f1, G3 = mm_M f1 G2 ∧ (LM s' f1 ∧ rJ c15 res v (f1 1714 0))) hS2.1.1 hm (fun v G3 hv => ?_)
  obtain ⟨f1, rfl, hL1, hr⟩ := hv
  have ht : mj_X 2046 13001 0 [some (.inr (.inr 1714))] [] (mm_M f1 G2) (fun o G1 => ∃ v, o = .inl (some (.inl v)) ∧ ∃ f2, G1 = mm_M f2 G2 ∧ (v = f1 1714 0 ∧ f2 = f1)) := w_m_thrown (K := fun v f2 => v = f1 1714 0 ∧ f2 = f1) hS2.1 ⟨rfl, rfl⟩
  refine mk_14018_435 (mc_14018_438 (R := fun v G4 => ∃ f2, G4 = mm_M f2 G2 ∧ (v = f1 1714 0 ∧ f2 = f1)) hS2.1.1 ht (fun v4 G4 hv4 => ?_))
  obtain ⟨f2, rfl, rfl, rfl⟩ := hv4
  have nxt := nx _ (LI_n hG hS hn hu z3 z4 z5 hL1)
  refine mk_14018_441 (fun _ => mk_14018_448 (fun _ => mk_14018_465 nxt) (fun q => ?_)) (fun q => absurd (th_e (fun r hr' => (z1 r hr').1) z2 hr) q)
  have er := th_r c15_2 z2 hr q
  refine mk_14018_453 hS2.2.2.2.1 (by show vp_in _ (mj_l G2 1767); rw [hS2.2.2.2.2]; exact vp_01) rfl (fun _ => mk_14018_465 nxt) (fun q1 => ?_)
  exfalso
  refine q1 ?_
  show lg_cmp (mj_j G2 1767 0) v.toInt64 = (0 : Int32)
  rw [(z1 v er).2]
  exact lg_00
theorem st_506 (hI : LI N cnt G) (h3 : 3 * cnt + 3 ≤ N) (hN : N ≤ 1536) (nx : ∀ G', LI N (cnt + 1) G' → mj_X 2047 14018 1282 (lv5 (nI (3 * cnt))) [] G' Q) : mj_X 2047 14018 506 (lv5 (nI (3 * cnt))) [] G Q := by
  obtain ⟨s, ρ, f, hS, hs, hC, hL, hE, hn, hu⟩ := hI
  have hG := hh_n hC.1
  obtain ⟨y1, hc1, ec1⟩ := ch_x (x := mj_i G 1 (3 * cnt + 1))
  obtain ⟨k, G2, s', ρ', res, X, z1, z2, z3, z4, z5, z6⟩ := wrap_v (c := cA) (opD_of (opK_of (op_add hc1))) (fun Q h => wr_14006 (d := 2045) (x1 := nI y1) (x2 := mj_i G 1 (3 * cnt + 2)) (cs_k (K := 13) hC.1.1 rfl) h) hS hs hC hL
  have hS2 := lw_yR hG hS z5
  have e1 : nI (3 * cnt) + Int32.ofInt 1 = nI (3 * cnt + 1) := z_add _ _
  have e2 : nI (3 * cnt) + Int32.ofInt 2 = nI (3 * cnt + 2) := z_add _ _
  have eM : mm_M f G2 = G2 := mm_G2 z5 hE
  refine mk_14018_506 hS.2.1 (by rw [e1, hS.2.2.1]; exact z_vp (by omega) (by omega)) rfl hS.2.1 (by rw [e2, hS.2.2.1]; exact z_vp (by omega) (by omega)) rfl ?_
  rw [e1, z_tn (n := 3 * cnt + 1) (by omega), ec1, e2, z_tn (n := 3 * cnt + 2) (by omega)]
  refine mc_14018_521 (R := fun v G1 => v = k ∧ G1 = G2) (mj_X_mono X (fun a b hab => ⟨k, hab.1, rfl, hab.2⟩)) (fun v G1 hv => ?_)
  rw [hv.1, hv.2]
  refine mk_14018_524 hS2.2.1 (by rw [e1, hS2.2.2.1]; exact z_vp (by omega) (by omega)) rfl hS2.2.1 (by rw [e2, hS2.2.2.1]; exact z_vp (by omega) (by omega)) rfl ?_
  rw [e1, z_tn (n := 3 * cnt + 1) (by omega), (z5.2.1 1 (3 * cnt + 1) (Or.inl rfl) (by decide)).1, ec1, e2, z_tn (n := 3 * cnt + 2) (by omega), (z5.2.1 1 (3 * cnt + 2) (Or.inl rfl) (by decide)).1]
  have hm : mj_X 2046 13032 0 [some (.inr (.inr (1714))), some (.inl (nI y1)), some (.inl (mj_i G 1 (3 * cnt + 2))), none] [] (mm_M f G2) (fun o G1 => ∃ v, o = .inl (some (.inl v)) ∧ ∃ f1, G1 = mm_M f1 G2 ∧ (LM s' f1 ∧ rJ cA res v (f1 1714 0))) := z6 (fun v f' => LM s' f' ∧ rJ cA res v (f' 1714 0)) (fun f' v a b => ⟨a, b⟩)
  rw [eM] at hm
  refine mc_14018_540 (R := fun v G3 => ∃ f1, G3 = mm_M f1 G2 ∧ (LM s' f1 ∧ rJ cA res v (f1 1714 0))) hS2.1.1 hm (fun v G3 hv => ?_)
  obtain ⟨f1, rfl, hL1, hr⟩ := hv
  have ht : mj_X 2046 13001 0 [some (.inr (.inr 1714))] [] (mm_M f1 G2) (fun o G1 => ∃ v, o = .inl (some (.inl v)) ∧ ∃ f2, G1 = mm_M f2 G2 ∧ (v = f1 1714 0 ∧ f2 = f1)) := w_m_thrown (K := fun v f2 => v = f1 1714 0 ∧ f2 = f1) hS2.1 ⟨rfl, rfl⟩
  refine mk_14018_543 (mc_14018_546 (R := fun v G4 => ∃ f2, G4 = mm_M f2 G2 ∧ (v = f1 1714 0 ∧ f2 = f1)) hS2.1.1 ht (fun v4 G4 hv4 => ?_))
  obtain ⟨f2, rfl, rfl, rfl⟩ := hv4
  have nxt := nx _ (LI_n hG hS hn hu z3 z4 z5 hL1)
  refine mk_14018_549 (fun _ => mk_14018_556 (fun _ => mk_14018_573 nxt) (fun q => ?_)) (fun q => absurd (th_e (fun r hr' => (z1 r hr').1) z2 hr) q)
  have er := th_r cA_2 z2 hr q
  refine mk_14018_561 hS2.2.2.2.1 (by show vp_in _ (mj_l G2 1767); rw [hS2.2.2.2.2]; exact vp_01) rfl (fun _ => mk_14018_573 nxt) (fun q1 => ?_)
  exfalso
  refine q1 ?_
  show lg_cmp (mj_j G2 1767 0) v.toInt64 = (0 : Int32)
  rw [(z1 v er).2]
  exact lg_00
theorem st_576 (hI : LI N cnt G) (h3 : 3 * cnt + 3 ≤ N) (hN : N ≤ 1536) (nx : ∀ G', LI N (cnt + 1) G' → mj_X 2047 14018 1282 (lv5 (nI (3 * cnt))) [] G' Q) : mj_X 2047 14018 576 (lv5 (nI (3 * cnt))) [] G Q := by
  obtain ⟨s, ρ, f, hS, hs, hC, hL, hE, hn, hu⟩ := hI
  have hG := hh_n hC.1
  obtain ⟨y1, hc1, ec1⟩ := ch_x (x := mj_i G 1 (3 * cnt + 1))
  obtain ⟨k, G2, s', ρ', res, X, z1, z2, z3, z4, z5, z6⟩ := wrap_v (c := cA) (opD_of (opK_of (op_addText hc1))) (fun Q h => wr_14007 (d := 2045) (x1 := nI y1) (cs_k (K := 13) hC.1.1 rfl) h) hS hs hC hL
  have hS2 := lw_yR hG hS z5
  have e1 : nI (3 * cnt) + Int32.ofInt 1 = nI (3 * cnt + 1) := z_add _ _
  have eM : mm_M f G2 = G2 := mm_G2 z5 hE
  refine mk_14018_576 hS.2.1 (by rw [e1, hS.2.2.1]; exact z_vp (by omega) (by omega)) rfl ?_
  rw [e1, z_tn (n := 3 * cnt + 1) (by omega), ec1]
  refine mc_14018_585 (R := fun v G1 => v = k ∧ G1 = G2) (mj_X_mono X (fun a b hab => ⟨k, hab.1, rfl, hab.2⟩)) (fun v G1 hv => ?_)
  rw [hv.1, hv.2]
  refine mk_14018_588 hS2.2.1 (by rw [e1, hS2.2.2.1]; exact z_vp (by omega) (by omega)) rfl ?_
  rw [e1, z_tn (n := 3 * cnt + 1) (by omega), (z5.2.1 1 (3 * cnt + 1) (Or.inl rfl) (by decide)).1, ec1]
  have hm : mj_X 2046 13033 0 [some (.inr (.inr (1714))), some (.inl (nI y1)), none, none, none] [] (mm_M f G2) (fun o G1 => ∃ v, o = .inl (some (.inl v)) ∧ ∃ f1, G1 = mm_M f1 G2 ∧ (LM s' f1 ∧ rJ cA res v (f1 1714 0))) := z6 (fun v f' => LM s' f' ∧ rJ cA res v (f' 1714 0)) (fun f' v a b => ⟨a, b⟩)
  rw [eM] at hm
  refine mc_14018_598 (R := fun v G3 => ∃ f1, G3 = mm_M f1 G2 ∧ (LM s' f1 ∧ rJ cA res v (f1 1714 0))) hS2.1.1 hm (fun v G3 hv => ?_)
  obtain ⟨f1, rfl, hL1, hr⟩ := hv
  have ht : mj_X 2046 13001 0 [some (.inr (.inr 1714))] [] (mm_M f1 G2) (fun o G1 => ∃ v, o = .inl (some (.inl v)) ∧ ∃ f2, G1 = mm_M f2 G2 ∧ (v = f1 1714 0 ∧ f2 = f1)) := w_m_thrown (K := fun v f2 => v = f1 1714 0 ∧ f2 = f1) hS2.1 ⟨rfl, rfl⟩
  refine mk_14018_601 (mc_14018_604 (R := fun v G4 => ∃ f2, G4 = mm_M f2 G2 ∧ (v = f1 1714 0 ∧ f2 = f1)) hS2.1.1 ht (fun v4 G4 hv4 => ?_))
  obtain ⟨f2, rfl, rfl, rfl⟩ := hv4
  have nxt := nx _ (LI_n hG hS hn hu z3 z4 z5 hL1)
  refine mk_14018_607 (fun _ => mk_14018_614 (fun _ => mk_14018_631 nxt) (fun q => ?_)) (fun q => absurd (th_e (fun r hr' => (z1 r hr').1) z2 hr) q)
  have er := th_r cA_2 z2 hr q
  refine mk_14018_619 hS2.2.2.2.1 (by show vp_in _ (mj_l G2 1767); rw [hS2.2.2.2.2]; exact vp_01) rfl (fun _ => mk_14018_631 nxt) (fun q1 => ?_)
  exfalso
  refine q1 ?_
  show lg_cmp (mj_j G2 1767 0) v.toInt64 = (0 : Int32)
  rw [(z1 v er).2]
  exact lg_00
theorem st_699 (hI : LI N cnt G) (h3 : 3 * cnt + 3 ≤ N) (hN : N ≤ 1536) (nx : ∀ G', LI N (cnt + 1) G' → mj_X 2047 14018 1282 (lv5 (nI (3 * cnt))) [] G' Q) : mj_X 2047 14018 699 (lv5 (nI (3 * cnt))) [] G Q := by
  obtain ⟨s, ρ, f, hS, hs, hC, hL, hE, hn, hu⟩ := hI
  have hG := hh_n hC.1
  obtain ⟨k, G2, s', ρ', res, X, z1, z2, z3, z4, z5, z6⟩ := wrap_v (c := c15) (opD_of (opK_of op_budget)) (fun Q h => wr_14009 (d := 2045) (x1 := mj_i G 1 (3 * cnt + 1)) (cs_k (K := 13) hC.1.1 rfl) h) hS hs hC hL
  have hS2 := lw_yR hG hS z5
  have e1 : nI (3 * cnt) + Int32.ofInt 1 = nI (3 * cnt + 1) := z_add _ _
  have eM : mm_M f G2 = G2 := mm_G2 z5 hE
  refine mk_14018_699 hS.2.1 (by rw [e1, hS.2.2.1]; exact z_vp (by omega) (by omega)) rfl ?_
  rw [e1, z_tn (n := 3 * cnt + 1) (by omega)]
  refine mc_14018_707 (R := fun v G1 => v = k ∧ G1 = G2) (mj_X_mono X (fun a b hab => ⟨k, hab.1, rfl, hab.2⟩)) (fun v G1 hv => ?_)
  rw [hv.1, hv.2]
  refine mk_14018_710 hS2.2.1 (by rw [e1, hS2.2.2.1]; exact z_vp (by omega) (by omega)) rfl ?_
  rw [e1, z_tn (n := 3 * cnt + 1) (by omega), (z5.2.1 1 (3 * cnt + 1) (Or.inl rfl) (by decide)).1]
  have hm : mj_X 2046 13120 0 [some (.inr (.inr (1714))), some (.inl (mj_i G 1 (3 * cnt + 1))), none] [] (mm_M f G2) (fun o G1 => ∃ v, o = .inl (some (.inl v)) ∧ ∃ f1, G1 = mm_M f1 G2 ∧ (LM s' f1 ∧ rJ c15 res v (f1 1714 0))) := z6 (fun v f' => LM s' f' ∧ rJ c15 res v (f' 1714 0)) (fun f' v a b => ⟨a, b⟩)
  rw [eM] at hm
  refine mc_14018_719 (R := fun v G3 => ∃ f1, G3 = mm_M f1 G2 ∧ (LM s' f1 ∧ rJ c15 res v (f1 1714 0))) hS2.1.1 hm (fun v G3 hv => ?_)
  obtain ⟨f1, rfl, hL1, hr⟩ := hv
  have ht : mj_X 2046 13001 0 [some (.inr (.inr 1714))] [] (mm_M f1 G2) (fun o G1 => ∃ v, o = .inl (some (.inl v)) ∧ ∃ f2, G1 = mm_M f2 G2 ∧ (v = f1 1714 0 ∧ f2 = f1)) := w_m_thrown (K := fun v f2 => v = f1 1714 0 ∧ f2 = f1) hS2.1 ⟨rfl, rfl⟩
  refine mk_14018_722 (mc_14018_725 (R := fun v G4 => ∃ f2, G4 = mm_M f2 G2 ∧ (v = f1 1714 0 ∧ f2 = f1)) hS2.1.1 ht (fun v4 G4 hv4 => ?_))
  obtain ⟨f2, rfl, rfl, rfl⟩ := hv4
  have nxt := nx _ (LI_n hG hS hn hu z3 z4 z5 hL1)
  refine mk_14018_728 (fun _ => mk_14018_735 (fun _ => mk_14018_752 nxt) (fun q => ?_)) (fun q => absurd (th_e (fun r hr' => (z1 r hr').1) z2 hr) q)
  have er := th_r c15_2 z2 hr q
  refine mk_14018_740 hS2.2.2.2.1 (by show vp_in _ (mj_l G2 1767); rw [hS2.2.2.2.2]; exact vp_01) rfl (fun _ => mk_14018_752 nxt) (fun q1 => ?_)
  exfalso
  refine q1 ?_
  show lg_cmp (mj_j G2 1767 0) v.toInt64 = (0 : Int32)
  rw [(z1 v er).2]
  exact lg_00
theorem st_755 (hI : LI N cnt G) (h3 : 3 * cnt + 3 ≤ N) (hN : N ≤ 1536) (nx : ∀ G', LI N (cnt + 1) G' → mj_X 2047 14018 1282 (lv5 (nI (3 * cnt))) [] G' Q) : mj_X 2047 14018 755 (lv5 (nI (3 * cnt))) [] G Q := by
  obtain ⟨s, ρ, f, hS, hs, hC, hL, hE, hn, hu⟩ := hI
  have hG := hh_n hC.1
  obtain ⟨k, G2, s', ρ', res, X, z1, z2, z3, z4, z5, z6⟩ := wrap_v (c := c17) (opD_of op_render) (fun Q h => wr_14010 (d := 2045) (x1 := mj_i G 1 (3 * cnt + 1)) (cs_k (K := 13) hC.1.1 rfl) h) hS hs hC hL
  have hS2 := lw_yR hG hS z5
  have e1 : nI (3 * cnt) + Int32.ofInt 1 = nI (3 * cnt + 1) := z_add _ _
  have eM : mm_M f G2 = G2 := mm_G2 z5 hE
  refine mk_14018_755 hS.2.1 (by rw [e1, hS.2.2.1]; exact z_vp (by omega) (by omega)) rfl ?_
  rw [e1, z_tn (n := 3 * cnt + 1) (by omega)]
  refine mc_14018_763 (R := fun v G1 => v = k ∧ G1 = G2) (mj_X_mono X (fun a b hab => ⟨k, hab.1, rfl, hab.2⟩)) (fun v G1 hv => ?_)
  rw [hv.1, hv.2]
  refine mk_14018_766 hS2.2.1 (by rw [e1, hS2.2.2.1]; exact z_vp (by omega) (by omega)) rfl ?_
  rw [e1, z_tn (n := 3 * cnt + 1) (by omega), (z5.2.1 1 (3 * cnt + 1) (Or.inl rfl) (by decide)).1]
  have hm : mj_X 2046 13121 0 [some (.inr (.inr (1714))), some (.inl (mj_i G 1 (3 * cnt + 1))), none] [] (mm_M f G2) (fun o G1 => ∃ v, o = .inl (some (.inl v)) ∧ ∃ f1, G1 = mm_M f1 G2 ∧ (LM s' f1 ∧ rJ c17 res v (f1 1714 0))) := z6 (fun v f' => LM s' f' ∧ rJ c17 res v (f' 1714 0)) (fun f' v a b => ⟨a, b⟩)
  rw [eM] at hm
  refine mc_14018_775 (R := fun v G3 => ∃ f1, G3 = mm_M f1 G2 ∧ (LM s' f1 ∧ rJ c17 res v (f1 1714 0))) hS2.1.1 hm (fun v G3 hv => ?_)
  obtain ⟨f1, rfl, hL1, hr⟩ := hv
  have ht : mj_X 2046 13001 0 [some (.inr (.inr 1714))] [] (mm_M f1 G2) (fun o G1 => ∃ v, o = .inl (some (.inl v)) ∧ ∃ f2, G1 = mm_M f2 G2 ∧ (v = f1 1714 0 ∧ f2 = f1)) := w_m_thrown (K := fun v f2 => v = f1 1714 0 ∧ f2 = f1) hS2.1 ⟨rfl, rfl⟩
  refine mk_14018_778 (mc_14018_781 (R := fun v G4 => ∃ f2, G4 = mm_M f2 G2 ∧ (v = f1 1714 0 ∧ f2 = f1)) hS2.1.1 ht (fun v4 G4 hv4 => ?_))
  obtain ⟨f2, rfl, rfl, rfl⟩ := hv4
  have nxt := nx _ (LI_n hG hS hn hu z3 z4 z5 hL1)
  refine mk_14018_784 (fun _ => mk_14018_791 (fun _ => mk_14018_808 nxt) (fun q => ?_)) (fun q => absurd (th_e (fun r hr' => (z1 r hr').1) z2 hr) q)
  have er := th_r c17_2 z2 hr q
  refine mk_14018_796 hS2.2.2.2.1 (by show vp_in _ (mj_l G2 1767); rw [hS2.2.2.2.2]; exact vp_01) rfl (fun _ => mk_14018_808 nxt) (fun q1 => ?_)
  exfalso
  refine q1 ?_
  show lg_cmp (mj_j G2 1767 0) v.toInt64 = (0 : Int32)
  rw [(z1 v er).2]
  exact lg_00
theorem st_850 (hI : LI N cnt G) (h3 : 3 * cnt + 3 ≤ N) (hN : N ≤ 1536) (nx : ∀ G', LI N (cnt + 1) G' → mj_X 2047 14018 1282 (lv5 (nI (3 * cnt))) [] G' Q) : mj_X 2047 14018 850 (lv5 (nI (3 * cnt))) [] G Q := by
  obtain ⟨s, ρ, f, hS, hs, hC, hL, hE, hn, hu⟩ := hI
  have hG := hh_n hC.1
  obtain ⟨k, G2, s', ρ', res, X, z1, z2, z3, z4, z5, z6⟩ := wrap_v (c := c17) (opD_of (opK_of op_out)) (fun Q h => wr_14011 (d := 2045) (x1 := mj_i G 1 (3 * cnt + 1)) (cs_k (K := 13) hC.1.1 rfl) h) hS hs hC hL
  have hS2 := lw_yR hG hS z5
  have e1 : nI (3 * cnt) + Int32.ofInt 1 = nI (3 * cnt + 1) := z_add _ _
  have eM : mm_M f G2 = G2 := mm_G2 z5 hE
  refine mk_14018_850 hS.2.1 (by rw [e1, hS.2.2.1]; exact z_vp (by omega) (by omega)) rfl ?_
  rw [e1, z_tn (n := 3 * cnt + 1) (by omega)]
  refine mc_14018_858 (R := fun v G1 => v = k ∧ G1 = G2) (mj_X_mono X (fun a b hab => ⟨k, hab.1, rfl, hab.2⟩)) (fun v G1 hv => ?_)
  rw [hv.1, hv.2]
  refine mk_14018_861 hS2.2.1 (by rw [e1, hS2.2.2.1]; exact z_vp (by omega) (by omega)) rfl ?_
  rw [e1, z_tn (n := 3 * cnt + 1) (by omega), (z5.2.1 1 (3 * cnt + 1) (Or.inl rfl) (by decide)).1]
  have hm : mj_X 2046 13126 0 [some (.inr (.inr (1714))), some (.inl (mj_i G 1 (3 * cnt + 1)))] [] (mm_M f G2) (fun o G1 => ∃ v, o = .inl (some (.inl v)) ∧ ∃ f1, G1 = mm_M f1 G2 ∧ (LM s' f1 ∧ rJ c17 res v (f1 1714 0))) := z6 (fun v f' => LM s' f' ∧ rJ c17 res v (f' 1714 0)) (fun f' v a b => ⟨a, b⟩)
  rw [eM] at hm
  refine mc_14018_870 (R := fun v G3 => ∃ f1, G3 = mm_M f1 G2 ∧ (LM s' f1 ∧ rJ c17 res v (f1 1714 0))) hS2.1.1 hm (fun v G3 hv => ?_)
  obtain ⟨f1, rfl, hL1, hr⟩ := hv
  have ht : mj_X 2046 13001 0 [some (.inr (.inr 1714))] [] (mm_M f1 G2) (fun o G1 => ∃ v, o = .inl (some (.inl v)) ∧ ∃ f2, G1 = mm_M f2 G2 ∧ (v = f1 1714 0 ∧ f2 = f1)) := w_m_thrown (K := fun v f2 => v = f1 1714 0 ∧ f2 = f1) hS2.1 ⟨rfl, rfl⟩
  refine mk_14018_873 (mc_14018_876 (R := fun v G4 => ∃ f2, G4 = mm_M f2 G2 ∧ (v = f1 1714 0 ∧ f2 = f1)) hS2.1.1 ht (fun v4 G4 hv4 => ?_))
  obtain ⟨f2, rfl, rfl, rfl⟩ := hv4
  have nxt := nx _ (LI_n hG hS hn hu z3 z4 z5 hL1)
  refine mk_14018_879 (fun _ => mk_14018_886 (fun _ => mk_14018_903 nxt) (fun q => ?_)) (fun q => absurd (th_e (fun r hr' => (z1 r hr').1) z2 hr) q)
  have er := th_r c17_2 z2 hr q
  refine mk_14018_891 hS2.2.2.2.1 (by show vp_in _ (mj_l G2 1767); rw [hS2.2.2.2.2]; exact vp_01) rfl (fun _ => mk_14018_903 nxt) (fun q1 => ?_)
  exfalso
  refine q1 ?_
  show lg_cmp (mj_j G2 1767 0) v.toInt64 = (0 : Int32)
  rw [(z1 v er).2]
  exact lg_00
theorem st_906 (hI : LI N cnt G) (h3 : 3 * cnt + 3 ≤ N) (hN : N ≤ 1536) (nx : ∀ G', LI N (cnt + 1) G' → mj_X 2047 14018 1282 (lv5 (nI (3 * cnt))) [] G' Q) : mj_X 2047 14018 906 (lv5 (nI (3 * cnt))) [] G Q := by
  obtain ⟨s, ρ, f, hS, hs, hC, hL, hE, hn, hu⟩ := hI
  have hG := hh_n hC.1
  obtain ⟨k, G2, s', ρ', res, X, z1, z2, z3, z4, z5, z6⟩ := wrap_v (c := c17) (opD_of (opK_of op_outAnew)) (fun Q h => wr_14012 (d := 2045) (x1 := mj_i G 1 (3 * cnt + 1)) (cs_k (K := 13) hC.1.1 rfl) h) hS hs hC hL
  have hS2 := lw_yR hG hS z5
  have e1 : nI (3 * cnt) + Int32.ofInt 1 = nI (3 * cnt + 1) := z_add _ _
  have eM : mm_M f G2 = G2 := mm_G2 z5 hE
  refine mk_14018_906 hS.2.1 (by rw [e1, hS.2.2.1]; exact z_vp (by omega) (by omega)) rfl ?_
  rw [e1, z_tn (n := 3 * cnt + 1) (by omega)]
  refine mc_14018_914 (R := fun v G1 => v = k ∧ G1 = G2) (mj_X_mono X (fun a b hab => ⟨k, hab.1, rfl, hab.2⟩)) (fun v G1 hv => ?_)
  rw [hv.1, hv.2]
  refine mk_14018_917 hS2.2.1 (by rw [e1, hS2.2.2.1]; exact z_vp (by omega) (by omega)) rfl ?_
  rw [e1, z_tn (n := 3 * cnt + 1) (by omega), (z5.2.1 1 (3 * cnt + 1) (Or.inl rfl) (by decide)).1]
  have hm : mj_X 2046 13127 0 [some (.inr (.inr (1714))), some (.inl (mj_i G 1 (3 * cnt + 1)))] [] (mm_M f G2) (fun o G1 => ∃ v, o = .inl (some (.inl v)) ∧ ∃ f1, G1 = mm_M f1 G2 ∧ (LM s' f1 ∧ rJ c17 res v (f1 1714 0))) := z6 (fun v f' => LM s' f' ∧ rJ c17 res v (f' 1714 0)) (fun f' v a b => ⟨a, b⟩)
  rw [eM] at hm
  refine mc_14018_926 (R := fun v G3 => ∃ f1, G3 = mm_M f1 G2 ∧ (LM s' f1 ∧ rJ c17 res v (f1 1714 0))) hS2.1.1 hm (fun v G3 hv => ?_)
  obtain ⟨f1, rfl, hL1, hr⟩ := hv
  have ht : mj_X 2046 13001 0 [some (.inr (.inr 1714))] [] (mm_M f1 G2) (fun o G1 => ∃ v, o = .inl (some (.inl v)) ∧ ∃ f2, G1 = mm_M f2 G2 ∧ (v = f1 1714 0 ∧ f2 = f1)) := w_m_thrown (K := fun v f2 => v = f1 1714 0 ∧ f2 = f1) hS2.1 ⟨rfl, rfl⟩
  refine mk_14018_929 (mc_14018_932 (R := fun v G4 => ∃ f2, G4 = mm_M f2 G2 ∧ (v = f1 1714 0 ∧ f2 = f1)) hS2.1.1 ht (fun v4 G4 hv4 => ?_))
  obtain ⟨f2, rfl, rfl, rfl⟩ := hv4
  have nxt := nx _ (LI_n hG hS hn hu z3 z4 z5 hL1)
  refine mk_14018_935 (fun _ => mk_14018_942 (fun _ => mk_14018_959 nxt) (fun q => ?_)) (fun q => absurd (th_e (fun r hr' => (z1 r hr').1) z2 hr) q)
  have er := th_r c17_2 z2 hr q
  refine mk_14018_947 hS2.2.2.2.1 (by show vp_in _ (mj_l G2 1767); rw [hS2.2.2.2.2]; exact vp_01) rfl (fun _ => mk_14018_959 nxt) (fun q1 => ?_)
  exfalso
  refine q1 ?_
  show lg_cmp (mj_j G2 1767 0) v.toInt64 = (0 : Int32)
  rw [(z1 v er).2]
  exact lg_00
theorem st_962 (hI : LI N cnt G) (h3 : 3 * cnt + 3 ≤ N) (hN : N ≤ 1536) (nx : ∀ G', LI N (cnt + 1) G' → mj_X 2047 14018 1282 (lv5 (nI (3 * cnt))) [] G' Q) : mj_X 2047 14018 962 (lv5 (nI (3 * cnt))) [] G Q := by
  obtain ⟨s, ρ, f, hS, hs, hC, hL, hE, hn, hu⟩ := hI
  have hG := hh_n hC.1
  obtain ⟨k, G2, s', ρ', res, X, z1, z2, z3, z4, z5, z6⟩ := wrap_v (c := c17) (opD_of (opK_of op_source)) (fun Q h => wr_14013 (d := 2045) (x1 := mj_i G 1 (3 * cnt + 1)) (cs_k (K := 13) hC.1.1 rfl) h) hS hs hC hL
  have hS2 := lw_yR hG hS z5
  have e1 : nI (3 * cnt) + Int32.ofInt 1 = nI (3 * cnt + 1) := z_add _ _
  have eM : mm_M f G2 = G2 := mm_G2 z5 hE
  refine mk_14018_962 hS.2.1 (by rw [e1, hS.2.2.1]; exact z_vp (by omega) (by omega)) rfl ?_
  rw [e1, z_tn (n := 3 * cnt + 1) (by omega)]
  refine mc_14018_970 (R := fun v G1 => v = k ∧ G1 = G2) (mj_X_mono X (fun a b hab => ⟨k, hab.1, rfl, hab.2⟩)) (fun v G1 hv => ?_)
  rw [hv.1, hv.2]
  refine mk_14018_973 hS2.2.1 (by rw [e1, hS2.2.2.1]; exact z_vp (by omega) (by omega)) rfl ?_
  rw [e1, z_tn (n := 3 * cnt + 1) (by omega), (z5.2.1 1 (3 * cnt + 1) (Or.inl rfl) (by decide)).1]
  have hm : mj_X 2046 13128 0 [some (.inr (.inr (1714))), some (.inl (mj_i G 1 (3 * cnt + 1)))] [] (mm_M f G2) (fun o G1 => ∃ v, o = .inl (some (.inl v)) ∧ ∃ f1, G1 = mm_M f1 G2 ∧ (LM s' f1 ∧ rJ c17 res v (f1 1714 0))) := z6 (fun v f' => LM s' f' ∧ rJ c17 res v (f' 1714 0)) (fun f' v a b => ⟨a, b⟩)
  rw [eM] at hm
  refine mc_14018_982 (R := fun v G3 => ∃ f1, G3 = mm_M f1 G2 ∧ (LM s' f1 ∧ rJ c17 res v (f1 1714 0))) hS2.1.1 hm (fun v G3 hv => ?_)
  obtain ⟨f1, rfl, hL1, hr⟩ := hv
  have ht : mj_X 2046 13001 0 [some (.inr (.inr 1714))] [] (mm_M f1 G2) (fun o G1 => ∃ v, o = .inl (some (.inl v)) ∧ ∃ f2, G1 = mm_M f2 G2 ∧ (v = f1 1714 0 ∧ f2 = f1)) := w_m_thrown (K := fun v f2 => v = f1 1714 0 ∧ f2 = f1) hS2.1 ⟨rfl, rfl⟩
  refine mk_14018_985 (mc_14018_988 (R := fun v G4 => ∃ f2, G4 = mm_M f2 G2 ∧ (v = f1 1714 0 ∧ f2 = f1)) hS2.1.1 ht (fun v4 G4 hv4 => ?_))
  obtain ⟨f2, rfl, rfl, rfl⟩ := hv4
  have nxt := nx _ (LI_n hG hS hn hu z3 z4 z5 hL1)
  refine mk_14018_991 (fun _ => mk_14018_998 (fun _ => mk_14018_1015 nxt) (fun q => ?_)) (fun q => absurd (th_e (fun r hr' => (z1 r hr').1) z2 hr) q)
  have er := th_r c17_2 z2 hr q
  refine mk_14018_1003 hS2.2.2.2.1 (by show vp_in _ (mj_l G2 1767); rw [hS2.2.2.2.2]; exact vp_01) rfl (fun _ => mk_14018_1015 nxt) (fun q1 => ?_)
  exfalso
  refine q1 ?_
  show lg_cmp (mj_j G2 1767 0) v.toInt64 = (0 : Int32)
  rw [(z1 v er).2]
  exact lg_00
theorem st_1018 (hI : LI N cnt G) (h3 : 3 * cnt + 3 ≤ N) (hN : N ≤ 1536) (nx : ∀ G', LI N (cnt + 1) G' → mj_X 2047 14018 1282 (lv5 (nI (3 * cnt))) [] G' Q) : mj_X 2047 14018 1018 (lv5 (nI (3 * cnt))) [] G Q := by
  obtain ⟨s, ρ, f, hS, hs, hC, hL, hE, hn, hu⟩ := hI
  have hG := hh_n hC.1
  obtain ⟨k, G2, s', ρ', res, X, z1, z2, z3, z4, z5, z6⟩ := wrap_v (c := c17) (opD_of (opK_of op_context)) (fun Q h => wr_14014 (d := 2045) (x1 := mj_i G 1 (3 * cnt + 1)) (cs_k (K := 13) hC.1.1 rfl) h) hS hs hC hL
  have hS2 := lw_yR hG hS z5
  have e1 : nI (3 * cnt) + Int32.ofInt 1 = nI (3 * cnt + 1) := z_add _ _
  have eM : mm_M f G2 = G2 := mm_G2 z5 hE
  refine mk_14018_1018 hS.2.1 (by rw [e1, hS.2.2.1]; exact z_vp (by omega) (by omega)) rfl ?_
  rw [e1, z_tn (n := 3 * cnt + 1) (by omega)]
  refine mc_14018_1026 (R := fun v G1 => v = k ∧ G1 = G2) (mj_X_mono X (fun a b hab => ⟨k, hab.1, rfl, hab.2⟩)) (fun v G1 hv => ?_)
  rw [hv.1, hv.2]
  refine mk_14018_1029 hS2.2.1 (by rw [e1, hS2.2.2.1]; exact z_vp (by omega) (by omega)) rfl ?_
  rw [e1, z_tn (n := 3 * cnt + 1) (by omega), (z5.2.1 1 (3 * cnt + 1) (Or.inl rfl) (by decide)).1]
  have hm : mj_X 2046 13129 0 [some (.inr (.inr (1714))), some (.inl (mj_i G 1 (3 * cnt + 1)))] [] (mm_M f G2) (fun o G1 => ∃ v, o = .inl (some (.inl v)) ∧ ∃ f1, G1 = mm_M f1 G2 ∧ (LM s' f1 ∧ rJ c17 res v (f1 1714 0))) := z6 (fun v f' => LM s' f' ∧ rJ c17 res v (f' 1714 0)) (fun f' v a b => ⟨a, b⟩)
  rw [eM] at hm
  refine mc_14018_1038 (R := fun v G3 => ∃ f1, G3 = mm_M f1 G2 ∧ (LM s' f1 ∧ rJ c17 res v (f1 1714 0))) hS2.1.1 hm (fun v G3 hv => ?_)
  obtain ⟨f1, rfl, hL1, hr⟩ := hv
  have ht : mj_X 2046 13001 0 [some (.inr (.inr 1714))] [] (mm_M f1 G2) (fun o G1 => ∃ v, o = .inl (some (.inl v)) ∧ ∃ f2, G1 = mm_M f2 G2 ∧ (v = f1 1714 0 ∧ f2 = f1)) := w_m_thrown (K := fun v f2 => v = f1 1714 0 ∧ f2 = f1) hS2.1 ⟨rfl, rfl⟩
  refine mk_14018_1041 (mc_14018_1044 (R := fun v G4 => ∃ f2, G4 = mm_M f2 G2 ∧ (v = f1 1714 0 ∧ f2 = f1)) hS2.1.1 ht (fun v4 G4 hv4 => ?_))
  obtain ⟨f2, rfl, rfl, rfl⟩ := hv4
  have nxt := nx _ (LI_n hG hS hn hu z3 z4 z5 hL1)
  refine mk_14018_1047 (fun _ => mk_14018_1054 (fun _ => mk_14018_1071 nxt) (fun q => ?_)) (fun q => absurd (th_e (fun r hr' => (z1 r hr').1) z2 hr) q)
  have er := th_r c17_2 z2 hr q
  refine mk_14018_1059 hS2.2.2.2.1 (by show vp_in _ (mj_l G2 1767); rw [hS2.2.2.2.2]; exact vp_01) rfl (fun _ => mk_14018_1071 nxt) (fun q1 => ?_)
  exfalso
  refine q1 ?_
  show lg_cmp (mj_j G2 1767 0) v.toInt64 = (0 : Int32)
  rw [(z1 v er).2]
  exact lg_00
theorem st_1100 (hI : LI N cnt G) (h3 : 3 * cnt + 3 ≤ N) (hN : N ≤ 1536) (nx : ∀ G', LI N (cnt + 1) G' → mj_X 2047 14018 1282 (lv5 (nI (3 * cnt))) [] G' Q) : mj_X 2047 14018 1100 (lv5 (nI (3 * cnt))) [] G Q := by
  obtain ⟨s, ρ, f, hS, hs, hC, hL, hE, hn, hu⟩ := hI
  have hG := hh_n hC.1
  obtain ⟨k, G2, s', ρ', res, X, z1, z2, z3, z4, z5, z6⟩ := wrap_v (c := c17) (opD_of op_mayEnd) (fun Q h => wr_14015 (d := 2045) (x1 := mj_i G 1 (3 * cnt + 1)) (cs_k (K := 13) hC.1.1 rfl) h) hS hs hC hL
  have hS2 := lw_yR hG hS z5
  have e1 : nI (3 * cnt) + Int32.ofInt 1 = nI (3 * cnt + 1) := z_add _ _
  have eM : mm_M f G2 = G2 := mm_G2 z5 hE
  refine mk_14018_1100 hS.2.1 (by rw [e1, hS.2.2.1]; exact z_vp (by omega) (by omega)) rfl ?_
  rw [e1, z_tn (n := 3 * cnt + 1) (by omega)]
  refine mc_14018_1108 (R := fun v G1 => v = k ∧ G1 = G2) (mj_X_mono X (fun a b hab => ⟨k, hab.1, rfl, hab.2⟩)) (fun v G1 hv => ?_)
  rw [hv.1, hv.2]
  refine mk_14018_1111 hS2.2.1 (by rw [e1, hS2.2.2.1]; exact z_vp (by omega) (by omega)) rfl ?_
  rw [e1, z_tn (n := 3 * cnt + 1) (by omega), (z5.2.1 1 (3 * cnt + 1) (Or.inl rfl) (by decide)).1]
  have hm : mj_X 2046 13140 0 [some (.inr (.inr (1714))), some (.inl (mj_i G 1 (3 * cnt + 1)))] [] (mm_M f G2) (fun o G1 => ∃ v, o = .inl (some (.inl v)) ∧ ∃ f1, G1 = mm_M f1 G2 ∧ (LM s' f1 ∧ rJ c17 res v (f1 1714 0))) := z6 (fun v f' => LM s' f' ∧ rJ c17 res v (f' 1714 0)) (fun f' v a b => ⟨a, b⟩)
  rw [eM] at hm
  refine mc_14018_1120 (R := fun v G3 => ∃ f1, G3 = mm_M f1 G2 ∧ (LM s' f1 ∧ rJ c17 res v (f1 1714 0))) hS2.1.1 hm (fun v G3 hv => ?_)
  obtain ⟨f1, rfl, hL1, hr⟩ := hv
  have ht : mj_X 2046 13001 0 [some (.inr (.inr 1714))] [] (mm_M f1 G2) (fun o G1 => ∃ v, o = .inl (some (.inl v)) ∧ ∃ f2, G1 = mm_M f2 G2 ∧ (v = f1 1714 0 ∧ f2 = f1)) := w_m_thrown (K := fun v f2 => v = f1 1714 0 ∧ f2 = f1) hS2.1 ⟨rfl, rfl⟩
  refine mk_14018_1123 (mc_14018_1126 (R := fun v G4 => ∃ f2, G4 = mm_M f2 G2 ∧ (v = f1 1714 0 ∧ f2 = f1)) hS2.1.1 ht (fun v4 G4 hv4 => ?_))
  obtain ⟨f2, rfl, rfl, rfl⟩ := hv4
  have nxt := nx _ (LI_n hG hS hn hu z3 z4 z5 hL1)
  refine mk_14018_1129 (fun _ => mk_14018_1136 (fun _ => mk_14018_1153 nxt) (fun q => ?_)) (fun q => absurd (th_e (fun r hr' => (z1 r hr').1) z2 hr) q)
  have er := th_r c17_2 z2 hr q
  refine mk_14018_1141 hS2.2.2.2.1 (by show vp_in _ (mj_l G2 1767); rw [hS2.2.2.2.2]; exact vp_01) rfl (fun _ => mk_14018_1153 nxt) (fun q1 => ?_)
  exfalso
  refine q1 ?_
  show lg_cmp (mj_j G2 1767 0) v.toInt64 = (0 : Int32)
  rw [(z1 v er).2]
  exact lg_00
theorem st_1156 (hI : LI N cnt G) (h3 : 3 * cnt + 3 ≤ N) (hN : N ≤ 1536) (nx : ∀ G', LI N (cnt + 1) G' → mj_X 2047 14018 1282 (lv5 (nI (3 * cnt))) [] G' Q) : mj_X 2047 14018 1156 (lv5 (nI (3 * cnt))) [] G Q := by
  obtain ⟨s, ρ, f, hS, hs, hC, hL, hE, hn, hu⟩ := hI
  have hG := hh_n hC.1
  obtain ⟨y1, hc1, ec1⟩ := ch_x (x := mj_i G 1 (3 * cnt + 1))
  obtain ⟨k, G2, s', ρ', res, X, z1, z2, z3, z4, z5, z6⟩ := wrap_v (c := c15) (opD_of (opK_of (op_shape hc1))) (fun Q h => wr_14016 (d := 2045) (x1 := nI y1) (x2 := mj_i G 1 (3 * cnt + 2)) (cs_k (K := 13) hC.1.1 rfl) h) hS hs hC hL
  have hS2 := lw_yR hG hS z5
  have e1 : nI (3 * cnt) + Int32.ofInt 1 = nI (3 * cnt + 1) := z_add _ _
  have e2 : nI (3 * cnt) + Int32.ofInt 2 = nI (3 * cnt + 2) := z_add _ _
  have eM : mm_M f G2 = G2 := mm_G2 z5 hE
  refine mk_14018_1156 hS.2.1 (by rw [e1, hS.2.2.1]; exact z_vp (by omega) (by omega)) rfl hS.2.1 (by rw [e2, hS.2.2.1]; exact z_vp (by omega) (by omega)) rfl ?_
  rw [e1, z_tn (n := 3 * cnt + 1) (by omega), ec1, e2, z_tn (n := 3 * cnt + 2) (by omega)]
  refine mc_14018_1171 (R := fun v G1 => v = k ∧ G1 = G2) (mj_X_mono X (fun a b hab => ⟨k, hab.1, rfl, hab.2⟩)) (fun v G1 hv => ?_)
  rw [hv.1, hv.2]
  refine mk_14018_1174 hS2.2.1 (by rw [e1, hS2.2.2.1]; exact z_vp (by omega) (by omega)) rfl hS2.2.1 (by rw [e2, hS2.2.2.1]; exact z_vp (by omega) (by omega)) rfl ?_
  rw [e1, z_tn (n := 3 * cnt + 1) (by omega), (z5.2.1 1 (3 * cnt + 1) (Or.inl rfl) (by decide)).1, ec1, e2, z_tn (n := 3 * cnt + 2) (by omega), (z5.2.1 1 (3 * cnt + 2) (Or.inl rfl) (by decide)).1]
  have hm : mj_X 2046 13141 0 [some (.inr (.inr (1714))), some (.inl (nI y1)), some (.inl (mj_i G 1 (3 * cnt + 2))), none] [] (mm_M f G2) (fun o G1 => ∃ v, o = .inl (some (.inl v)) ∧ ∃ f1, G1 = mm_M f1 G2 ∧ (LM s' f1 ∧ rJ c15 res v (f1 1714 0))) := z6 (fun v f' => LM s' f' ∧ rJ c15 res v (f' 1714 0)) (fun f' v a b => ⟨a, b⟩)
  rw [eM] at hm
  refine mc_14018_1190 (R := fun v G3 => ∃ f1, G3 = mm_M f1 G2 ∧ (LM s' f1 ∧ rJ c15 res v (f1 1714 0))) hS2.1.1 hm (fun v G3 hv => ?_)
  obtain ⟨f1, rfl, hL1, hr⟩ := hv
  have ht : mj_X 2046 13001 0 [some (.inr (.inr 1714))] [] (mm_M f1 G2) (fun o G1 => ∃ v, o = .inl (some (.inl v)) ∧ ∃ f2, G1 = mm_M f2 G2 ∧ (v = f1 1714 0 ∧ f2 = f1)) := w_m_thrown (K := fun v f2 => v = f1 1714 0 ∧ f2 = f1) hS2.1 ⟨rfl, rfl⟩
  refine mk_14018_1193 (mc_14018_1196 (R := fun v G4 => ∃ f2, G4 = mm_M f2 G2 ∧ (v = f1 1714 0 ∧ f2 = f1)) hS2.1.1 ht (fun v4 G4 hv4 => ?_))
  obtain ⟨f2, rfl, rfl, rfl⟩ := hv4
  have nxt := nx _ (LI_n hG hS hn hu z3 z4 z5 hL1)
  refine mk_14018_1199 (fun _ => mk_14018_1206 (fun _ => mk_14018_1223 nxt) (fun q => ?_)) (fun q => absurd (th_e (fun r hr' => (z1 r hr').1) z2 hr) q)
  have er := th_r c15_2 z2 hr q
  refine mk_14018_1211 hS2.2.2.2.1 (by show vp_in _ (mj_l G2 1767); rw [hS2.2.2.2.2]; exact vp_01) rfl (fun _ => mk_14018_1223 nxt) (fun q1 => ?_)
  exfalso
  refine q1 ?_
  show lg_cmp (mj_j G2 1767 0) v.toInt64 = (0 : Int32)
  rw [(z1 v er).2]
  exact lg_00
theorem st_1226 (hI : LI N cnt G) (h3 : 3 * cnt + 3 ≤ N) (hN : N ≤ 1536) (nx : ∀ G', LI N (cnt + 1) G' → mj_X 2047 14018 1282 (lv5 (nI (3 * cnt))) [] G' Q) : mj_X 2047 14018 1226 (lv5 (nI (3 * cnt))) [] G Q := by
  obtain ⟨s, ρ, f, hS, hs, hC, hL, hE, hn, hu⟩ := hI
  have hG := hh_n hC.1
  obtain ⟨k, G2, s', ρ', res, X, z1, z2, z3, z4, z5, z6⟩ := wrap_v (c := c17) (opD_of op_check) (fun Q h => wr_14017 (d := 2045) (x1 := mj_i G 1 (3 * cnt + 1)) (cs_k (K := 13) hC.1.1 rfl) h) hS hs hC hL
  have hS2 := lw_yR hG hS z5
  have e1 : nI (3 * cnt) + Int32.ofInt 1 = nI (3 * cnt + 1) := z_add _ _
  have eM : mm_M f G2 = G2 := mm_G2 z5 hE
  refine mk_14018_1226 hS.2.1 (by rw [e1, hS.2.2.1]; exact z_vp (by omega) (by omega)) rfl ?_
  rw [e1, z_tn (n := 3 * cnt + 1) (by omega)]
  refine mc_14018_1234 (R := fun v G1 => v = k ∧ G1 = G2) (mj_X_mono X (fun a b hab => ⟨k, hab.1, rfl, hab.2⟩)) (fun v G1 hv => ?_)
  rw [hv.1, hv.2]
  refine mk_14018_1237 hS2.2.1 (by rw [e1, hS2.2.2.1]; exact z_vp (by omega) (by omega)) rfl ?_
  rw [e1, z_tn (n := 3 * cnt + 1) (by omega), (z5.2.1 1 (3 * cnt + 1) (Or.inl rfl) (by decide)).1]
  have hm : mj_X 2046 13151 0 [some (.inr (.inr (1714))), some (.inl (mj_i G 1 (3 * cnt + 1))), none] [] (mm_M f G2) (fun o G1 => ∃ v, o = .inl (some (.inl v)) ∧ ∃ f1, G1 = mm_M f1 G2 ∧ (LM s' f1 ∧ rJ c17 res v (f1 1714 0))) := z6 (fun v f' => LM s' f' ∧ rJ c17 res v (f' 1714 0)) (fun f' v a b => ⟨a, b⟩)
  rw [eM] at hm
  refine mc_14018_1246 (R := fun v G3 => ∃ f1, G3 = mm_M f1 G2 ∧ (LM s' f1 ∧ rJ c17 res v (f1 1714 0))) hS2.1.1 hm (fun v G3 hv => ?_)
  obtain ⟨f1, rfl, hL1, hr⟩ := hv
  have ht : mj_X 2046 13001 0 [some (.inr (.inr 1714))] [] (mm_M f1 G2) (fun o G1 => ∃ v, o = .inl (some (.inl v)) ∧ ∃ f2, G1 = mm_M f2 G2 ∧ (v = f1 1714 0 ∧ f2 = f1)) := w_m_thrown (K := fun v f2 => v = f1 1714 0 ∧ f2 = f1) hS2.1 ⟨rfl, rfl⟩
  refine mk_14018_1249 (mc_14018_1252 (R := fun v G4 => ∃ f2, G4 = mm_M f2 G2 ∧ (v = f1 1714 0 ∧ f2 = f1)) hS2.1.1 ht (fun v4 G4 hv4 => ?_))
  obtain ⟨f2, rfl, rfl, rfl⟩ := hv4
  have nxt := nx _ (LI_n hG hS hn hu z3 z4 z5 hL1)
  refine mk_14018_1255 (fun _ => mk_14018_1262 (fun _ => mk_14018_1279 nxt) (fun q => ?_)) (fun q => absurd (th_e (fun r hr' => (z1 r hr').1) z2 hr) q)
  have er := th_r c17_2 z2 hr q
  refine mk_14018_1267 hS2.2.2.2.1 (by show vp_in _ (mj_l G2 1767); rw [hS2.2.2.2.2]; exact vp_01) rfl (fun _ => mk_14018_1279 nxt) (fun q1 => ?_)
  exfalso
  refine q1 ?_
  show lg_cmp (mj_j G2 1767 0) v.toInt64 = (0 : Int32)
  rw [(z1 v er).2]
  exact lg_00
end ZZZH
