/-! THE CASES OF THE LAW: number, list, clear (wip/tools/gencas3.py) -/
section ZZZJ
variable {N cnt : Nat} {G : mj_G} {Q : mj_O → mj_G → Prop}
theorem st_360 (hI : LI N cnt G) (h3 : 3 * cnt + 3 ≤ N) (hN : N ≤ 1536) (nx : ∀ G', LI N (cnt + 1) G' → mj_X 2047 14018 1282 (lv5 (nI (3 * cnt))) [] G' Q) : mj_X 2047 14018 360 (lv5 (nI (3 * cnt))) [] G Q := by
  obtain ⟨s, ρ, f, hS, hs, hC, hL, hE, hn, hu⟩ := hI
  have hG := hh_n hC.1
  obtain ⟨y1, hc1, ec1⟩ := ch_x (x := mj_i G 1 (3 * cnt + 1))
  obtain ⟨k, G2, s', ρ', X, z3, z4, z5, z6⟩ := wrap_u (c := c15) (opD_of (opK_of (op_number hc1 (y := mj_i G 1 (3 * cnt + 2))))) (fun Q h => wr_14003 (d := 2045) (x1 := nI y1) (x2 := mj_i G 1 (3 * cnt + 2)) (cs_k (K := 13) hC.1.1 rfl) h) hS hs hC hL
  have hS2 := lw_yR hG hS z5
  have e1 : nI (3 * cnt) + Int32.ofInt 1 = nI (3 * cnt + 1) := z_add _ _
  have e2 : nI (3 * cnt) + Int32.ofInt 2 = nI (3 * cnt + 2) := z_add _ _
  have eM : mm_M f G2 = G2 := mm_G2 z5 hE
  refine mk_14018_360 hS.2.1 (by rw [e1, hS.2.2.1]; exact z_vp (by omega) (by omega)) rfl hS.2.1 (by rw [e2, hS.2.2.1]; exact z_vp (by omega) (by omega)) rfl ?_
  rw [e1, z_tn (n := 3 * cnt + 1) (by omega), ec1, e2, z_tn (n := 3 * cnt + 2) (by omega)]
  refine mc_14018_374 (R := fun v G1 => v = k ∧ G1 = G2) (mj_X_mono X (fun a b hab => ⟨k, hab.1, rfl, hab.2⟩)) (fun v G1 hv => ?_)
  rw [hv.1, hv.2]
  refine mk_14018_377 hS2.2.1 (by rw [e1, hS2.2.2.1]; exact z_vp (by omega) (by omega)) rfl hS2.2.1 (by rw [e2, hS2.2.2.1]; exact z_vp (by omega) (by omega)) rfl ?_
  rw [e1, z_tn (n := 3 * cnt + 1) (by omega), (z5.2.1 1 (3 * cnt + 1) (Or.inl rfl) (by decide)).1, ec1, e2, z_tn (n := 3 * cnt + 2) (by omega), (z5.2.1 1 (3 * cnt + 2) (Or.inl rfl) (by decide)).1]
  have hm : mj_X 2046 13028 0 [some (.inr (.inr (1714))), some (.inl (nI y1)), some (.inl (mj_i G 1 (3 * cnt + 2)))] [] (mm_M f G2) (fun o G1 => o = .inl none ∧ ∃ f1, G1 = mm_M f1 G2 ∧ (LM s' f1 ∧ f1 1714 0 = k)) := z6 (fun v f' => LM s' f' ∧ f' 1714 0 = k) (fun f' v a b => ⟨a, b⟩)
  rw [eM] at hm
  refine mc_14018_393 (R := fun G3 => ∃ f1, G3 = mm_M f1 G2 ∧ (LM s' f1 ∧ f1 1714 0 = k)) hS2.1.1 hm (fun G3 hv => ?_)
  obtain ⟨f1, rfl, hL1, hr⟩ := hv
  have ht : mj_X 2046 13001 0 [some (.inr (.inr 1714))] [] (mm_M f1 G2) (fun o G1 => ∃ v, o = .inl (some (.inl v)) ∧ ∃ f2, G1 = mm_M f2 G2 ∧ (v = f1 1714 0 ∧ f2 = f1)) := w_m_thrown (K := fun v f2 => v = f1 1714 0 ∧ f2 = f1) hS2.1 ⟨rfl, rfl⟩
  refine mk_14018_396 (mc_14018_397 (R := fun v G4 => ∃ f2, G4 = mm_M f2 G2 ∧ (v = f1 1714 0 ∧ f2 = f1)) hS2.1.1 ht (fun v4 G4 hv4 => ?_))
  obtain ⟨f2, rfl, rfl, rfl⟩ := hv4
  exact mk_14018_400 (fun _ => mk_14018_407 (nx _ (LI_n hG hS hn hu z3 z4 z5 hL1))) (fun q => absurd hr q)
theorem st_468 (hI : LI N cnt G) (h3 : 3 * cnt + 3 ≤ N) (hN : N ≤ 1536) (nx : ∀ G', LI N (cnt + 1) G' → mj_X 2047 14018 1282 (lv5 (nI (3 * cnt))) [] G' Q) : mj_X 2047 14018 468 (lv5 (nI (3 * cnt))) [] G Q := by
  obtain ⟨s, ρ, f, hS, hs, hC, hL, hE, hn, hu⟩ := hI
  have hG := hh_n hC.1
  obtain ⟨y1, hc1, ec1⟩ := ch_x (x := mj_i G 1 (3 * cnt + 1))
  obtain ⟨k, G2, s', ρ', X, z3, z4, z5, z6⟩ := wrap_u (c := c15) (opD_of (opK_of (op_list hc1))) (fun Q h => wr_14005 (d := 2045) (x1 := nI y1) (cs_k (K := 13) hC.1.1 rfl) h) hS hs hC hL
  have hS2 := lw_yR hG hS z5
  have e1 : nI (3 * cnt) + Int32.ofInt 1 = nI (3 * cnt + 1) := z_add _ _
  have eM : mm_M f G2 = G2 := mm_G2 z5 hE
  refine mk_14018_468 hS.2.1 (by rw [e1, hS.2.2.1]; exact z_vp (by omega) (by omega)) rfl ?_
  rw [e1, z_tn (n := 3 * cnt + 1) (by omega), ec1]
  refine mc_14018_476 (R := fun v G1 => v = k ∧ G1 = G2) (mj_X_mono X (fun a b hab => ⟨k, hab.1, rfl, hab.2⟩)) (fun v G1 hv => ?_)
  rw [hv.1, hv.2]
  refine mk_14018_479 hS2.2.1 (by rw [e1, hS2.2.2.1]; exact z_vp (by omega) (by omega)) rfl ?_
  rw [e1, z_tn (n := 3 * cnt + 1) (by omega), (z5.2.1 1 (3 * cnt + 1) (Or.inl rfl) (by decide)).1, ec1]
  have hm : mj_X 2046 13030 0 [some (.inr (.inr (1714))), some (.inl (nI y1))] [] (mm_M f G2) (fun o G1 => o = .inl none ∧ ∃ f1, G1 = mm_M f1 G2 ∧ (LM s' f1 ∧ f1 1714 0 = k)) := z6 (fun v f' => LM s' f' ∧ f' 1714 0 = k) (fun f' v a b => ⟨a, b⟩)
  rw [eM] at hm
  refine mc_14018_489 (R := fun G3 => ∃ f1, G3 = mm_M f1 G2 ∧ (LM s' f1 ∧ f1 1714 0 = k)) hS2.1.1 hm (fun G3 hv => ?_)
  obtain ⟨f1, rfl, hL1, hr⟩ := hv
  have ht : mj_X 2046 13001 0 [some (.inr (.inr 1714))] [] (mm_M f1 G2) (fun o G1 => ∃ v, o = .inl (some (.inl v)) ∧ ∃ f2, G1 = mm_M f2 G2 ∧ (v = f1 1714 0 ∧ f2 = f1)) := w_m_thrown (K := fun v f2 => v = f1 1714 0 ∧ f2 = f1) hS2.1 ⟨rfl, rfl⟩
  refine mk_14018_492 (mc_14018_493 (R := fun v G4 => ∃ f2, G4 = mm_M f2 G2 ∧ (v = f1 1714 0 ∧ f2 = f1)) hS2.1.1 ht (fun v4 G4 hv4 => ?_))
  obtain ⟨f2, rfl, rfl, rfl⟩ := hv4
  exact mk_14018_496 (fun _ => mk_14018_503 (nx _ (LI_n hG hS hn hu z3 z4 z5 hL1))) (fun q => absurd hr q)
theorem st_634 (hI : LI N cnt G) (h3 : 3 * cnt + 3 ≤ N) (hN : N ≤ 1536) (nx : ∀ G', LI N (cnt + 1) G' → mj_X 2047 14018 1282 (lv5 (nI (3 * cnt))) [] G' Q) : mj_X 2047 14018 634 (lv5 (nI (3 * cnt))) [] G Q := by
  obtain ⟨s, ρ, f, hS, hs, hC, hL, hE, hn, hu⟩ := hI
  have hG := hh_n hC.1
  obtain ⟨y1, hc1, ec1⟩ := ch_x (x := mj_i G 1 (3 * cnt + 1))
  obtain ⟨k, G2, s', ρ', res, X, z1, z2, z3, z4, z5, z6⟩ := wrap_v (c := c15) (opD_of (opK_of (op_clear hc1))) (fun Q h => wr_14008 (d := 2045) (x1 := nI y1) (cs_k (K := 13) hC.1.1 rfl) h) hS hs hC hL
  have hS2 := lw_yR hG hS z5
  have e1 : nI (3 * cnt) + Int32.ofInt 1 = nI (3 * cnt + 1) := z_add _ _
  have eM : mm_M f G2 = G2 := mm_G2 z5 hE
  refine mk_14018_634 hS.2.1 (by rw [e1, hS.2.2.1]; exact z_vp (by omega) (by omega)) rfl ?_
  rw [e1, z_tn (n := 3 * cnt + 1) (by omega), ec1]
  refine mc_14018_643 (R := fun v G1 => v = k ∧ G1 = G2) (mj_X_mono X (fun a b hab => ⟨k, hab.1, rfl, hab.2⟩)) (fun v G1 hv => ?_)
  rw [hv.1, hv.2]
  refine mk_14018_646 hS2.2.1 (by rw [e1, hS2.2.2.1]; exact z_vp (by omega) (by omega)) rfl ?_
  rw [e1, z_tn (n := 3 * cnt + 1) (by omega), (z5.2.1 1 (3 * cnt + 1) (Or.inl rfl) (by decide)).1, ec1]
  have hm : mj_X 2046 13034 0 [some (.inr (.inr (1714))), some (.inl (nI y1)), none] [] (mm_M f G2) (fun o G1 => ∃ b, o = .inl (some (.inl (bI b))) ∧ ∃ f1, G1 = mm_M f1 G2 ∧ (LM s' f1 ∧ rJ c15 res (bI b) (f1 1714 0))) := z6 (fun v f' => LM s' f' ∧ rJ c15 res v (f' 1714 0)) (fun f' v a b => ⟨a, b⟩)
  rw [eM] at hm
  refine mc_14018_656 (R := fun v G3 => ∃ b, v = bI b ∧ ∃ f1, G3 = mm_M f1 G2 ∧ (LM s' f1 ∧ rJ c15 res (bI b) (f1 1714 0))) hS2.1.1 (mj_X_mono hm (fun o G1 h => ?_)) (fun v G3 hv => ?_)
  · obtain ⟨b, e, h⟩ := h
    exact ⟨bI b, e, b, rfl, h⟩
  obtain ⟨b, rfl, f1, rfl, hL1, hr⟩ := hv
  have ht : mj_X 2046 13001 0 [some (.inr (.inr 1714))] [] (mm_M f1 G2) (fun o G1 => ∃ v, o = .inl (some (.inl v)) ∧ ∃ f2, G1 = mm_M f2 G2 ∧ (v = f1 1714 0 ∧ f2 = f1)) := w_m_thrown (K := fun v f2 => v = f1 1714 0 ∧ f2 = f1) hS2.1 ⟨rfl, rfl⟩
  refine mk_14018_659 (mc_14018_662 (R := fun v G4 => ∃ f2, G4 = mm_M f2 G2 ∧ (v = f1 1714 0 ∧ f2 = f1)) hS2.1.1 ht (fun v4 G4 hv4 => ?_))
  obtain ⟨f2, rfl, rfl, rfl⟩ := hv4
  have nxt := nx _ (LI_n hG hS hn hu z3 z4 z5 hL1)
  refine mk_14018_665 (fun _ => mk_14018_672 (fun _ => mk_14018_696 nxt) (fun q => ?_)) (fun q => absurd (th_e (fun r hr' => (z1 r hr').1) z2 hr) q)
  have er := th_r c15_2 z2 hr q
  have e0 := (z1 _ er).2
  refine mk_14018_677 hS2.2.2.2.1 (by show vp_in _ (mj_l G2 1767); rw [hS2.2.2.2.2]; exact vp_01) rfl (fun q0 => mk_14018_689 (mk_14018_690 (fun _ => mk_14018_696 nxt) (fun q1 => ?_))) (fun q0 => mk_14018_685 (mk_14018_690 (fun _ => mk_14018_696 nxt) (fun q1 => ?_)))
  · exfalso
    refine q1 ?_
    show lg_cmp (mj_j G2 1767 0) 0 = (0 : Int32)
    rw [e0]
    cases b with
    | true => exact absurd q0 (by decide)
    | false => decide
  · exfalso
    refine q1 ?_
    show lg_cmp (mj_j G2 1767 0) 1 = (0 : Int32)
    rw [e0]
    cases b with
    | false => exact absurd rfl q0
    | true => decide
end ZZZJ
