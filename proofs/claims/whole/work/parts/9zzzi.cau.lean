/-! THE CASES OF THE LAW, those that throw nothing (wip/tools/gencas2.py) -/
section ZZZI
variable {N cnt : Nat} {G : mj_G} {Q : mj_O → mj_G → Prop}
theorem st_210 (hI : LI N cnt G) (nx : ∀ G', LI N (cnt + 1) G' → mj_X 2047 14018 1282 (lv5 (nI (3 * cnt))) [] G' Q) : mj_X 2047 14018 210 (lv5 (nI (3 * cnt))) [] G Q := by
  obtain ⟨s, ρ, f, hS, hs, hC, hL, hE, hn, hu⟩ := hI
  have hG := hh_n hC.1
  obtain ⟨k, G2, s', ρ', X, z3, z4, z5, z6⟩ := wrap_d (mi := 12002) (ls := [some (.inr (.inr (3))), none]) (opK_of op_wipe) (fun Q h => mj_X_mono h (fun o G1 hk => by
    obtain ⟨v, e, -, hk⟩ := hk
    rw [e]
    exact hk v rfl)) hS hs hC hL
  have hS2 := lw_yR hG hS z5
  have eM : mm_M f G2 = G2 := mm_G2 z5 hE
  refine mk_14018_210 (mc_14018_211 (R := fun v G1 => v = k ∧ G1 = G2) (cs_k (K := 13) hC.1.1 rfl) (mj_X_mono X (fun a b hab => ⟨k, hab.1, rfl, hab.2⟩)) (fun v G1 hv => ?_))
  rw [hv.1, hv.2]
  have hm : mj_X 2046 13023 0 [some (.inr (.inr (1714))), none] [] (mm_M f G2) (fun o G1 => ∃ v, o = .inl (some (.inl v)) ∧ ∃ f1, G1 = mm_M f1 G2 ∧ (LM s' f1 ∧ v = k)) := z6 (fun v f' => LM s' f' ∧ v = k) (fun f' v a b => ⟨a, b.1⟩)
  rw [eM] at hm
  refine mk_14018_214 (mc_14018_215 (R := fun v G3 => ∃ f1, G3 = mm_M f1 G2 ∧ (LM s' f1 ∧ v = k)) hS2.1.1 hm (fun v G3 hv => ?_))
  obtain ⟨f1, rfl, hL1, rfl⟩ := hv
  exact mk_14018_218 (fun _ => nx _ (LI_n hG hS hn hu z3 z4 z5 hL1)) (fun q => absurd rfl q)
theorem st_223 (hI : LI N cnt G) (nx : ∀ G', LI N (cnt + 1) G' → mj_X 2047 14018 1282 (lv5 (nI (3 * cnt))) [] G' Q) : mj_X 2047 14018 223 (lv5 (nI (3 * cnt))) [] G Q := by
  obtain ⟨s, ρ, f, hS, hs, hC, hL, hE, hn, hu⟩ := hI
  have hG := hh_n hC.1
  obtain ⟨k, G2, s', ρ', X, z3, z4, z5, z6⟩ := wrap_d (mi := 12003) (ls := [some (.inr (.inr (3))), none]) (op_fault) (fun Q h => mj_X_mono h (fun o G1 hk => by
    obtain ⟨v, e, -, hk⟩ := hk
    rw [e]
    exact hk v rfl)) hS hs hC hL
  have hS2 := lw_yR hG hS z5
  have eM : mm_M f G2 = G2 := mm_G2 z5 hE
  refine mk_14018_223 (mc_14018_224 (R := fun v G1 => v = k ∧ G1 = G2) (cs_k (K := 13) hC.1.1 rfl) (mj_X_mono X (fun a b hab => ⟨k, hab.1, rfl, hab.2⟩)) (fun v G1 hv => ?_))
  rw [hv.1, hv.2]
  have hm : mj_X 2046 13024 0 [some (.inr (.inr (1714)))] [] (mm_M f G2) (fun o G1 => ∃ v, o = .inl (some (.inl v)) ∧ ∃ f1, G1 = mm_M f1 G2 ∧ (LM s' f1 ∧ v = k)) := z6 (fun v f' => LM s' f' ∧ v = k) (fun f' v a b => ⟨a, b.1⟩)
  rw [eM] at hm
  refine mk_14018_227 (mc_14018_228 (R := fun v G3 => ∃ f1, G3 = mm_M f1 G2 ∧ (LM s' f1 ∧ v = k)) hS2.1.1 hm (fun v G3 hv => ?_))
  obtain ⟨f1, rfl, hL1, rfl⟩ := hv
  exact mk_14018_231 (fun _ => nx _ (LI_n hG hS hn hu z3 z4 z5 hL1)) (fun q => absurd rfl q)
theorem st_811 (hI : LI N cnt G) (nx : ∀ G', LI N (cnt + 1) G' → mj_X 2047 14018 1282 (lv5 (nI (3 * cnt))) [] G' Q) : mj_X 2047 14018 811 (lv5 (nI (3 * cnt))) [] G Q := by
  obtain ⟨s, ρ, f, hS, hs, hC, hL, hE, hn, hu⟩ := hI
  have hG := hh_n hC.1
  obtain ⟨k, G2, s', ρ', X, z3, z4, z5, z6⟩ := wrap_d (mi := 12017) (ls := [some (.inr (.inr (3)))]) (opK_of op_spent) (fun Q h => mj_X_mono h (fun o G1 hk => by
    obtain ⟨v, e, -, hk⟩ := hk
    rw [e]
    exact hk v rfl)) hS hs hC hL
  have hS2 := lw_yR hG hS z5
  have eM : mm_M f G2 = G2 := mm_G2 z5 hE
  refine mk_14018_811 (mc_14018_812 (R := fun v G1 => v = k ∧ G1 = G2) (cs_k (K := 13) hC.1.1 rfl) (mj_X_mono X (fun a b hab => ⟨k, hab.1, rfl, hab.2⟩)) (fun v G1 hv => ?_))
  rw [hv.1, hv.2]
  have hm : mj_X 2046 13122 0 [some (.inr (.inr (1714)))] [] (mm_M f G2) (fun o G1 => ∃ v, o = .inl (some (.inl v)) ∧ ∃ f1, G1 = mm_M f1 G2 ∧ (LM s' f1 ∧ v = k)) := z6 (fun v f' => LM s' f' ∧ v = k) (fun f' v a b => ⟨a, b.1⟩)
  rw [eM] at hm
  refine mk_14018_815 (mc_14018_816 (R := fun v G3 => ∃ f1, G3 = mm_M f1 G2 ∧ (LM s' f1 ∧ v = k)) hS2.1.1 hm (fun v G3 hv => ?_))
  obtain ⟨f1, rfl, hL1, rfl⟩ := hv
  exact mk_14018_819 (fun _ => nx _ (LI_n hG hS hn hu z3 z4 z5 hL1)) (fun q => absurd rfl q)
theorem st_824 (hI : LI N cnt G) (nx : ∀ G', LI N (cnt + 1) G' → mj_X 2047 14018 1282 (lv5 (nI (3 * cnt))) [] G' Q) : mj_X 2047 14018 824 (lv5 (nI (3 * cnt))) [] G Q := by
  obtain ⟨s, ρ, f, hS, hs, hC, hL, hE, hn, hu⟩ := hI
  have hG := hh_n hC.1
  obtain ⟨k, G2, s', ρ', X, z3, z4, z5, z6⟩ := wrap_d (mi := 12018) (ls := [some (.inr (.inr (3)))]) (opK_of op_hits) (fun Q h => mj_X_mono h (fun o G1 hk => by
    obtain ⟨v, e, -, hk⟩ := hk
    rw [e]
    exact hk v rfl)) hS hs hC hL
  have hS2 := lw_yR hG hS z5
  have eM : mm_M f G2 = G2 := mm_G2 z5 hE
  refine mk_14018_824 (mc_14018_825 (R := fun v G1 => v = k ∧ G1 = G2) (cs_k (K := 13) hC.1.1 rfl) (mj_X_mono X (fun a b hab => ⟨k, hab.1, rfl, hab.2⟩)) (fun v G1 hv => ?_))
  rw [hv.1, hv.2]
  have hm : mj_X 2046 13123 0 [some (.inr (.inr (1714)))] [] (mm_M f G2) (fun o G1 => ∃ v, o = .inl (some (.inl v)) ∧ ∃ f1, G1 = mm_M f1 G2 ∧ (LM s' f1 ∧ v = k)) := z6 (fun v f' => LM s' f' ∧ v = k) (fun f' v a b => ⟨a, b.1⟩)
  rw [eM] at hm
  refine mk_14018_828 (mc_14018_829 (R := fun v G3 => ∃ f1, G3 = mm_M f1 G2 ∧ (LM s' f1 ∧ v = k)) hS2.1.1 hm (fun v G3 hv => ?_))
  obtain ⟨f1, rfl, hL1, rfl⟩ := hv
  exact mk_14018_832 (fun _ => nx _ (LI_n hG hS hn hu z3 z4 z5 hL1)) (fun q => absurd rfl q)
theorem st_837 (hI : LI N cnt G) (nx : ∀ G', LI N (cnt + 1) G' → mj_X 2047 14018 1282 (lv5 (nI (3 * cnt))) [] G' Q) : mj_X 2047 14018 837 (lv5 (nI (3 * cnt))) [] G Q := by
  obtain ⟨s, ρ, f, hS, hs, hC, hL, hE, hn, hu⟩ := hI
  have hG := hh_n hC.1
  obtain ⟨k, G2, s', ρ', X, z3, z4, z5, z6⟩ := wrap_d (mi := 12019) (ls := [some (.inr (.inr (3))), none, none]) (opK_of op_kept) (fun Q h => mj_X_mono h (fun o G1 hk => by
    obtain ⟨v, e, -, hk⟩ := hk
    rw [e]
    exact hk v rfl)) hS hs hC hL
  have hS2 := lw_yR hG hS z5
  have eM : mm_M f G2 = G2 := mm_G2 z5 hE
  refine mk_14018_837 (mc_14018_838 (R := fun v G1 => v = k ∧ G1 = G2) (cs_k (K := 13) hC.1.1 rfl) (mj_X_mono X (fun a b hab => ⟨k, hab.1, rfl, hab.2⟩)) (fun v G1 hv => ?_))
  rw [hv.1, hv.2]
  have hm : mj_X 2046 13124 0 [some (.inr (.inr (1714))), none, none] [] (mm_M f G2) (fun o G1 => ∃ v, o = .inl (some (.inl v)) ∧ ∃ f1, G1 = mm_M f1 G2 ∧ (LM s' f1 ∧ v = k)) := z6 (fun v f' => LM s' f' ∧ v = k) (fun f' v a b => ⟨a, b.1⟩)
  rw [eM] at hm
  refine mk_14018_841 (mc_14018_842 (R := fun v G3 => ∃ f1, G3 = mm_M f1 G2 ∧ (LM s' f1 ∧ v = k)) hS2.1.1 hm (fun v G3 hv => ?_))
  obtain ⟨f1, rfl, hL1, rfl⟩ := hv
  exact mk_14018_845 (fun _ => nx _ (LI_n hG hS hn hu z3 z4 z5 hL1)) (fun q => absurd rfl q)
theorem st_1074 (hI : LI N cnt G) (nx : ∀ G', LI N (cnt + 1) G' → mj_X 2047 14018 1282 (lv5 (nI (3 * cnt))) [] G' Q) : mj_X 2047 14018 1074 (lv5 (nI (3 * cnt))) [] G Q := by
  obtain ⟨s, ρ, f, hS, hs, hC, hL, hE, hn, hu⟩ := hI
  have hG := hh_n hC.1
  obtain ⟨k, G2, s', ρ', X, z3, z4, z5, z6⟩ := wrap_d (mi := 12024) (ls := [some (.inr (.inr (3)))]) (opK_of op_alike) (fun Q h => mj_X_mono h (fun o G1 hk => by
    obtain ⟨v, e, -, hk⟩ := hk
    rw [e]
    exact hk v rfl)) hS hs hC hL
  have hS2 := lw_yR hG hS z5
  have eM : mm_M f G2 = G2 := mm_G2 z5 hE
  refine mk_14018_1074 (mc_14018_1075 (R := fun v G1 => v = k ∧ G1 = G2) (cs_k (K := 13) hC.1.1 rfl) (mj_X_mono X (fun a b hab => ⟨k, hab.1, rfl, hab.2⟩)) (fun v G1 hv => ?_))
  rw [hv.1, hv.2]
  have hm : mj_X 2046 13131 0 [some (.inr (.inr (1714)))] [] (mm_M f G2) (fun o G1 => ∃ v, o = .inl (some (.inl v)) ∧ ∃ f1, G1 = mm_M f1 G2 ∧ (LM s' f1 ∧ v = k)) := z6 (fun v f' => LM s' f' ∧ v = k) (fun f' v a b => ⟨a, b.1⟩)
  rw [eM] at hm
  refine mk_14018_1078 (mc_14018_1079 (R := fun v G3 => ∃ f1, G3 = mm_M f1 G2 ∧ (LM s' f1 ∧ v = k)) hS2.1.1 hm (fun v G3 hv => ?_))
  obtain ⟨f1, rfl, hL1, rfl⟩ := hv
  exact mk_14018_1082 (fun _ => nx _ (LI_n hG hS hn hu z3 z4 z5 hL1)) (fun q => absurd rfl q)
theorem st_1087 (hI : LI N cnt G) (nx : ∀ G', LI N (cnt + 1) G' → mj_X 2047 14018 1282 (lv5 (nI (3 * cnt))) [] G' Q) : mj_X 2047 14018 1087 (lv5 (nI (3 * cnt))) [] G Q := by
  obtain ⟨s, ρ, f, hS, hs, hC, hL, hE, hn, hu⟩ := hI
  have hG := hh_n hC.1
  obtain ⟨k, G2, s', ρ', X, z3, z4, z5, z6⟩ := wrap_d (mi := 12025) (ls := [some (.inr (.inr (3)))]) (opK_of op_alikeAtEnd) (fun Q h => mj_X_mono h (fun o G1 hk => by
    obtain ⟨v, e, -, hk⟩ := hk
    rw [e]
    exact hk v rfl)) hS hs hC hL
  have hS2 := lw_yR hG hS z5
  have eM : mm_M f G2 = G2 := mm_G2 z5 hE
  refine mk_14018_1087 (mc_14018_1088 (R := fun v G1 => v = k ∧ G1 = G2) (cs_k (K := 13) hC.1.1 rfl) (mj_X_mono X (fun a b hab => ⟨k, hab.1, rfl, hab.2⟩)) (fun v G1 hv => ?_))
  rw [hv.1, hv.2]
  have hm : mj_X 2046 13132 0 [some (.inr (.inr (1714))), none, none] [] (mm_M f G2) (fun o G1 => ∃ v, o = .inl (some (.inl v)) ∧ ∃ f1, G1 = mm_M f1 G2 ∧ (LM s' f1 ∧ v = k)) := z6 (fun v f' => LM s' f' ∧ v = k) (fun f' v a b => ⟨a, b.1⟩)
  rw [eM] at hm
  refine mk_14018_1091 (mc_14018_1092 (R := fun v G3 => ∃ f1, G3 = mm_M f1 G2 ∧ (LM s' f1 ∧ v = k)) hS2.1.1 hm (fun v G3 hv => ?_))
  obtain ⟨f1, rfl, hL1, rfl⟩ := hv
  exact mk_14018_1095 (fun _ => nx _ (LI_n hG hS hn hu z3 z4 z5 hL1)) (fun q => absurd rfl q)
end ZZZI
