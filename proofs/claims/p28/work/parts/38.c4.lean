/-! LAWS OF THE CLASS, 4 -/
/-! 8001: forgetFragments ()V -/
theorem w_Rn_forgetFragments {G : mj_G} (hS : cs_S G) {d : Nat} {K : mj_G → Prop}
    (h : Rn_forgetFragments_2 d (nI 0) G K) : Rn_forgetFragments d G K := by
  refine mk_8001_0 ?_
  exact h
theorem w_Rn_forgetFragments_2 {G : mj_G} (hS : cs_S G) {d : Nat} {x1 : Int32} {K : mj_G → Prop}
    (h : mm_br ((nI 10) ≤ x1) (K G) (mm_ix x1 10 (fun n1 => ∀ G3, G3 = mj_pR G (1597 + 8 * n1) 0 0 → Rn_forgetFragments_2 d (x1 + nI 1) G3 K))) : Rn_forgetFragments_2 d x1 G K := by
  refine mk_8001_2 (fun q => ?_) (fun q => ?_)
  · replace h := h.1 q
    refine mk_8001_24 ⟨rfl, hS, h⟩
  · replace h := h.2 q
    obtain ⟨i2, h⟩ := h
    replace h := h _ rfl
    refine mk_8001_8 (cs_k hS rfl) (cs_r (v := 9) hS rfl) (cs_kg hS rfl) (mm_v (cs_l (N := 10) hS rfl) i2) (cs_f9 hS (mm_lt i2)) ((cs_g9 hS (mm_lt i2)).trans rfl) rfl ?_
    exact h
/-! 8002: run (I)I -/
set_option maxRecDepth 100000 in
theorem w_Rn_run {G : mj_G} (hS : cs_S G) {d : Nat} {x1 : Int32} {K : Int32 → mj_G → Prop}
    (h : Ou_begin d  G (fun G1 => St_begin d  G1 (fun G2 => ∀ G3, G3 = mj_pI G2 6 7 (nI 0) → ∀ G4, G4 = mj_pI G3 6 8 (nI 0) → Rn_layLine d (nI 0) x1 G4 (fun v6 G5 => Rn_run_33 (d + 1) v6 (nI 0) G5 K)))) : Rn_run (d + 1) x1 G K := by
  refine mk_8002_0 (cs_k hS rfl) (cs_r (v := 1589) hS rfl) ?_
  refine mc_8002_4 (cs_k hS rfl) h (fun G1 e => ?_)
  obtain ⟨hSG1, h⟩ := e
  refine mk_8002_7 (cs_k hSG1 rfl) (cs_r (v := 11) hSG1 rfl) ?_
  refine mc_8002_11 (cs_k hSG1 rfl) h (fun G2 e => ?_)
  obtain ⟨hSG2, h⟩ := e
  replace h := h _ rfl
  replace h := h _ rfl
  refine mk_8002_14 (cs_k hSG2 rfl) rfl (cs_k (cs_pI hSG2) rfl) rfl ?_
  refine mc_8002_27 (cs_k (cs_pI (cs_pI hSG2)) rfl) h (fun v6 G5 e => ?_)
  obtain ⟨hSG5, h⟩ := e
  refine mk_8002_30 ?_
  exact h
set_option maxRecDepth 100000 in
theorem w_Rn_run_33 {G : mj_G} (hS : cs_S G) {d : Nat} {x2 : Int32} {x3 : Int32} {K : Int32 → mj_G → Prop}
    (h : mm_br ((nI 1000000) ≤ x3) (mm_br (x2 = (nI 0)) (K (mj_i G 1589 1) G) (Ou_empty d  G (fun G7 => K x2 G7))) (mm_br (x2 = (nI 0)) (mm_br ((mj_i G 11 4) < (nI 0)) (mm_br (x2 = (nI 0)) (K (mj_i G 1589 1) G) (Ou_empty d  G (fun G9 => K x2 G9))) (mm_ix (mj_i G 11 4) 200 (fun n10 => mm_br ((mj_r G (707 + 4 * n10) 2) = 0) (Rn_end d (707 + 4 * n10) G (fun v19 G18 => mm_br (v19 = (nI 0)) (Rn_run_33 (d + 1) v19 (x3 + nI 1) G18 K) (Rn_rescue d v19 G18 (fun v21 G20 => Rn_run_33 (d + 1) v21 (x3 + nI 1) G20 K)))) ((mj_k G (mj_r G (707 + 4 * n10) 2) = 6) ∧ ∀ G13, G13 = mj_pR G (707 + 4 * n10) 2 (mj_r G (mj_r G (707 + 4 * n10) 2) 10) → mm_br ((mj_i G13 (mj_r G (707 + 4 * n10) 2) 0) = (nI 36)) (Rn_run_124 (d + 1) x3 (mj_r G (707 + 4 * n10) 2) G13 K) (Rn_pay d  G13 (fun v15 G14 => mm_br (v15 = true) (Rn_run_124 (d + 1) x3 (mj_r G (707 + 4 * n10) 2) G14 K) (Rn_rescue d ((Int32.ofInt (-9))) G14 (fun v17 G16 => Rn_run_33 (d + 1) v17 (x3 + nI 1) G16 K)))))))) (mm_br (x2 = (nI 0)) (K (mj_i G 1589 1) G) (Ou_empty d  G (fun G8 => K x2 G8))))) : Rn_run_33 (d + 1) x2 x3 G K := by
  refine mk_8002_33 (fun q => ?_) (fun q => ?_)
  · replace h := h.1 q
    refine mk_8002_164 (fun q => ?_) (fun q => ?_)
    · replace h := h.1 q
      refine mk_8002_177 (cs_k hS rfl) (cs_r (v := 1589) hS rfl) (cs_k hS rfl) rfl ⟨_, rfl, hS, h⟩
    · replace h := h.2 q
      refine mk_8002_168 (cs_k hS rfl) (cs_r (v := 1589) hS rfl) ?_
      refine mc_8002_172 (cs_k hS rfl) h (fun G7 e => ?_)
      obtain ⟨hSG7, h⟩ := e
      refine mk_8002_175 ⟨_, rfl, hSG7, h⟩
  · replace h := h.2 q
    refine mk_8002_39 (fun q => ?_) (fun q => ?_)
    · replace h := h.2 q
      refine mk_8002_164 (fun q => ?_) (fun q => ?_)
      · replace h := h.1 q
        refine mk_8002_177 (cs_k hS rfl) (cs_r (v := 1589) hS rfl) (cs_k hS rfl) rfl ⟨_, rfl, hS, h⟩
      · replace h := h.2 q
        refine mk_8002_168 (cs_k hS rfl) (cs_r (v := 1589) hS rfl) ?_
        refine mc_8002_172 (cs_k hS rfl) h (fun G8 e => ?_)
        obtain ⟨hSG8, h⟩ := e
        refine mk_8002_175 ⟨_, rfl, hSG8, h⟩
    · replace h := h.1 q
      refine mk_8002_43 (cs_k hS rfl) (cs_r (v := 11) hS rfl) (cs_k hS rfl) rfl (fun q => ?_) (fun q => ?_)
      · replace h := h.1 q
        refine mk_8002_164 (fun q => ?_) (fun q => ?_)
        · replace h := h.1 q
          refine mk_8002_177 (cs_k hS rfl) (cs_r (v := 1589) hS rfl) (cs_k hS rfl) rfl ⟨_, rfl, hS, h⟩
        · replace h := h.2 q
          refine mk_8002_168 (cs_k hS rfl) (cs_r (v := 1589) hS rfl) ?_
          refine mc_8002_172 (cs_k hS rfl) h (fun G9 e => ?_)
          obtain ⟨hSG9, h⟩ := e
          refine mk_8002_175 ⟨_, rfl, hSG9, h⟩
      · replace h := h.2 q
        obtain ⟨i11, h⟩ := h
        refine mk_8002_53 (cs_k hS rfl) (cs_r (v := 11) hS rfl) (cs_k hS rfl) (cs_r (v := 14) hS rfl) (cs_k hS rfl) (cs_r (v := 11) hS rfl) (cs_k hS rfl) rfl (cs_kg hS rfl) (mm_v (cs_l (N := 200) hS rfl) i11) (cs_f14 hS (mm_lt i11)) ((cs_g14 hS (mm_lt i11)).trans rfl) rfl (fun q => ?_) (fun q => ?_)
        · replace h := h.2 q
          obtain ⟨c12, h⟩ := h
          replace h := h _ rfl
          refine mk_8002_92 c12 rfl ((cs_g14 hS (mm_lt i11)).trans rfl) rfl c12 rfl (fun q => ?_) (fun q => ?_)
          · replace h := h.1 q
            exact h
          · replace h := h.2 q
            refine mk_8002_112 ?_
            refine mc_8002_113 (cs_k (cs_pR hS ((cs_g14 hS (mm_lt i11)).trans rfl) rfl) rfl) (cc_z h) (fun v0 G14 e => ?_)
            obtain ⟨v15, rfl, hSG14, h⟩ := e
            refine mk_8002_116 (fun q => ?_) (fun q => ?_)
            · replace h := h.1 (bI_n q)
              exact h
            · replace h := h.2 (bI_z q)
              refine mk_8002_119 ?_
              refine mk_8002_147 ?_
              refine mk_8002_148 (fun q => absurd q (by decide)) (fun _ => ?_)
              refine mk_8002_152 ?_
              refine mc_8002_154 (cs_k hSG14 rfl) h (fun v17 G16 e => ?_)
              obtain ⟨hSG16, h⟩ := e
              refine mk_8002_157 ?_
              refine mk_8002_158 ?_
              exact h
        · replace h := h.1 q
          refine mk_8002_82 ?_
          refine mc_8002_85 (cs_k hS rfl) h (fun v19 G18 e => ?_)
          obtain ⟨hSG18, h⟩ := e
          refine mk_8002_88 ?_
          refine mk_8002_148 (fun q => ?_) (fun q => ?_)
          · replace h := h.1 q
            refine mk_8002_158 ?_
            exact h
          · replace h := h.2 q
            refine mk_8002_152 ?_
            refine mc_8002_154 (cs_k hSG18 rfl) h (fun v21 G20 e => ?_)
            obtain ⟨hSG20, h⟩ := e
            refine mk_8002_157 ?_
            refine mk_8002_158 ?_
            exact h
set_option maxRecDepth 100000 in
theorem w_Rn_run_124 {G : mj_G} (hS : cs_S G) {d : Nat} {x3 : Int32} {r5 : Nat} {K : Int32 → mj_G → Prop}
    (h : Rn_isCall d r5 G (fun v23 G22 => mm_br (v23 = true) (Rn_openCall d r5 G22 (fun v29 G28 => mm_br (v29 = (nI 0)) (Rn_run_33 (d + 1) v29 (x3 + nI 1) G28 K) (Rn_rescue d v29 G28 (fun v31 G30 => Rn_run_33 (d + 1) v31 (x3 + nI 1) G30 K)))) (Rn_meet d r5 G22 (fun v25 G24 => mm_br (v25 = (nI 0)) (Rn_run_33 (d + 1) v25 (x3 + nI 1) G24 K) (Rn_rescue d v25 G24 (fun v27 G26 => Rn_run_33 (d + 1) v27 (x3 + nI 1) G26 K)))))) : Rn_run_124 (d + 1) x3 r5 G K := by
  refine mk_8002_124 ?_
  refine mc_8002_126 (cc_z h) (fun v0 G22 e => ?_)
  obtain ⟨v23, rfl, hSG22, h⟩ := e
  refine mk_8002_129 (fun q => ?_) (fun q => ?_)
  · replace h := h.2 (bI_z q)
    refine mk_8002_141 ?_
    refine mc_8002_144 (cs_k hSG22 rfl) h (fun v25 G24 e => ?_)
    obtain ⟨hSG24, h⟩ := e
    refine mk_8002_147 ?_
    refine mk_8002_148 (fun q => ?_) (fun q => ?_)
    · replace h := h.1 q
      refine mk_8002_158 ?_
      exact h
    · replace h := h.2 q
      refine mk_8002_152 ?_
      refine mc_8002_154 (cs_k hSG24 rfl) h (fun v27 G26 e => ?_)
      obtain ⟨hSG26, h⟩ := e
      refine mk_8002_157 ?_
      refine mk_8002_158 ?_
      exact h
  · replace h := h.1 (bI_n q)
    refine mk_8002_132 ?_
    refine mc_8002_135 (cs_k hSG22 rfl) h (fun v29 G28 e => ?_)
    obtain ⟨hSG28, h⟩ := e
    refine mk_8002_138 ?_
    refine mk_8002_147 ?_
    refine mk_8002_148 (fun q => ?_) (fun q => ?_)
    · replace h := h.1 q
      refine mk_8002_158 ?_
      exact h
    · replace h := h.2 q
      refine mk_8002_152 ?_
      refine mc_8002_154 (cs_k hSG28 rfl) h (fun v31 G30 e => ?_)
      obtain ⟨hSG30, h⟩ := e
      refine mk_8002_157 ?_
      refine mk_8002_158 ?_
      exact h
/-! 8003: layLine (II)I -/
theorem w_Rn_layLine {G : mj_G} (hS : cs_S G) {d : Nat} {x1 : Int32} {x2 : Int32} {K : Int32 → mj_G → Prop}
    (h : mm_ix x1 200 (fun n1 => ∀ G3, G3 = mj_pI G (707 + 4 * n1) 7 x1 → ∀ G4, G4 = mj_pI G3 (707 + 4 * n1) 9 (nI 0) → Rn_layLine_26 (d + 1) (707 + 4 * n1) x2 (nI 0) G4 K)) : Rn_layLine (d + 1) x1 x2 G K := by
  obtain ⟨i2, h⟩ := h
  replace h := h _ rfl
  replace h := h _ rfl
  refine mk_8003_0 (cs_k hS rfl) (cs_r (v := 11) hS rfl) (cs_k hS rfl) (cs_r (v := 14) hS rfl) (cs_kg hS rfl) (mm_v (cs_l (N := 200) hS rfl) i2) (cs_f14 hS (mm_lt i2)) ((cs_g14 hS (mm_lt i2)).trans rfl) rfl ((cs_g14 hS (mm_lt i2)).trans rfl) rfl ?_
  exact h
theorem w_Rn_layLine_26 {G : mj_G} (hS : cs_S G) {d : Nat} {r3 : Nat} {x4 : Int32} {x5 : Int32} {K : Int32 → mj_G → Prop}
    (h : mm_br ((nI 10) ≤ x5) (K ((Int32.ofInt (-8))) G) ((mj_k G r3 = 5) ∧ (mj_k G (mj_r G r3 8) = 20) ∧ (3 ≤ (mj_r G r3 8)) ∧ mm_ix x5 (mj_l G (mj_r G r3 8)) (fun n8 => ∀ G10, G10 = mj_pI G (mj_r G r3 8) n8 x4 → ∀ G11, G11 = mj_pI G10 r3 9 (x5 + (nI 1)) → mm_ix x4 10 (fun n12 => (mj_k G11 (mj_r G11 7 n12) = 11) ∧ ∀ G15, G15 = mj_pR G11 r3 2 (mj_r G11 (mj_r G11 7 n12) 0) → mm_ix x4 10 (fun n16 => (mj_k G15 (mj_r G15 7 n16) = 11) ∧ mm_br ((mj_i G15 (mj_r G15 7 n16) 1) = ((Int32.ofInt (-1)))) (K (nI 0) G15) (Rn_placeInLine d r3 (mj_i G15 (mj_r G15 7 n16) 1) G15 (fun v20 G19 => mm_br (v20 = ((Int32.ofInt (-1)))) (Rn_layLine_26 (d + 1) r3 (mj_i G15 (mj_r G15 7 n16) 1) (x5 + nI 1) G19 K) (K ((Int32.ofInt (-8))) G19)))))))) : Rn_layLine_26 (d + 1) r3 x4 x5 G K := by
  refine mk_8003_26 (fun q => ?_) (fun q => ?_)
  · replace h := h.1 q
    refine mk_8003_107 ⟨_, rfl, hS, h⟩
  · replace h := h.2 q
    obtain ⟨c5, h⟩ := h
    obtain ⟨c6, h⟩ := h
    obtain ⟨c7, h⟩ := h
    obtain ⟨i9, h⟩ := h
    replace h := h _ rfl
    replace h := h _ rfl
    obtain ⟨i13, h⟩ := h
    obtain ⟨c14, h⟩ := h
    replace h := h _ rfl
    obtain ⟨i17, h⟩ := h
    obtain ⟨c18, h⟩ := h
    refine mk_8003_33 c5 rfl c6 c7 i9 rfl c5 rfl (cs_k (cs_pI (cs_pI hS)) rfl) (cs_r (v := 7) (cs_pI (cs_pI hS)) rfl) (cs_kg (cs_pI (cs_pI hS)) rfl) (mm_v (cs_l (N := 10) (cs_pI (cs_pI hS)) rfl) i13) rfl c14 rfl c5 rfl (cs_k (cs_pR (cs_pI (cs_pI hS)) c5 rfl) rfl) (cs_r (v := 7) (cs_pR (cs_pI (cs_pI hS)) c5 rfl) rfl) (cs_kg (cs_pR (cs_pI (cs_pI hS)) c5 rfl) rfl) (mm_v (cs_l (N := 10) (cs_pR (cs_pI (cs_pI hS)) c5 rfl) rfl) i17) rfl c18 rfl (fun q => ?_) (fun q => ?_)
    · replace h := h.2 q
      refine mk_8003_84 ?_
      refine mc_8003_87 h (fun v20 G19 e => ?_)
      obtain ⟨hSG19, h⟩ := e
      refine mk_8003_90 (fun q => ?_) (fun q => ?_)
      · replace h := h.1 q
        refine mk_8003_97 ?_
        exact h
      · replace h := h.2 q
        refine mk_8003_94 ⟨_, rfl, hSG19, h⟩
    · replace h := h.1 q
      refine mk_8003_82 ⟨_, rfl, (cs_pR (cs_pI (cs_pI hS)) c5 rfl), h⟩
/-! 8004: placeInLine (LTemplateQuarry$Frame;I)I -/
theorem w_Rn_placeInLine {G : mj_G} (hS : cs_S G) {d : Nat} {r0 : Nat} {x1 : Int32} {K : Int32 → mj_G → Prop}
    (h : Rn_placeInLine_2 d r0 x1 (nI 0) G K) : Rn_placeInLine d r0 x1 G K := by
  refine mk_8004_0 ?_
  exact h
theorem w_Rn_placeInLine_2 {G : mj_G} (hS : cs_S G) {d : Nat} {r0 : Nat} {x1 : Int32} {x2 : Int32} {K : Int32 → mj_G → Prop}
    (h : (mj_k G r0 = 5) ∧ mm_br ((mj_i G r0 9) ≤ x2) (K ((Int32.ofInt (-1))) G) ((mj_k G (mj_r G r0 8) = 20) ∧ mm_ix x2 (mj_l G (mj_r G r0 8)) (fun n3 => mm_br ((mj_i G (mj_r G r0 8) n3) = x1) (K x2 G) (Rn_placeInLine_2 d r0 x1 (x2 + nI 1) G K)))) : Rn_placeInLine_2 d r0 x1 x2 G K := by
  obtain ⟨c1, h⟩ := h
  refine mk_8004_2 c1 rfl (fun q => ?_) (fun q => ?_)
  · replace h := h.1 q
    refine mk_8004_28 ⟨_, rfl, hS, h⟩
  · replace h := h.2 q
    obtain ⟨c2, h⟩ := h
    obtain ⟨i4, h⟩ := h
    refine mk_8004_10 c1 rfl c2 i4 rfl (fun q => ?_) (fun q => ?_)
    · replace h := h.2 q
      refine mk_8004_22 ?_
      exact h
    · replace h := h.1 q
      refine mk_8004_20 ⟨_, rfl, hS, h⟩
/-! 8005: lineFrame ()LTemplateQuarry$Frame; -/
theorem w_Rn_lineFrame {G : mj_G} (hS : cs_S G) {d : Nat} {K : Nat → mj_G → Prop}
    (h : mm_ix (mj_i G 11 4) 200 (fun n1 => mm_ix (mj_i G (707 + 4 * n1) 7) 200 (fun n3 => K (707 + 4 * n3) G))) : Rn_lineFrame d G K := by
  obtain ⟨i2, h⟩ := h
  obtain ⟨i4, h⟩ := h
  refine mk_8005_0 (cs_k hS rfl) (cs_r (v := 11) hS rfl) (cs_k hS rfl) (cs_r (v := 14) hS rfl) (cs_k hS rfl) (cs_r (v := 11) hS rfl) (cs_k hS rfl) (cs_r (v := 14) hS rfl) (cs_k hS rfl) (cs_r (v := 11) hS rfl) (cs_k hS rfl) rfl (cs_kg hS rfl) (mm_v (cs_l (N := 200) hS rfl) i2) (cs_f14 hS (mm_lt i2)) ((cs_g14 hS (mm_lt i2)).trans rfl) rfl (cs_kg hS rfl) (mm_v (cs_l (N := 200) hS rfl) i4) (cs_f14 hS (mm_lt i4)) ⟨_, rfl, hS, h⟩
/-! 8006: pay ()Z -/
theorem w_Rn_pay {G : mj_G} (hS : cs_S G) {d : Nat} {K : Bool → mj_G → Prop}
    (h : mm_br ((mj_i G 6 7) < (mj_i G 6 6)) (∀ G1, G1 = mj_pI G 6 7 ((mj_i G 6 7) + (nI 1)) → K true G1) (K false G)) : Rn_pay d G K := by
  refine mk_8006_0 (cs_k hS rfl) rfl (cs_k hS rfl) rfl (fun q => ?_) (fun q => ?_)
  · replace h := h.1 q
    replace h := h _ rfl
    refine mk_8006_13 (cs_k hS rfl) rfl (cs_k hS rfl) rfl (bI_b true) ⟨true, rfl, (cs_pI hS), h⟩
  · replace h := h.2 q
    refine mk_8006_11 (bI_b false) ⟨false, rfl, hS, h⟩
/-! 8007: isCall (LTemplateQuarry$Node;)Z -/
theorem w_Rn_isCall {G : mj_G} (hS : cs_S G) {d : Nat} {r0 : Nat} {K : Bool → mj_G → Prop}
    (h : (mj_k G r0 = 6) ∧ mm_br ((mj_i G r0 0) = (nI 33)) (K true G) (mm_br ((mj_i G r0 0) = (nI 38)) (K true G) (K false G))) : Rn_isCall d r0 G K := by
  obtain ⟨c1, h⟩ := h
  refine mk_8007_0 c1 rfl (fun q => ?_) (fun q => ?_)
  · replace h := h.1 q
    refine mk_8007_18 ?_
    refine mk_8007_23 (bI_b true) ⟨true, rfl, hS, h⟩
  · replace h := h.2 q
    refine mk_8007_9 c1 rfl (fun q => ?_) (fun q => ?_)
    · replace h := h.2 q
      refine mk_8007_22 ?_
      refine mk_8007_23 (bI_b false) ⟨false, rfl, hS, h⟩
    · replace h := h.1 q
      refine mk_8007_18 ?_
      refine mk_8007_23 (bI_b true) ⟨true, rfl, hS, h⟩
/-! 8008: rescue (I)I -/
theorem w_Rn_rescue {G : mj_G} (hS : cs_S G) {d : Nat} {x1 : Int32} {K : Int32 → mj_G → Prop}
    (h : mm_br (x1 = ((Int32.ofInt (-9)))) (K x1 G) (Rn_rescue_16 (d + 1) x1 (mj_i G 11 4) G K)) : Rn_rescue (d + 1) x1 G K := by
  refine mk_8008_0 (fun q => ?_) (fun q => ?_)
  · replace h := h.2 q
    refine mk_8008_8 (cs_k hS rfl) (cs_r (v := 11) hS rfl) (cs_k hS rfl) rfl ?_
    exact h
  · replace h := h.1 q
    refine mk_8008_6 ⟨_, rfl, hS, h⟩
theorem w_Rn_rescue_16 {G : mj_G} (hS : cs_S G) {d : Nat} {x1 : Int32} {x2 : Int32} {K : Int32 → mj_G → Prop}
    (h : mm_br (x2 < (nI 0)) (K x1 G) (mm_ix x2 200 (fun n1 => mm_br ((mj_i G (707 + 4 * n1) 0) = (nI 43)) (Ou_restore d (707 + 4 * n1) G (fun G3 => St_cut d x2 G3 (fun G4 => (mj_k G4 (707 + 4 * n1) = 5) ∧ (mj_k G4 (mj_r G4 (707 + 4 * n1) 1) = 6) ∧ Rn_enter d (mj_r G4 (mj_r G4 (707 + 4 * n1) 1) 9) G4 (fun v8 G7 => K v8 G7)))) (Rn_rescue_16 (d + 1) x1 (x2 + (Int32.ofInt (-1))) G K)))) : Rn_rescue_16 (d + 1) x1 x2 G K := by
  refine mk_8008_16 (fun q => ?_) (fun q => ?_)
  · replace h := h.1 q
    refine mk_8008_73 ⟨_, rfl, hS, h⟩
  · replace h := h.2 q
    obtain ⟨i2, h⟩ := h
    refine mk_8008_20 (cs_k hS rfl) (cs_r (v := 11) hS rfl) (cs_k hS rfl) (cs_r (v := 14) hS rfl) (cs_kg hS rfl) (mm_v (cs_l (N := 200) hS rfl) i2) (cs_f14 hS (mm_lt i2)) ((cs_g14 hS (mm_lt i2)).trans rfl) rfl (fun q => ?_) (fun q => ?_)
    · replace h := h.2 q
      refine mk_8008_67 ?_
      exact h
    · replace h := h.1 q
      refine mk_8008_39 (cs_k hS rfl) (cs_r (v := 1589) hS rfl) ?_
      refine mc_8008_44 (cs_k hS rfl) h (fun G3 e => ?_)
      obtain ⟨hSG3, h⟩ := e
      refine mk_8008_47 (cs_k hSG3 rfl) (cs_r (v := 11) hSG3 rfl) ?_
      refine mc_8008_52 (cs_k hSG3 rfl) h (fun G4 e => ?_)
      obtain ⟨hSG4, h⟩ := e
      obtain ⟨c5, h⟩ := h
      obtain ⟨c6, h⟩ := h
      refine mk_8008_55 c5 rfl c6 rfl ?_
      refine mc_8008_63 (cs_k hSG4 rfl) h (fun v8 G7 e => ?_)
      obtain ⟨hSG7, h⟩ := e
      refine mk_8008_66 ⟨_, rfl, hSG7, h⟩
/-! 8009: end (LTemplateQuarry$Frame;)I -/
theorem w_Rn_end {G : mj_G} (hS : cs_S G) {d : Nat} {r1 : Nat} {K : Int32 → mj_G → Prop}
    (h : (mj_k G r1 = 5) ∧ mm_br ((mj_i G r1 0) = (nI 42)) (Rn_startRound d r1 G (fun v14 G13 => K v14 G13)) (mm_br ((mj_i G r1 0) = (nI 107)) (mm_br ((mj_i G r1 21) = (nI 0)) (St_cut d (mj_i G 11 4) G (fun G3 => K (nI 0) G3)) ((mj_k G (mj_r G r1 1) = 6) ∧ mm_br ((mj_i G (mj_r G r1 1) 3) < (nI 0)) (St_cut d (mj_i G 11 4) G (fun G5 => K (nI 0) G5)) (mm_ix (mj_i G (mj_r G r1 1) 3) 10 (fun n6 => Rn_lineFrame d  G (fun v9 G8 => (mj_k G8 (1597 + 8 * n6) = 4) ∧ Fg_keep d (1597 + 8 * n6) r1 v9 G8 (fun G11 => St_cut d (mj_i G11 11 4) G11 (fun G12 => K (nI 0) G12))))))) (St_cut d (mj_i G 11 4) G (fun G2 => K (nI 0) G2)))) : Rn_end (d + 1) r1 G K := by
  obtain ⟨c1, h⟩ := h
  refine mk_8009_0 c1 rfl (fun q => ?_) (fun q => ?_)
  · replace h := h.2 q
    refine mk_8009_15 c1 rfl (fun q => ?_) (fun q => ?_)
    · replace h := h.2 q
      refine mk_8009_69 (cs_k hS rfl) (cs_r (v := 11) hS rfl) (cs_k hS rfl) (cs_r (v := 11) hS rfl) (cs_k hS rfl) rfl ?_
      refine mc_8009_80 (cs_k hS rfl) h (fun G2 e => ?_)
      obtain ⟨hSG2, h⟩ := e
      refine mk_8009_83 ⟨_, rfl, hSG2, h⟩
    · replace h := h.1 q
      refine mk_8009_24 c1 rfl (fun q => ?_) (fun q => ?_)
      · replace h := h.1 q
        refine mk_8009_69 (cs_k hS rfl) (cs_r (v := 11) hS rfl) (cs_k hS rfl) (cs_r (v := 11) hS rfl) (cs_k hS rfl) rfl ?_
        refine mc_8009_80 (cs_k hS rfl) h (fun G3 e => ?_)
        obtain ⟨hSG3, h⟩ := e
        refine mk_8009_83 ⟨_, rfl, hSG3, h⟩
      · replace h := h.2 q
        obtain ⟨c4, h⟩ := h
        refine mk_8009_31 c1 rfl c4 rfl (fun q => ?_) (fun q => ?_)
        · replace h := h.1 q
          refine mk_8009_69 (cs_k hS rfl) (cs_r (v := 11) hS rfl) (cs_k hS rfl) (cs_r (v := 11) hS rfl) (cs_k hS rfl) rfl ?_
          refine mc_8009_80 (cs_k hS rfl) h (fun G5 e => ?_)
          obtain ⟨hSG5, h⟩ := e
          refine mk_8009_83 ⟨_, rfl, hSG5, h⟩
        · replace h := h.2 q
          obtain ⟨i7, h⟩ := h
          refine mk_8009_41 (cs_k hS rfl) (cs_r (v := 9) hS rfl) c1 rfl c4 rfl (cs_kg hS rfl) (mm_v (cs_l (N := 10) hS rfl) i7) (cs_f9 hS (mm_lt i7)) ?_
          refine mc_8009_55 (cs_k hS rfl) h (fun v9 G8 e => ?_)
          obtain ⟨hSG8, h⟩ := e
          refine mk_8009_58 (cs_k hSG8 rfl) (cs_r (v := 1589) hSG8 rfl) (cs_k hSG8 rfl) (cs_r (v := 11) hSG8 rfl) ?_
          obtain ⟨c10, h⟩ := h
          refine mc_8009_66 c10 h (fun G11 e => ?_)
          obtain ⟨hSG11, h⟩ := e
          refine mk_8009_69 (cs_k hSG11 rfl) (cs_r (v := 11) hSG11 rfl) (cs_k hSG11 rfl) (cs_r (v := 11) hSG11 rfl) (cs_k hSG11 rfl) rfl ?_
          refine mc_8009_80 (cs_k hSG11 rfl) h (fun G12 e => ?_)
          obtain ⟨hSG12, h⟩ := e
          refine mk_8009_83 ⟨_, rfl, hSG12, h⟩
  · replace h := h.1 q
    refine mk_8009_9 ?_
    refine mc_8009_11 (cs_k hS rfl) h (fun v14 G13 e => ?_)
    obtain ⟨hSG13, h⟩ := e
    refine mk_8009_14 ⟨_, rfl, hSG13, h⟩
/-! 8010: meet (LTemplateQuarry$Node;)I -/
theorem w_Rn_meet {G : mj_G} (hS : cs_S G) {d : Nat} {r1 : Nat} {K : Int32 → mj_G → Prop}
    (h : (mj_k G r1 = 6) ∧ mm_br ((mj_i G r1 0) = nI 1) (Nd_origin d r1 G (fun v3 G2 => Ou_putLiteral d (mj_i G r1 5) v3 G2 (fun v5 G4 => K v5 G4))) (mm_br ((mj_i G r1 0) = nI 35) (Rn_firstBlock d (nI 0) (mj_i G r1 3) G (fun v7 G6 => Rn_openBody d r1 v7 G6 (fun v9 G8 => K v9 G8))) (mm_br ((mj_i G r1 0) = nI 36) (K (nI 0) G) (mm_br ((mj_i G r1 0) = nI 37) (Rn_meetWithValue d r1 G (fun v11 G10 => K v11 G10)) (mm_br ((mj_i G r1 0) = nI 42) (Rn_meetWithValue d r1 G (fun v13 G12 => K v13 G12)) (mm_br ((mj_i G r1 0) = nI 43) (Rn_enterTry d r1 G (fun v15 G14 => K v15 G14)) (mm_br ((mj_i G r1 0) = nI 61) (Rn_meetWithValue d r1 G (fun v17 G16 => K v17 G16)) (mm_br ((mj_i G r1 0) = nI 63) (Rn_meetWithValue d r1 G (fun v19 G18 => K v19 G18)) (mm_br ((mj_i G r1 0) = nI 64) (Rn_openInclude d r1 G (fun v21 G20 => K v21 G20)) (mm_br ((mj_i G r1 0) = nI 94) (Rn_openUp d r1 G (fun v23 G22 => K v23 G22)) (mm_br ((mj_i G r1 0) = nI 107) (Rn_meetFragment d r1 G (fun v25 G24 => K v25 G24)) (mm_br ((mj_i G r1 0) = nI 116) (Rn_meetWithValue d r1 G (fun v27 G26 => K v27 G26)) (mm_br ((mj_i G r1 0) = nI 126) (Rn_openCallersBody d r1 G (fun v29 G28 => K v29 G28)) (St_spoilKeeping d  G (fun G30 => Ou_trim d  G30 (fun G31 => K (nI 0) G31)))))))))))))))) : Rn_meet (d + 1) r1 G K := by
  obtain ⟨c1, h⟩ := h
  refine mk_8010_0 c1 rfl (fun q => ?_) (fun q => ?_) (fun q => ?_) (fun q => ?_) (fun q => ?_) (fun q => ?_) (fun q => ?_) (fun q => ?_) (fun q => ?_) (fun q => ?_) (fun q => ?_) (fun q => ?_) (fun q => ?_) (fun n1 n2 n3 n4 n5 n6 n7 n8 n9 n10 n11 n12 n13 => ?_)
  · replace h := h.1 q
    refine mk_8010_122 (cs_k hS rfl) (cs_r (v := 1589) hS rfl) c1 rfl ?_
    refine mc_8010_131 c1 h (fun v3 G2 e => ?_)
    obtain ⟨hSG2, h⟩ := e
    refine mc_8010_134 (cs_k hSG2 rfl) h (fun v5 G4 e => ?_)
    obtain ⟨hSG4, h⟩ := e
    refine mk_8010_137 ⟨_, rfl, hSG4, h⟩
  · replace h := (h.2 (fun e => absurd (e.symm.trans q) (by decide))).1 q
    refine mk_8010_150 c1 rfl ?_
    refine mc_8010_158 (cs_k hS rfl) h (fun v7 G6 e => ?_)
    obtain ⟨hSG6, h⟩ := e
    refine mc_8010_161 (cs_k hSG6 rfl) h (fun v9 G8 e => ?_)
    obtain ⟨hSG8, h⟩ := e
    refine mk_8010_164 ⟨_, rfl, hSG8, h⟩
  · replace h := ((h.2 (fun e => absurd (e.symm.trans q) (by decide))).2 (fun e => absurd (e.symm.trans q) (by decide))).1 q
    refine mk_8010_120 ⟨_, rfl, hS, h⟩
  · replace h := (((h.2 (fun e => absurd (e.symm.trans q) (by decide))).2 (fun e => absurd (e.symm.trans q) (by decide))).2 (fun e => absurd (e.symm.trans q) (by decide))).1 q
    refine mk_8010_138 ?_
    refine mc_8010_140 (cs_k hS rfl) h (fun v11 G10 e => ?_)
    obtain ⟨hSG10, h⟩ := e
    refine mk_8010_143 ⟨_, rfl, hSG10, h⟩
  · replace h := ((((h.2 (fun e => absurd (e.symm.trans q) (by decide))).2 (fun e => absurd (e.symm.trans q) (by decide))).2 (fun e => absurd (e.symm.trans q) (by decide))).2 (fun e => absurd (e.symm.trans q) (by decide))).1 q
    refine mk_8010_138 ?_
    refine mc_8010_140 (cs_k hS rfl) h (fun v13 G12 e => ?_)
    obtain ⟨hSG12, h⟩ := e
    refine mk_8010_143 ⟨_, rfl, hSG12, h⟩
  · replace h := (((((h.2 (fun e => absurd (e.symm.trans q) (by decide))).2 (fun e => absurd (e.symm.trans q) (by decide))).2 (fun e => absurd (e.symm.trans q) (by decide))).2 (fun e => absurd (e.symm.trans q) (by decide))).2 (fun e => absurd (e.symm.trans q) (by decide))).1 q
    refine mk_8010_144 ?_
    refine mc_8010_146 (cs_k hS rfl) h (fun v15 G14 e => ?_)
    obtain ⟨hSG14, h⟩ := e
    refine mk_8010_149 ⟨_, rfl, hSG14, h⟩
  · replace h := ((((((h.2 (fun e => absurd (e.symm.trans q) (by decide))).2 (fun e => absurd (e.symm.trans q) (by decide))).2 (fun e => absurd (e.symm.trans q) (by decide))).2 (fun e => absurd (e.symm.trans q) (by decide))).2 (fun e => absurd (e.symm.trans q) (by decide))).2 (fun e => absurd (e.symm.trans q) (by decide))).1 q
    refine mk_8010_138 ?_
    refine mc_8010_140 (cs_k hS rfl) h (fun v17 G16 e => ?_)
    obtain ⟨hSG16, h⟩ := e
    refine mk_8010_143 ⟨_, rfl, hSG16, h⟩
  · replace h := (((((((h.2 (fun e => absurd (e.symm.trans q) (by decide))).2 (fun e => absurd (e.symm.trans q) (by decide))).2 (fun e => absurd (e.symm.trans q) (by decide))).2 (fun e => absurd (e.symm.trans q) (by decide))).2 (fun e => absurd (e.symm.trans q) (by decide))).2 (fun e => absurd (e.symm.trans q) (by decide))).2 (fun e => absurd (e.symm.trans q) (by decide))).1 q
    refine mk_8010_138 ?_
    refine mc_8010_140 (cs_k hS rfl) h (fun v19 G18 e => ?_)
    obtain ⟨hSG18, h⟩ := e
    refine mk_8010_143 ⟨_, rfl, hSG18, h⟩
  · replace h := ((((((((h.2 (fun e => absurd (e.symm.trans q) (by decide))).2 (fun e => absurd (e.symm.trans q) (by decide))).2 (fun e => absurd (e.symm.trans q) (by decide))).2 (fun e => absurd (e.symm.trans q) (by decide))).2 (fun e => absurd (e.symm.trans q) (by decide))).2 (fun e => absurd (e.symm.trans q) (by decide))).2 (fun e => absurd (e.symm.trans q) (by decide))).2 (fun e => absurd (e.symm.trans q) (by decide))).1 q
    refine mk_8010_171 ?_
    refine mc_8010_173 (cs_k hS rfl) h (fun v21 G20 e => ?_)
    obtain ⟨hSG20, h⟩ := e
    refine mk_8010_176 ⟨_, rfl, hSG20, h⟩
  · replace h := (((((((((h.2 (fun e => absurd (e.symm.trans q) (by decide))).2 (fun e => absurd (e.symm.trans q) (by decide))).2 (fun e => absurd (e.symm.trans q) (by decide))).2 (fun e => absurd (e.symm.trans q) (by decide))).2 (fun e => absurd (e.symm.trans q) (by decide))).2 (fun e => absurd (e.symm.trans q) (by decide))).2 (fun e => absurd (e.symm.trans q) (by decide))).2 (fun e => absurd (e.symm.trans q) (by decide))).2 (fun e => absurd (e.symm.trans q) (by decide))).1 q
    refine mk_8010_165 ?_
    refine mc_8010_167 (cs_k hS rfl) h (fun v23 G22 e => ?_)
    obtain ⟨hSG22, h⟩ := e
    refine mk_8010_170 ⟨_, rfl, hSG22, h⟩
  · replace h := ((((((((((h.2 (fun e => absurd (e.symm.trans q) (by decide))).2 (fun e => absurd (e.symm.trans q) (by decide))).2 (fun e => absurd (e.symm.trans q) (by decide))).2 (fun e => absurd (e.symm.trans q) (by decide))).2 (fun e => absurd (e.symm.trans q) (by decide))).2 (fun e => absurd (e.symm.trans q) (by decide))).2 (fun e => absurd (e.symm.trans q) (by decide))).2 (fun e => absurd (e.symm.trans q) (by decide))).2 (fun e => absurd (e.symm.trans q) (by decide))).2 (fun e => absurd (e.symm.trans q) (by decide))).1 q
    refine mk_8010_183 ?_
    refine mc_8010_185 (cs_k hS rfl) h (fun v25 G24 e => ?_)
    obtain ⟨hSG24, h⟩ := e
    refine mk_8010_188 ⟨_, rfl, hSG24, h⟩
  · replace h := (((((((((((h.2 (fun e => absurd (e.symm.trans q) (by decide))).2 (fun e => absurd (e.symm.trans q) (by decide))).2 (fun e => absurd (e.symm.trans q) (by decide))).2 (fun e => absurd (e.symm.trans q) (by decide))).2 (fun e => absurd (e.symm.trans q) (by decide))).2 (fun e => absurd (e.symm.trans q) (by decide))).2 (fun e => absurd (e.symm.trans q) (by decide))).2 (fun e => absurd (e.symm.trans q) (by decide))).2 (fun e => absurd (e.symm.trans q) (by decide))).2 (fun e => absurd (e.symm.trans q) (by decide))).2 (fun e => absurd (e.symm.trans q) (by decide))).1 q
    refine mk_8010_138 ?_
    refine mc_8010_140 (cs_k hS rfl) h (fun v27 G26 e => ?_)
    obtain ⟨hSG26, h⟩ := e
    refine mk_8010_143 ⟨_, rfl, hSG26, h⟩
  · replace h := ((((((((((((h.2 (fun e => absurd (e.symm.trans q) (by decide))).2 (fun e => absurd (e.symm.trans q) (by decide))).2 (fun e => absurd (e.symm.trans q) (by decide))).2 (fun e => absurd (e.symm.trans q) (by decide))).2 (fun e => absurd (e.symm.trans q) (by decide))).2 (fun e => absurd (e.symm.trans q) (by decide))).2 (fun e => absurd (e.symm.trans q) (by decide))).2 (fun e => absurd (e.symm.trans q) (by decide))).2 (fun e => absurd (e.symm.trans q) (by decide))).2 (fun e => absurd (e.symm.trans q) (by decide))).2 (fun e => absurd (e.symm.trans q) (by decide))).2 (fun e => absurd (e.symm.trans q) (by decide))).1 q
    refine mk_8010_177 ?_
    refine mc_8010_179 (cs_k hS rfl) h (fun v29 G28 e => ?_)
    obtain ⟨hSG28, h⟩ := e
    refine mk_8010_182 ⟨_, rfl, hSG28, h⟩
  · replace h := (((((((((((((h.2 n1).2 n2).2 n3).2 n4).2 n5).2 n6).2 n7).2 n8).2 n9).2 n10).2 n11).2 n12).2 n13)
    refine mk_8010_189 (cs_k hS rfl) (cs_r (v := 11) hS rfl) ?_
    refine mc_8010_193 (cs_k hS rfl) h (fun G30 e => ?_)
    obtain ⟨hSG30, h⟩ := e
    refine mk_8010_196 (cs_k hSG30 rfl) (cs_r (v := 1589) hSG30 rfl) ?_
    refine mc_8010_200 (cs_k hSG30 rfl) h (fun G31 e => ?_)
    obtain ⟨hSG31, h⟩ := e
    refine mk_8010_203 ⟨_, rfl, hSG31, h⟩
/-! 8011: meetWithValue (LTemplateQuarry$Node;)I -/
set_option maxRecDepth 100000 in
theorem w_Rn_meetWithValue {G : mj_G} (hS : cs_S G) {d : Nat} {r1 : Nat} {K : Int32 → mj_G → Prop}
    (h : (mj_k G r1 = 6) ∧ St_scope d  G (fun v3 G2 => Fi_find d (mj_r G r1 6) v3 (nI 0) (nI 0) G2 (fun v5 G4 => mm_br (v5 = (nI 0)) (Fi_found d  G4 (fun v7 G6 => (mj_k G6 r1 = 6) ∧ mm_br ((mj_i G6 r1 0) = nI 42) (Rn_enterLoop d r1 v7 G6 (fun v10 G9 => K v10 G9)) (mm_br ((mj_i G6 r1 0) = nI 61) (Nd_origin d r1 G6 (fun v12 G11 => Ou_putValue d v7 v12 G11 (fun v14 G13 => K v14 G13))) (mm_br ((mj_i G6 r1 0) = nI 63) ((mj_k G6 v7 = 12) ∧ Va_isTrue d v7 G6 (fun v17 G16 => mm_br (v17 = true) ((mj_k G16 r1 = 6) ∧ Rn_enter d (mj_r G16 r1 8) G16 (fun v23 G22 => K v23 G22)) ((mj_k G16 r1 = 6) ∧ Rn_enter d (mj_r G16 r1 9) G16 (fun v20 G19 => K v20 G19)))) (mm_br ((mj_i G6 r1 0) = nI 116) ((mj_k G6 v7 = 12) ∧ mm_br ((mj_i G6 v7 0) = (nI 2)) (Rn_formOf d r1 v7 G6 (fun v26 G25 => (mj_k G25 v7 = 12) ∧ (mj_k G25 r1 = 6) ∧ Nd_origin d r1 G25 (fun v30 G29 => Ou_putForm d v26 (mj_i G25 v7 1) v30 G29 (fun v32 G31 => K v32 G31)))) (K ((Int32.ofInt (-3))) G6)) (St_set d (mj_i G6 r1 4) v7 G6 (fun v34 G33 => mm_br (v34 = true) (K (nI 0) G33) (K ((Int32.ofInt (-8))) G33)))))))) (K v5 G4)))) : Rn_meetWithValue (d + 1) r1 G K := by
  obtain ⟨c1, h⟩ := h
  refine mk_8011_0 (cs_k hS rfl) (cs_r (v := 10) hS rfl) c1 rfl (cs_k hS rfl) (cs_r (v := 11) hS rfl) ?_
  refine mc_8011_12 (cs_k hS rfl) h (fun v3 G2 e => ?_)
  obtain ⟨hSG2, h⟩ := e
  refine mk_8011_15 ?_
  refine mc_8011_17 (cs_k hSG2 rfl) h (fun v5 G4 e => ?_)
  obtain ⟨hSG4, h⟩ := e
  refine mk_8011_20 (fun q => ?_) (fun q => ?_)
  · replace h := h.1 q
    refine mk_8011_27 (cs_k hSG4 rfl) (cs_r (v := 10) hSG4 rfl) ?_
    refine mc_8011_31 (cs_k hSG4 rfl) h (fun v7 G6 e => ?_)
    obtain ⟨hSG6, h⟩ := e
    obtain ⟨c8, h⟩ := h
    refine mk_8011_34 c8 rfl (fun q => ?_) (fun q => ?_) (fun q => ?_) (fun q => ?_) (fun n1 n2 n3 n4 => ?_)
    · replace h := h.1 q
      refine mk_8011_151 ?_
      refine mc_8011_154 (cs_k hSG6 rfl) h (fun v10 G9 e => ?_)
      obtain ⟨hSG9, h⟩ := e
      refine mk_8011_157 ⟨_, rfl, hSG9, h⟩
    · replace h := (h.2 (fun e => absurd (e.symm.trans q) (by decide))).1 q
      refine mk_8011_80 (cs_k hSG6 rfl) (cs_r (v := 1589) hSG6 rfl) ?_
      refine mc_8011_86 c8 h (fun v12 G11 e => ?_)
      obtain ⟨hSG11, h⟩ := e
      refine mc_8011_89 (cs_k hSG11 rfl) h (fun v14 G13 e => ?_)
      obtain ⟨hSG13, h⟩ := e
      refine mk_8011_92 ⟨_, rfl, hSG13, h⟩
    · replace h := ((h.2 (fun e => absurd (e.symm.trans q) (by decide))).2 (fun e => absurd (e.symm.trans q) (by decide))).1 q
      refine mk_8011_128 ?_
      obtain ⟨c15, h⟩ := h
      refine mc_8011_130 c15 (cc_z h) (fun v0 G16 e => ?_)
      obtain ⟨v17, rfl, hSG16, h⟩ := e
      refine mk_8011_133 (fun q => ?_) (fun q => ?_)
      · replace h := h.2 (bI_z q)
        obtain ⟨c18, h⟩ := h
        refine mk_8011_143 c18 rfl ?_
        refine mc_8011_147 (cs_k hSG16 rfl) h (fun v20 G19 e => ?_)
        obtain ⟨hSG19, h⟩ := e
        refine mk_8011_150 ⟨_, rfl, hSG19, h⟩
      · replace h := h.1 (bI_n q)
        obtain ⟨c21, h⟩ := h
        refine mk_8011_136 c21 rfl ?_
        refine mc_8011_147 (cs_k hSG16 rfl) h (fun v23 G22 e => ?_)
        obtain ⟨hSG22, h⟩ := e
        refine mk_8011_150 ⟨_, rfl, hSG22, h⟩
    · replace h := (((h.2 (fun e => absurd (e.symm.trans q) (by decide))).2 (fun e => absurd (e.symm.trans q) (by decide))).2 (fun e => absurd (e.symm.trans q) (by decide))).1 q
      obtain ⟨c24, h⟩ := h
      refine mk_8011_93 c24 rfl (fun q => ?_) (fun q => ?_)
      · replace h := h.2 q
        refine mk_8011_125 ?_
        refine mk_8011_127 ⟨_, rfl, hSG6, h⟩
      · replace h := h.1 q
        refine mk_8011_101 (cs_k hSG6 rfl) (cs_r (v := 1589) hSG6 rfl) ?_
        refine mc_8011_108 (cs_k hSG6 rfl) h (fun v26 G25 e => ?_)
        obtain ⟨hSG25, h⟩ := e
        obtain ⟨c27, h⟩ := h
        refine mk_8011_111 c27 rfl ?_
        obtain ⟨c28, h⟩ := h
        refine mc_8011_116 c28 h (fun v30 G29 e => ?_)
        obtain ⟨hSG29, h⟩ := e
        refine mc_8011_119 (cs_k hSG29 rfl) h (fun v32 G31 e => ?_)
        obtain ⟨hSG31, h⟩ := e
        refine mk_8011_122 ?_
        refine mk_8011_127 ⟨_, rfl, hSG31, h⟩
    · replace h := ((((h.2 n1).2 n2).2 n3).2 n4)
      refine mk_8011_158 (cs_k hSG6 rfl) (cs_r (v := 11) hSG6 rfl) c8 rfl ?_
      refine mc_8011_167 (cs_k hSG6 rfl) (cc_z h) (fun v0 G33 e => ?_)
      obtain ⟨v34, rfl, hSG33, h⟩ := e
      refine mk_8011_170 (fun q => ?_) (fun q => ?_)
      · replace h := h.2 (bI_z q)
        refine mk_8011_177 ?_
        refine mk_8011_179 ⟨_, rfl, hSG33, h⟩
      · replace h := h.1 (bI_n q)
        refine mk_8011_173 ?_
        refine mk_8011_179 ⟨_, rfl, hSG33, h⟩
  · replace h := h.2 q
    refine mk_8011_25 ⟨_, rfl, hSG4, h⟩
/-! 8012: formOf (LTemplateQuarry$Node;LTemplateQuarry$Value;)LTemplateQuarry$Value; -/
theorem w_Rn_formOf {G : mj_G} (hS : cs_S G) {d : Nat} {r1 : Nat} {r2 : Nat} {K : Nat → mj_G → Prop}
    (h : (mj_k G r1 = 6) ∧ (mj_k G r2 = 12) ∧ mm_br ((mj_i G r2 1) = (nI 1)) (mm_ix (((nI 2) * (mj_i G r1 3)) + (nI 0)) 20 (fun n5 => K (1674 + 2 * n5) G)) (mm_ix (((nI 2) * (mj_i G r1 3)) + (nI 1)) 20 (fun n3 => K (1674 + 2 * n3) G))) : Rn_formOf d r1 r2 G K := by
  obtain ⟨c1, h⟩ := h
  obtain ⟨c2, h⟩ := h
  refine mk_8012_0 (cs_k hS rfl) (cs_r (v := 8) hS rfl) c1 rfl c2 rfl (fun q => ?_) (fun q => ?_)
  · replace h := h.2 q
    refine mk_8012_22 ?_
    obtain ⟨i4, h⟩ := h
    refine mk_8012_23 (cs_kg hS rfl) (mm_v (cs_l (N := 20) hS rfl) i4) (cs_f8 hS (mm_lt i4)) ⟨_, rfl, hS, h⟩
  · replace h := h.1 q
    refine mk_8012_18 ?_
    obtain ⟨i6, h⟩ := h
    refine mk_8012_23 (cs_kg hS rfl) (mm_v (cs_l (N := 20) hS rfl) i6) (cs_f8 hS (mm_lt i6)) ⟨_, rfl, hS, h⟩
/-! 8013: enter (LTemplateQuarry$Node;)I -/
theorem w_Rn_enter {G : mj_G} (hS : cs_S G) {d : Nat} {r1 : Nat} {K : Int32 → mj_G → Prop}
    (h : mm_br (r1 = 0) (K (nI 0) G) (St_push d (nI 2) 0 r1 G (fun v2 G1 => mm_br (v2 = 0) (K ((Int32.ofInt (-8))) G1) (K (nI 0) G1)))) : Rn_enter (d + 1) r1 G K := by
  refine mk_8013_0 (fun q => ?_) (fun q => ?_)
  · replace h := h.1 q
    refine mk_8013_17 ?_
    refine mk_8013_23 ⟨_, rfl, hS, h⟩
  · replace h := h.2 q
    refine mk_8013_4 (cs_k hS rfl) (cs_r (v := 11) hS rfl) ?_
    refine mc_8013_11 (cs_k hS rfl) h (fun v2 G1 e => ?_)
    obtain ⟨hSG1, h⟩ := e
    refine mk_8013_14 (fun q => ?_) (fun q => ?_)
    · replace h := h.1 q
      refine mk_8013_21 ?_
      refine mk_8013_23 ⟨_, rfl, hSG1, h⟩
    · replace h := h.2 q
      refine mk_8013_17 ?_
      refine mk_8013_23 ⟨_, rfl, hSG1, h⟩
/-! 8014: enterLoop (LTemplateQuarry$Node;LTemplateQuarry$Value;)I -/
theorem w_Rn_enterLoop {G : mj_G} (hS : cs_S G) {d : Nat} {r1 : Nat} {r2 : Nat} {K : Int32 → mj_G → Prop}
    (h : (mj_k G r2 = 12) ∧ mm_br ((mj_i G r2 0) = (nI 8)) ((20 ≤ mj_k G (mj_r G r2 5)) ∧ mm_br ((nI (mj_l G (mj_r G r2 5))) = (nI 0)) ((mj_k G r1 = 6) ∧ Rn_enter d (mj_r G r1 9) G (fun v12 G11 => K v12 G11)) (St_pushScope d (nI 42) r1 0 G (fun v4 G3 => mm_br (v4 = 0) (K ((Int32.ofInt (-8))) G3) ((mj_k G3 v4 = 5) ∧ (mj_k G3 (mj_r G3 v4 13) = 12) ∧ Va_refer d (mj_r G3 v4 13) r2 G3 (fun G7 => (mj_k G7 v4 = 5) ∧ ∀ G9, G9 = mj_pI G7 v4 14 (nI 0) → K (nI 0) G9))))) (K ((Int32.ofInt (-3))) G)) : Rn_enterLoop (d + 1) r1 r2 G K := by
  obtain ⟨c1, h⟩ := h
  refine mk_8014_0 c1 rfl (fun q => ?_) (fun q => ?_)
  · replace h := h.1 q
    obtain ⟨c2, h⟩ := h
    refine mk_8014_12 c1 rfl c2 rfl (fun q => ?_) (fun q => ?_)
    · replace h := h.2 q
      refine mk_8014_29 (cs_k hS rfl) (cs_r (v := 11) hS rfl) ?_
      refine mc_8014_37 (cs_k hS rfl) h (fun v4 G3 e => ?_)
      obtain ⟨hSG3, h⟩ := e
      refine mk_8014_40 (fun q => ?_) (fun q => ?_)
      · replace h := h.2 q
        obtain ⟨c5, h⟩ := h
        refine mk_8014_48 c5 rfl ?_
        obtain ⟨c6, h⟩ := h
        refine mc_8014_53 c6 h (fun G7 e => ?_)
        obtain ⟨hSG7, h⟩ := e
        obtain ⟨c8, h⟩ := h
        replace h := h _ rfl
        refine mk_8014_56 c8 rfl ⟨_, rfl, (cs_pI hSG7), h⟩
      · replace h := h.1 q
        refine mk_8014_45 ⟨_, rfl, hSG3, h⟩
    · replace h := h.1 q
      obtain ⟨c10, h⟩ := h
      refine mk_8014_20 c10 rfl ?_
      refine mc_8014_25 (cs_k hS rfl) h (fun v12 G11 e => ?_)
      obtain ⟨hSG11, h⟩ := e
      refine mk_8014_28 ⟨_, rfl, hSG11, h⟩
  · replace h := h.2 q
    refine mk_8014_9 ⟨_, rfl, hS, h⟩
/-! 8015: startRound (LTemplateQuarry$Frame;)I -/
theorem w_Rn_startRound {G : mj_G} (hS : cs_S G) {d : Nat} {r1 : Nat} {K : Int32 → mj_G → Prop}
    (h : (mj_k G r1 = 5) ∧ (mj_k G (mj_r G r1 13) = 12) ∧ (20 ≤ mj_k G (mj_r G (mj_r G r1 13) 5)) ∧ mm_br ((mj_i G r1 14) < (nI (mj_l G (mj_r G (mj_r G r1 13) 5)))) (Rn_pay d  G (fun v5 G4 => mm_br (v5 = true) ((mj_k G4 r1 = 5) ∧ ∀ G7, G7 = mj_pI G4 11 2 (mj_i G4 r1 5) → ∀ G8, G8 = mj_pI G7 r1 6 (nI 0) → (mj_k G8 (mj_r G8 r1 1) = 6) ∧ ∀ G10, G10 = mj_pR G8 r1 2 (mj_r G8 (mj_r G8 r1 1) 8) → (30 ≤ mj_k G10 (mj_r G (mj_r G r1 13) 5)) ∧ mm_ix (mj_i G10 r1 14) (mj_l G10 (mj_r G (mj_r G r1 13) 5)) (fun n12 => ∀ G14, G14 = mj_pI G10 r1 14 ((mj_i G10 r1 14) + (nI 1)) → (mj_k G14 (mj_r G14 r1 1) = 6) ∧ St_set d (mj_i G14 (mj_r G14 r1 1) 4) (mj_r G10 (mj_r G (mj_r G r1 13) 5) n12) G14 (fun v17 G16 => mm_br (v17 = true) (K (nI 0) G16) (K ((Int32.ofInt (-8))) G16)))) (K ((Int32.ofInt (-9))) G4))) (St_cut d (mj_i G 11 4) G (fun G18 => K (nI 0) G18))) : Rn_startRound (d + 1) r1 G K := by
  obtain ⟨c1, h⟩ := h
  obtain ⟨c2, h⟩ := h
  obtain ⟨c3, h⟩ := h
  refine mk_8015_0 c1 rfl c2 rfl c1 rfl c3 rfl (fun q => ?_) (fun q => ?_)
  · replace h := h.1 q
    refine mk_8015_33 ?_
    refine mc_8015_34 (cs_k hS rfl) (cc_z h) (fun v0 G4 e => ?_)
    obtain ⟨v5, rfl, hSG4, h⟩ := e
    refine mk_8015_37 (fun q => ?_) (fun q => ?_)
    · replace h := h.1 (bI_n q)
      obtain ⟨c6, h⟩ := h
      replace h := h _ rfl
      replace h := h _ rfl
      obtain ⟨c9, h⟩ := h
      replace h := h _ rfl
      obtain ⟨c11, h⟩ := h
      obtain ⟨i13, h⟩ := h
      replace h := h _ rfl
      obtain ⟨c15, h⟩ := h
      refine mk_8015_43 (cs_k hSG4 rfl) (cs_r (v := 11) hSG4 rfl) c6 rfl (cs_k hSG4 rfl) rfl c6 rfl c6 rfl c9 rfl c6 rfl c6 rfl c11 i13 rfl c6 rfl c6 rfl (cs_k (cs_pI (cs_pR (cs_pI (cs_pI hSG4)) c6 rfl)) rfl) (cs_r (v := 11) (cs_pI (cs_pR (cs_pI (cs_pI hSG4)) c6 rfl)) rfl) c6 rfl c15 rfl ?_
      refine mc_8015_99 (cs_k (cs_pI (cs_pR (cs_pI (cs_pI hSG4)) c6 rfl)) rfl) (cc_z h) (fun v0 G16 e => ?_)
      obtain ⟨v17, rfl, hSG16, h⟩ := e
      refine mk_8015_102 (fun q => ?_) (fun q => ?_)
      · replace h := h.2 (bI_z q)
        refine mk_8015_109 ?_
        refine mk_8015_111 ⟨_, rfl, hSG16, h⟩
      · replace h := h.1 (bI_n q)
        refine mk_8015_105 ?_
        refine mk_8015_111 ⟨_, rfl, hSG16, h⟩
    · replace h := h.2 (bI_z q)
      refine mk_8015_40 ⟨_, rfl, hSG4, h⟩
  · replace h := h.2 q
    refine mk_8015_17 (cs_k hS rfl) (cs_r (v := 11) hS rfl) (cs_k hS rfl) (cs_r (v := 11) hS rfl) (cs_k hS rfl) rfl ?_
    refine mc_8015_28 (cs_k hS rfl) h (fun G18 e => ?_)
    obtain ⟨hSG18, h⟩ := e
    refine mk_8015_31 ⟨_, rfl, hSG18, h⟩
/-! 8016: enterTry (LTemplateQuarry$Node;)I -/
theorem w_Rn_enterTry {G : mj_G} (hS : cs_S G) {d : Nat} {r1 : Nat} {K : Int32 → mj_G → Prop}
    (h : (mj_k G r1 = 6) ∧ St_pushScope d (nI 43) r1 (mj_r G r1 8) G (fun v3 G2 => mm_br (v3 = 0) (K ((Int32.ofInt (-8))) G2) (Ou_markToRestore d v3 G2 (fun G4 => K (nI 0) G4)))) : Rn_enterTry (d + 1) r1 G K := by
  obtain ⟨c1, h⟩ := h
  refine mk_8016_0 (cs_k hS rfl) (cs_r (v := 11) hS rfl) c1 rfl ?_
  refine mc_8016_11 (cs_k hS rfl) h (fun v3 G2 e => ?_)
  obtain ⟨hSG2, h⟩ := e
  refine mk_8016_14 (fun q => ?_) (fun q => ?_)
  · replace h := h.2 q
    refine mk_8016_22 (cs_k hSG2 rfl) (cs_r (v := 1589) hSG2 rfl) ?_
    refine mc_8016_27 (cs_k hSG2 rfl) h (fun G4 e => ?_)
    obtain ⟨hSG4, h⟩ := e
    refine mk_8016_30 ⟨_, rfl, hSG4, h⟩
  · replace h := h.1 q
    refine mk_8016_19 ⟨_, rfl, hSG2, h⟩
/-! 8017: firstBlock (II)LTemplateQuarry$Node; -/
theorem w_Rn_firstBlock {G : mj_G} (hS : cs_S G) {d : Nat} {x1 : Int32} {x2 : Int32} {K : Nat → mj_G → Prop}
    (h : Rn_lineFrame d  G (fun v2 G1 => Rn_firstBlock_8 (d + 1) x2 v2 x1 G1 K)) : Rn_firstBlock (d + 1) x1 x2 G K := by
  refine mk_8017_0 ?_
  refine mc_8017_1 (cs_k hS rfl) h (fun v2 G1 e => ?_)
  obtain ⟨hSG1, h⟩ := e
  refine mk_8017_4 ?_
  exact h
theorem w_Rn_firstBlock_8 {G : mj_G} (hS : cs_S G) {d : Nat} {x2 : Int32} {r3 : Nat} {x4 : Int32} {K : Nat → mj_G → Prop}
    (h : mm_br (x2 < (nI 0)) (K 0 G) ((mj_k G r3 = 5) ∧ mm_br ((mj_i G r3 9) ≤ x4) (K 0 G) ((mj_k G (mj_r G r3 8) = 20) ∧ mm_ix x4 (mj_l G (mj_r G r3 8)) (fun n5 => mm_ix (mj_i G (mj_r G r3 8) n5) 10 (fun n7 => (mj_k G (mj_r G 7 n7) = 11) ∧ (30 ≤ mj_k G (mj_r G (mj_r G 7 n7) 4)) ∧ mm_ix x2 (mj_l G (mj_r G (mj_r G 7 n7) 4)) (fun n11 => mm_br ((mj_r G (mj_r G (mj_r G 7 n7) 4) n11) = 0) (Rn_firstBlock_8 (d + 1) x2 r3 (x4 + nI 1) G K) (K (mj_r G (mj_r G (mj_r G 7 n7) 4) n11) G))))))) : Rn_firstBlock_8 (d + 1) x2 r3 x4 G K := by
  refine mk_8017_8 (fun q => ?_) (fun q => ?_)
  · replace h := h.1 q
    refine mk_8017_54 ⟨_, rfl, hS, h⟩
  · replace h := h.2 q
    obtain ⟨c3, h⟩ := h
    refine mk_8017_12 c3 rfl (fun q => ?_) (fun q => ?_)
    · replace h := h.1 q
      refine mk_8017_54 ⟨_, rfl, hS, h⟩
    · replace h := h.2 q
      obtain ⟨c4, h⟩ := h
      obtain ⟨i6, h⟩ := h
      obtain ⟨i8, h⟩ := h
      obtain ⟨c9, h⟩ := h
      obtain ⟨c10, h⟩ := h
      obtain ⟨i12, h⟩ := h
      refine mk_8017_21 (cs_k hS rfl) (cs_r (v := 7) hS rfl) c3 rfl c4 i6 rfl (cs_kg hS rfl) (mm_v (cs_l (N := 10) hS rfl) i8) rfl c9 rfl c10 i12 rfl (fun q => ?_) (fun q => ?_)
      · replace h := h.1 q
        refine mk_8017_48 ?_
        exact h
      · replace h := h.2 q
        refine mk_8017_45 ⟨_, rfl, hS, h⟩
/-! 8018: openBody (LTemplateQuarry$Node;LTemplateQuarry$Node;)I -/
theorem w_Rn_openBody {G : mj_G} (hS : cs_S G) {d : Nat} {r1 : Nat} {r2 : Nat} {K : Int32 → mj_G → Prop}
    (h : mm_br (r2 = 0) (K ((Int32.ofInt (-7))) G) ((mj_k G r2 = 6) ∧ St_open d r1 (mj_r G r2 8) G (fun v3 G2 => mm_br (v3 = 0) (K ((Int32.ofInt (-8))) G2) (K (nI 0) G2)))) : Rn_openBody (d + 1) r1 r2 G K := by
  refine mk_8018_0 (fun q => ?_) (fun q => ?_)
  · replace h := h.2 q
    obtain ⟨c1, h⟩ := h
    refine mk_8018_7 (cs_k hS rfl) (cs_r (v := 11) hS rfl) c1 rfl ?_
    refine mc_8018_16 (cs_k hS rfl) h (fun v3 G2 e => ?_)
    obtain ⟨hSG2, h⟩ := e
    refine mk_8018_19 (fun q => ?_) (fun q => ?_)
    · replace h := h.1 q
      refine mk_8018_26 ?_
      refine mk_8018_28 ⟨_, rfl, hSG2, h⟩
    · replace h := h.2 q
      refine mk_8018_22 ?_
      refine mk_8018_28 ⟨_, rfl, hSG2, h⟩
  · replace h := h.1 q
    refine mk_8018_4 ⟨_, rfl, hS, h⟩
/-! 8019: openUp (LTemplateQuarry$Node;)I -/
theorem w_Rn_openUp {G : mj_G} (hS : cs_S G) {d : Nat} {r1 : Nat} {K : Int32 → mj_G → Prop}
    (h : Rn_lineFrame d  G (fun v2 G1 => (mj_k G1 r1 = 6) ∧ Rn_placeInLine d v2 (mj_i G1 r1 1) G1 (fun v5 G4 => mm_br (v5 = ((Int32.ofInt (-1)))) (Rn_openBody d r1 0 G4 (fun v12 G11 => K v12 G11)) ((mj_k G4 r1 = 6) ∧ Rn_firstBlock d (v5 + (nI 1)) (mj_i G4 r1 3) G4 (fun v8 G7 => Rn_openBody d r1 v8 G7 (fun v10 G9 => K v10 G9)))))) : Rn_openUp (d + 1) r1 G K := by
  refine mk_8019_0 ?_
  refine mc_8019_1 (cs_k hS rfl) h (fun v2 G1 e => ?_)
  obtain ⟨hSG1, h⟩ := e
  obtain ⟨c3, h⟩ := h
  refine mk_8019_4 c3 rfl ?_
  refine mc_8019_8 h (fun v5 G4 e => ?_)
  obtain ⟨hSG4, h⟩ := e
  refine mk_8019_11 (fun q => ?_) (fun q => ?_)
  · replace h := h.2 q
    obtain ⟨c6, h⟩ := h
    refine mk_8019_23 c6 rfl ?_
    refine mc_8019_31 (cs_k hSG4 rfl) h (fun v8 G7 e => ?_)
    obtain ⟨hSG7, h⟩ := e
    refine mc_8019_34 (cs_k hSG7 rfl) h (fun v10 G9 e => ?_)
    obtain ⟨hSG9, h⟩ := e
    refine mk_8019_37 ⟨_, rfl, hSG9, h⟩
  · replace h := h.1 q
    refine mk_8019_19 ?_
    refine mc_8019_34 (cs_k hSG4 rfl) h (fun v12 G11 e => ?_)
    obtain ⟨hSG11, h⟩ := e
    refine mk_8019_37 ⟨_, rfl, hSG11, h⟩
/-! 8020: openInclude (LTemplateQuarry$Node;)I -/
theorem w_Rn_openInclude {G : mj_G} (hS : cs_S G) {d : Nat} {r1 : Nat} {K : Int32 → mj_G → Prop}
    (h : St_open d r1 0 G (fun v2 G1 => mm_br (v2 = 0) (K ((Int32.ofInt (-8))) G1) ((mj_k G1 v2 = 5) ∧ ∀ G4, G4 = mj_pI G1 v2 10 ((Int32.ofInt (-1))) → (mj_k G4 r1 = 6) ∧ Rn_layLine d (mj_i G4 11 4) (mj_i G4 r1 3) G4 (fun v7 G6 => K v7 G6)))) : Rn_openInclude (d + 1) r1 G K := by
  refine mk_8020_0 (cs_k hS rfl) (cs_r (v := 11) hS rfl) ?_
  refine mc_8020_6 (cs_k hS rfl) h (fun v2 G1 e => ?_)
  obtain ⟨hSG1, h⟩ := e
  refine mk_8020_9 (fun q => ?_) (fun q => ?_)
  · replace h := h.2 q
    obtain ⟨c3, h⟩ := h
    replace h := h _ rfl
    obtain ⟨c5, h⟩ := h
    refine mk_8020_17 c3 rfl (cs_k (cs_pI hSG1) rfl) (cs_r (v := 11) (cs_pI hSG1) rfl) (cs_k (cs_pI hSG1) rfl) rfl c5 rfl ?_
    refine mc_8020_34 (cs_k (cs_pI hSG1) rfl) h (fun v7 G6 e => ?_)
    obtain ⟨hSG6, h⟩ := e
    refine mk_8020_37 ⟨_, rfl, hSG6, h⟩
  · replace h := h.1 q
    refine mk_8020_14 ⟨_, rfl, hSG1, h⟩
/-! 8021: firstMacro (I)LTemplateQuarry$Node; -/
theorem w_Rn_firstMacro {G : mj_G} (hS : cs_S G) {d : Nat} {x1 : Int32} {K : Nat → mj_G → Prop}
    (h : Rn_lineFrame d  G (fun v2 G1 => Rn_firstMacro_7 (d + 1) x1 v2 (nI 0) G1 K)) : Rn_firstMacro (d + 1) x1 G K := by
  refine mk_8021_0 ?_
  refine mc_8021_1 (cs_k hS rfl) h (fun v2 G1 e => ?_)
  obtain ⟨hSG1, h⟩ := e
  refine mk_8021_4 ?_
  exact h
theorem w_Rn_firstMacro_7 {G : mj_G} (hS : cs_S G) {d : Nat} {x1 : Int32} {r2 : Nat} {x3 : Int32} {K : Nat → mj_G → Prop}
    (h : (mj_k G r2 = 5) ∧ mm_br ((mj_i G r2 9) ≤ x3) (K 0 G) ((mj_k G (mj_r G r2 8) = 20) ∧ mm_ix x3 (mj_l G (mj_r G r2 8)) (fun n5 => mm_ix (mj_i G (mj_r G r2 8) n5) 10 (fun n7 => (mj_k G (mj_r G 7 n7) = 11) ∧ (30 ≤ mj_k G (mj_r G (mj_r G 7 n7) 5)) ∧ mm_ix x1 (mj_l G (mj_r G (mj_r G 7 n7) 5)) (fun n11 => mm_br ((mj_r G (mj_r G (mj_r G 7 n7) 5) n11) = 0) (Rn_firstMacro_7 (d + 1) x1 r2 (x3 + nI 1) G K) (K (mj_r G (mj_r G (mj_r G 7 n7) 5) n11) G)))))) : Rn_firstMacro_7 (d + 1) x1 r2 x3 G K := by
  obtain ⟨c3, h⟩ := h
  refine mk_8021_7 c3 rfl (fun q => ?_) (fun q => ?_)
  · replace h := h.1 q
    refine mk_8021_47 ⟨_, rfl, hS, h⟩
  · replace h := h.2 q
    obtain ⟨c4, h⟩ := h
    obtain ⟨i6, h⟩ := h
    obtain ⟨i8, h⟩ := h
    obtain ⟨c9, h⟩ := h
    obtain ⟨c10, h⟩ := h
    obtain ⟨i12, h⟩ := h
    refine mk_8021_15 (cs_k hS rfl) (cs_r (v := 7) hS rfl) c3 rfl c4 i6 rfl (cs_kg hS rfl) (mm_v (cs_l (N := 10) hS rfl) i8) rfl c9 rfl c10 i12 rfl (fun q => ?_) (fun q => ?_)
    · replace h := h.1 q
      refine mk_8021_41 ?_
      exact h
    · replace h := h.2 q
      refine mk_8021_38 ⟨_, rfl, hS, h⟩
/-! 8022: openCall (LTemplateQuarry$Node;)I -/
set_option maxRecDepth 100000 in
theorem w_Rn_openCall {G : mj_G} (hS : cs_S G) {d : Nat} {r1 : Nat} {K : Int32 → mj_G → Prop}
    (h : (mj_k G r1 = 6) ∧ Rn_firstMacro d (mj_i G r1 3) G (fun v3 G2 => mm_br (v3 = 0) (K ((Int32.ofInt (-6))) G2) (mm_br ((nI 200) ≤ ((mj_i G2 11 4) + (nI 1))) (K ((Int32.ofInt (-8))) G2) (mm_br ((mj_i G2 11 2) ≤ (nI 317)) (mm_ix ((mj_i G2 11 4) + (nI 1)) 200 (fun n4 => ∀ G6, G6 = mj_pI G2 (707 + 4 * n4) 5 (mj_i G2 11 2) → ∀ G7, G7 = mj_pI G6 (707 + 4 * n4) 4 ((Int32.ofInt (-1))) → Rn_countNamed d v3 G7 (fun v9 G8 => (mj_k G8 (707 + 4 * n4) = 5) ∧ ∀ G11, G11 = mj_pI G8 (707 + 4 * n4) 6 v9 → Rn_openCall_90 (d + 1) r1 v3 ((mj_i G2 11 4) + (nI 1)) (707 + 4 * n4) (nI 0) G11 K))) (K ((Int32.ofInt (-8))) G2))))) : Rn_openCall (d + 1) r1 G K := by
  obtain ⟨c1, h⟩ := h
  refine mk_8022_0 c1 rfl ?_
  refine mc_8022_5 (cs_k hS rfl) h (fun v3 G2 e => ?_)
  obtain ⟨hSG2, h⟩ := e
  refine mk_8022_8 (fun q => ?_) (fun q => ?_)
  · replace h := h.2 q
    refine mk_8022_16 (cs_k hSG2 rfl) (cs_r (v := 11) hSG2 rfl) (cs_k hSG2 rfl) rfl (fun q => ?_) (fun q => ?_)
    · replace h := h.1 q
      refine mk_8022_46 ⟨_, rfl, hSG2, h⟩
    · replace h := h.2 q
      refine mk_8022_33 (cs_k hSG2 rfl) (cs_r (v := 11) hSG2 rfl) (cs_k hSG2 rfl) rfl (fun q => ?_) (fun q => ?_)
      · replace h := h.1 q
        obtain ⟨i5, h⟩ := h
        replace h := h _ rfl
        replace h := h _ rfl
        refine mk_8022_49 (cs_k hSG2 rfl) (cs_r (v := 11) hSG2 rfl) (cs_k hSG2 rfl) (cs_r (v := 14) hSG2 rfl) (cs_kg hSG2 rfl) (mm_v (cs_l (N := 200) hSG2 rfl) i5) (cs_f14 hSG2 (mm_lt i5)) (cs_k hSG2 rfl) (cs_r (v := 11) hSG2 rfl) (cs_k hSG2 rfl) rfl ((cs_g14 hSG2 (mm_lt i5)).trans rfl) rfl ((cs_g14 hSG2 (mm_lt i5)).trans rfl) rfl ?_
        refine mc_8022_81 h (fun v9 G8 e => ?_)
        obtain ⟨hSG8, h⟩ := e
        obtain ⟨c10, h⟩ := h
        replace h := h _ rfl
        refine mk_8022_84 c10 rfl ?_
        exact h
      · replace h := h.2 q
        refine mk_8022_46 ⟨_, rfl, hSG2, h⟩
  · replace h := h.1 q
    refine mk_8022_13 ⟨_, rfl, hSG2, h⟩
set_option maxRecDepth 100000 in
theorem w_Rn_openCall_90 {G : mj_G} (hS : cs_S G) {d : Nat} {r1 : Nat} {r2 : Nat} {x3 : Int32} {r4 : Nat} {x5 : Int32} {K : Int32 → mj_G → Prop}
    (h : mm_br ((nI 3) ≤ x5) ((mj_k G r4 = 5) ∧ Rn_giveArguments d r1 r2 (mj_i G r4 5) G (fun v14 G13 => mm_br (v14 = (nI 0)) ((mj_k G13 r4 = 5) ∧ Rn_giveDefaults d r2 (mj_i G13 r4 5) x3 G13 (fun v17 G16 => Rn_openCall_153 (d + 1) r1 r2 v17 G16 K)) (Rn_openCall_153 (d + 1) r1 r2 v14 G13 K))) ((mj_k G r4 = 5) ∧ mm_ix ((mj_i G r4 5) + x5) 320 (fun n19 => ∀ G21, G21 = mj_pI G (67 + 2 * n19) 6 ((Int32.ofInt (-1))) → Rn_openCall_90 (d + 1) r1 r2 x3 r4 (x5 + nI 1) G21 K))) : Rn_openCall_90 (d + 1) r1 r2 x3 r4 x5 G K := by
  refine mk_8022_90 (fun q => ?_) (fun q => ?_)
  · replace h := h.1 q
    obtain ⟨c12, h⟩ := h
    refine mk_8022_122 c12 rfl ?_
    refine mc_8022_130 (cs_k hS rfl) h (fun v14 G13 e => ?_)
    obtain ⟨hSG13, h⟩ := e
    refine mk_8022_133 (fun q => ?_) (fun q => ?_)
    · replace h := h.2 q
      exact h
    · replace h := h.1 q
      obtain ⟨c15, h⟩ := h
      refine mk_8022_140 c15 rfl ?_
      refine mc_8022_148 (cs_k hSG13 rfl) h (fun v17 G16 e => ?_)
      obtain ⟨hSG16, h⟩ := e
      refine mk_8022_151 ?_
      exact h
  · replace h := h.2 q
    obtain ⟨c18, h⟩ := h
    obtain ⟨i20, h⟩ := h
    replace h := h _ rfl
    refine mk_8022_96 (cs_k hS rfl) (cs_r (v := 11) hS rfl) (cs_k hS rfl) (cs_r (v := 13) hS rfl) c18 rfl (cs_kg hS rfl) (mm_v (cs_l (N := 320) hS rfl) i20) (cs_f13 hS (mm_lt i20)) ((cs_g13 hS (mm_lt i20)).trans rfl) rfl ?_
    exact h
set_option maxRecDepth 100000 in
theorem w_Rn_openCall_153 {G : mj_G} (hS : cs_S G) {d : Nat} {r1 : Nat} {r2 : Nat} {x5 : Int32} {K : Int32 → mj_G → Prop}
    (h : mm_br (x5 = (nI 0)) ((mj_k G r2 = 6) ∧ St_open d r1 (mj_r G r2 8) G (fun v24 G23 => mm_br (v24 = 0) (K ((Int32.ofInt (-8))) G23) ((mj_k G23 v24 = 5) ∧ ∀ G26, G26 = mj_pI G23 v24 4 ((Int32.ofInt (-1))) → Rn_countNamed d r2 G26 (fun v28 G27 => (mj_k G27 v24 = 5) ∧ ∀ G30, G30 = mj_pI G27 v24 6 v28 → ∀ G31, G31 = mj_pI G30 11 2 ((mj_i G30 v24 5) + (mj_i G30 v24 6)) → (mj_k G31 r1 = 6) ∧ mm_br ((mj_i G31 r1 0) = (nI 38)) (∀ G34, G34 = mj_pI G31 v24 10 (mj_i G31 11 4) → K (nI 0) G34) (∀ G33, G33 = mj_pI G31 v24 10 ((Int32.ofInt (-1))) → K (nI 0) G33))))) (K x5 G)) : Rn_openCall_153 (d + 1) r1 r2 x5 G K := by
  refine mk_8022_153 (fun q => ?_) (fun q => ?_)
  · replace h := h.1 q
    obtain ⟨c22, h⟩ := h
    refine mk_8022_161 (cs_k hS rfl) (cs_r (v := 11) hS rfl) c22 rfl ?_
    refine mc_8022_170 (cs_k hS rfl) h (fun v24 G23 e => ?_)
    obtain ⟨hSG23, h⟩ := e
    refine mk_8022_173 (fun q => ?_) (fun q => ?_)
    · replace h := h.2 q
      obtain ⟨c25, h⟩ := h
      replace h := h _ rfl
      refine mk_8022_183 c25 rfl ?_
      refine mc_8022_192 h (fun v28 G27 e => ?_)
      obtain ⟨hSG27, h⟩ := e
      obtain ⟨c29, h⟩ := h
      replace h := h _ rfl
      replace h := h _ rfl
      obtain ⟨c32, h⟩ := h
      refine mk_8022_195 c29 rfl (cs_k (cs_pI hSG27) rfl) (cs_r (v := 11) (cs_pI hSG27) rfl) c29 rfl c29 rfl (cs_k (cs_pI hSG27) rfl) rfl c32 rfl (fun q => ?_) (fun q => ?_)
      · replace h := h.2 q
        refine mk_8022_237 ?_
        replace h := h _ rfl
        refine mk_8022_238 c29 rfl ⟨_, rfl, (cs_pI (cs_pI (cs_pI hSG27))), h⟩
      · replace h := h.1 q
        refine mk_8022_227 (cs_k (cs_pI (cs_pI hSG27)) rfl) (cs_r (v := 11) (cs_pI (cs_pI hSG27)) rfl) (cs_k (cs_pI (cs_pI hSG27)) rfl) rfl ?_
        replace h := h _ rfl
        refine mk_8022_238 c29 rfl ⟨_, rfl, (cs_pI (cs_pI (cs_pI hSG27))), h⟩
    · replace h := h.1 q
      refine mk_8022_180 ⟨_, rfl, hSG23, h⟩
  · replace h := h.2 q
    refine mk_8022_158 ⟨_, rfl, hS, h⟩
/-! 8023: countNamed (LTemplateQuarry$Node;)I -/
theorem w_Rn_countNamed {G : mj_G} (hS : cs_S G) {d : Nat} {r0 : Nat} {K : Int32 → mj_G → Prop}
    (h : (mj_k G r0 = 6) ∧ Rn_countNamed_9 d (nI 0) (mj_r G r0 7) (nI 0) G K) : Rn_countNamed d r0 G K := by
  obtain ⟨c1, h⟩ := h
  refine mk_8023_0 c1 rfl ?_
  exact h
theorem w_Rn_countNamed_9 {G : mj_G} (hS : cs_S G) {d : Nat} {x1 : Int32} {r2 : Nat} {x3 : Int32} {K : Int32 → mj_G → Prop}
    (h : mm_br ((nI 3) ≤ x3) (K x1 G) (mm_br (r2 = 0) (K x1 G) ((mj_k G r2 = 6) ∧ Rn_countNamed_9 d (x1 + nI 1) (mj_r G r2 10) (x3 + nI 1) G K))) : Rn_countNamed_9 d x1 r2 x3 G K := by
  refine mk_8023_9 (fun q => ?_) (fun q => ?_)
  · replace h := h.1 q
    refine mk_8023_32 ⟨_, rfl, hS, h⟩
  · replace h := h.2 q
    refine mk_8023_14 (fun q => ?_) (fun q => ?_)
    · replace h := h.1 q
      refine mk_8023_32 ⟨_, rfl, hS, h⟩
    · replace h := h.2 q
      obtain ⟨c2, h⟩ := h
      refine mk_8023_18 c2 rfl ?_
      exact h
/-! 8024: giveArguments (LTemplateQuarry$Node;LTemplateQuarry$Node;I)I -/
set_option maxRecDepth 100000 in
theorem w_Rn_giveArguments {G : mj_G} (hS : cs_S G) {d : Nat} {r1 : Nat} {r2 : Nat} {x3 : Int32} {K : Int32 → mj_G → Prop}
    (h : (mj_k G r1 = 6) ∧ Rn_giveArguments_12 (d + 1) r2 x3 (nI 0) (mj_r G r1 7) (nI 0) G K) : Rn_giveArguments (d + 1) r1 r2 x3 G K := by
  obtain ⟨c1, h⟩ := h
  refine mk_8024_0 c1 rfl ?_
  exact h
set_option maxRecDepth 100000 in
theorem w_Rn_giveArguments_12 {G : mj_G} (hS : cs_S G) {d : Nat} {r2 : Nat} {x3 : Int32} {x4 : Int32} {r5 : Nat} {x6 : Int32} {K : Int32 → mj_G → Prop}
    (h : mm_br ((nI 3) ≤ x6) (K (nI 0) G) (mm_br (r5 = 0) (K (nI 0) G) ((mj_k G r5 = 6) ∧ St_scope d  G (fun v4 G3 => Fi_find d (mj_r G r5 6) v4 (nI 0) (nI 0) G3 (fun v6 G5 => mm_br (v6 = (nI 0)) ((mj_k G5 r5 = 6) ∧ mm_br ((mj_i G5 r5 4) = ((Int32.ofInt (-1)))) (mm_br ((mj_i G5 r5 4) = ((Int32.ofInt (-1)))) (Rn_giveArguments_91 (d + 1) r2 x3 (x4 + nI 1) r5 x6 x4 G5 K) (Rn_giveArguments_91 (d + 1) r2 x3 x4 r5 x6 x4 G5 K)) (Rn_placeOfParameter d r2 (mj_i G5 r5 4) G5 (fun v9 G8 => (mj_k G8 r5 = 6) ∧ mm_br ((mj_i G8 r5 4) = ((Int32.ofInt (-1)))) (Rn_giveArguments_91 (d + 1) r2 x3 (x4 + nI 1) r5 x6 v9 G8 K) (Rn_giveArguments_91 (d + 1) r2 x3 x4 r5 x6 v9 G8 K)))) (K v6 G5)))))) : Rn_giveArguments_12 (d + 1) r2 x3 x4 r5 x6 G K := by
  refine mk_8024_12 (fun q => ?_) (fun q => ?_)
  · replace h := h.1 q
    refine mk_8024_184 ⟨_, rfl, hS, h⟩
  · replace h := h.2 q
    refine mk_8024_18 (fun q => ?_) (fun q => ?_)
    · replace h := h.1 q
      refine mk_8024_184 ⟨_, rfl, hS, h⟩
    · replace h := h.2 q
      obtain ⟨c2, h⟩ := h
      refine mk_8024_23 (cs_k hS rfl) (cs_r (v := 10) hS rfl) c2 rfl (cs_k hS rfl) (cs_r (v := 11) hS rfl) ?_
      refine mc_8024_36 (cs_k hS rfl) h (fun v4 G3 e => ?_)
      obtain ⟨hSG3, h⟩ := e
      refine mk_8024_39 ?_
      refine mc_8024_41 (cs_k hSG3 rfl) h (fun v6 G5 e => ?_)
      obtain ⟨hSG5, h⟩ := e
      refine mk_8024_44 (fun q => ?_) (fun q => ?_)
      · replace h := h.1 q
        obtain ⟨c7, h⟩ := h
        refine mk_8024_54 c7 rfl (fun q => ?_) (fun q => ?_)
        · replace h := h.2 q
          refine mk_8024_68 c7 rfl ?_
          refine mc_8024_74 h (fun v9 G8 e => ?_)
          obtain ⟨hSG8, h⟩ := e
          obtain ⟨c10, h⟩ := h
          refine mk_8024_77 c10 rfl (fun q => ?_) (fun q => ?_)
          · replace h := h.2 q
            exact h
          · replace h := h.1 q
            refine mk_8024_88 ?_
            exact h
        · replace h := h.1 q
          refine mk_8024_63 ?_
          refine mk_8024_77 c7 rfl (fun q => ?_) (fun q => ?_)
          · replace h := h.2 q
            exact h
          · replace h := h.1 q
            refine mk_8024_88 ?_
            exact h
      · replace h := h.2 q
        refine mk_8024_51 ⟨_, rfl, hSG5, h⟩
set_option maxRecDepth 100000 in
theorem w_Rn_giveArguments_91 {G : mj_G} (hS : cs_S G) {d : Nat} {r2 : Nat} {x3 : Int32} {x4 : Int32} {r5 : Nat} {x6 : Int32} {x8 : Int32} {K : Int32 → mj_G → Prop}
    (h : mm_br (x8 = ((Int32.ofInt (-1)))) (K ((Int32.ofInt (-6))) G) (Rn_countNamed d r2 G (fun v12 G11 => mm_br (v12 ≤ x8) (K ((Int32.ofInt (-6))) G11) (mm_ix (x3 + x8) 320 (fun n13 => mm_br ((mj_i G11 (67 + 2 * n13) 6) = ((Int32.ofInt (-1)))) (mm_ix (x3 + x8) 320 (fun n15 => Rn_letterOfParameter d r2 x8 G11 (fun v18 G17 => (mj_k G17 (67 + 2 * n15) = 12) ∧ ∀ G20, G20 = mj_pI G17 (67 + 2 * n15) 6 v18 → mm_ix (x3 + x8) 320 (fun n21 => Fi_found d  G20 (fun v24 G23 => (mj_k G23 (67 + 2 * n21) = 12) ∧ Va_keep d (67 + 2 * n21) v24 G23 (fun G26 => (mj_k G26 r5 = 6) ∧ Rn_giveArguments_12 (d + 1) r2 x3 x4 (mj_r G26 r5 10) (x6 + nI 1) G26 K)))))) (K ((Int32.ofInt (-6))) G11)))))) : Rn_giveArguments_91 (d + 1) r2 x3 x4 r5 x6 x8 G K := by
  refine mk_8024_91 (fun q => ?_) (fun q => ?_)
  · replace h := h.1 q
    refine mk_8024_125 ⟨_, rfl, hS, h⟩
  · replace h := h.2 q
    refine mk_8024_97 ?_
    refine mc_8024_100 h (fun v12 G11 e => ?_)
    obtain ⟨hSG11, h⟩ := e
    refine mk_8024_103 (fun q => ?_) (fun q => ?_)
    · replace h := h.1 q
      refine mk_8024_125 ⟨_, rfl, hSG11, h⟩
    · replace h := h.2 q
      obtain ⟨i14, h⟩ := h
      refine mk_8024_106 (cs_k hSG11 rfl) (cs_r (v := 11) hSG11 rfl) (cs_k hSG11 rfl) (cs_r (v := 13) hSG11 rfl) (cs_kg hSG11 rfl) (mm_v (cs_l (N := 320) hSG11 rfl) i14) (cs_f13 hSG11 (mm_lt i14)) ((cs_g13 hSG11 (mm_lt i14)).trans rfl) rfl (fun q => ?_) (fun q => ?_)
      · replace h := h.1 q
        obtain ⟨i16, h⟩ := h
        refine mk_8024_128 (cs_k hSG11 rfl) (cs_r (v := 11) hSG11 rfl) (cs_k hSG11 rfl) (cs_r (v := 13) hSG11 rfl) (cs_kg hSG11 rfl) (mm_v (cs_l (N := 320) hSG11 rfl) i16) (cs_f13 hSG11 (mm_lt i16)) ?_
        refine mc_8024_143 h (fun v18 G17 e => ?_)
        obtain ⟨hSG17, h⟩ := e
        obtain ⟨c19, h⟩ := h
        replace h := h _ rfl
        obtain ⟨i22, h⟩ := h
        refine mk_8024_146 c19 rfl (cs_k (cs_pI hSG17) rfl) (cs_r (v := 11) (cs_pI hSG17) rfl) (cs_k (cs_pI hSG17) rfl) (cs_r (v := 13) (cs_pI hSG17) rfl) (cs_kg (cs_pI hSG17) rfl) (mm_v (cs_l (N := 320) (cs_pI hSG17) rfl) i22) (cs_f13 (cs_pI hSG17) (mm_lt i22)) (cs_k (cs_pI hSG17) rfl) (cs_r (v := 10) (cs_pI hSG17) rfl) ?_
        refine mc_8024_165 (cs_k (cs_pI hSG17) rfl) h (fun v24 G23 e => ?_)
        obtain ⟨hSG23, h⟩ := e
        obtain ⟨c25, h⟩ := h
        refine mc_8024_168 c25 h (fun G26 e => ?_)
        obtain ⟨hSG26, h⟩ := e
        obtain ⟨c27, h⟩ := h
        refine mk_8024_171 c27 rfl ?_
        exact h
      · replace h := h.2 q
        refine mk_8024_125 ⟨_, rfl, hSG11, h⟩
/-! 8025: placeOfParameter (LTemplateQuarry$Node;I)I -/
theorem w_Rn_placeOfParameter {G : mj_G} (hS : cs_S G) {d : Nat} {r0 : Nat} {x1 : Int32} {K : Int32 → mj_G → Prop}
    (h : (mj_k G r0 = 6) ∧ Rn_placeOfParameter_7 d x1 (mj_r G r0 7) (nI 0) G K) : Rn_placeOfParameter d r0 x1 G K := by
  obtain ⟨c1, h⟩ := h
  refine mk_8025_0 c1 rfl ?_
  exact h
theorem w_Rn_placeOfParameter_7 {G : mj_G} (hS : cs_S G) {d : Nat} {x1 : Int32} {r2 : Nat} {x3 : Int32} {K : Int32 → mj_G → Prop}
    (h : mm_br ((nI 3) ≤ x3) (K ((Int32.ofInt (-1))) G) (mm_br (r2 = 0) (K ((Int32.ofInt (-1))) G) ((mj_k G r2 = 6) ∧ mm_br ((mj_i G r2 4) = x1) (K x3 G) (Rn_placeOfParameter_7 d x1 (mj_r G r2 10) (x3 + nI 1) G K)))) : Rn_placeOfParameter_7 d x1 r2 x3 G K := by
  refine mk_8025_7 (fun q => ?_) (fun q => ?_)
  · replace h := h.1 q
    refine mk_8025_37 ⟨_, rfl, hS, h⟩
  · replace h := h.2 q
    refine mk_8025_12 (fun q => ?_) (fun q => ?_)
    · replace h := h.1 q
      refine mk_8025_37 ⟨_, rfl, hS, h⟩
    · replace h := h.2 q
      obtain ⟨c2, h⟩ := h
      refine mk_8025_16 c2 rfl (fun q => ?_) (fun q => ?_)
      · replace h := h.2 q
        refine mk_8025_26 c2 rfl ?_
        exact h
      · replace h := h.1 q
        refine mk_8025_24 ⟨_, rfl, hS, h⟩
/-! 8026: letterOfParameter (LTemplateQuarry$Node;I)I -/
theorem w_Rn_letterOfParameter {G : mj_G} (hS : cs_S G) {d : Nat} {r0 : Nat} {x1 : Int32} {K : Int32 → mj_G → Prop}
    (h : (mj_k G r0 = 6) ∧ Rn_letterOfParameter_7 d x1 (mj_r G r0 7) (nI 0) G K) : Rn_letterOfParameter d r0 x1 G K := by
  obtain ⟨c1, h⟩ := h
  refine mk_8026_0 c1 rfl ?_
  exact h
theorem w_Rn_letterOfParameter_7 {G : mj_G} (hS : cs_S G) {d : Nat} {x1 : Int32} {r2 : Nat} {x3 : Int32} {K : Int32 → mj_G → Prop}
    (h : mm_br (x1 ≤ x3) (mm_br (r2 = 0) (K ((Int32.ofInt (-1))) G) ((mj_k G r2 = 6) ∧ K (mj_i G r2 4) G)) (mm_br (r2 = 0) (mm_br (r2 = 0) (K ((Int32.ofInt (-1))) G) ((mj_k G r2 = 6) ∧ K (mj_i G r2 4) G)) ((mj_k G r2 = 6) ∧ Rn_letterOfParameter_7 d x1 (mj_r G r2 10) (x3 + nI 1) G K))) : Rn_letterOfParameter_7 d x1 r2 x3 G K := by
  refine mk_8026_7 (fun q => ?_) (fun q => ?_)
  · replace h := h.1 q
    refine mk_8026_27 (fun q => ?_) (fun q => ?_)
    · replace h := h.2 q
      obtain ⟨c2, h⟩ := h
      refine mk_8026_35 c2 rfl ?_
      refine mk_8026_39 ⟨_, rfl, hS, h⟩
    · replace h := h.1 q
      refine mk_8026_31 ?_
      refine mk_8026_39 ⟨_, rfl, hS, h⟩
  · replace h := h.2 q
    refine mk_8026_12 (fun q => ?_) (fun q => ?_)
    · replace h := h.1 q
      refine mk_8026_27 (fun q => ?_) (fun q => ?_)
      · replace h := h.2 q
        obtain ⟨c3, h⟩ := h
        refine mk_8026_35 c3 rfl ?_
        refine mk_8026_39 ⟨_, rfl, hS, h⟩
      · replace h := h.1 q
        refine mk_8026_31 ?_
        refine mk_8026_39 ⟨_, rfl, hS, h⟩
    · replace h := h.2 q
      obtain ⟨c4, h⟩ := h
      refine mk_8026_16 c4 rfl ?_
      exact h
/-! 8027: giveDefaults (LTemplateQuarry$Node;II)I -/
theorem w_Rn_giveDefaults {G : mj_G} (hS : cs_S G) {d : Nat} {r1 : Nat} {x2 : Int32} {x3 : Int32} {K : Int32 → mj_G → Prop}
    (h : (mj_k G r1 = 6) ∧ Rn_giveDefaults_9 (d + 1) x2 x3 (mj_r G r1 7) (nI 0) G K) : Rn_giveDefaults (d + 1) r1 x2 x3 G K := by
  obtain ⟨c1, h⟩ := h
  refine mk_8027_0 c1 rfl ?_
  exact h
theorem w_Rn_giveDefaults_9 {G : mj_G} (hS : cs_S G) {d : Nat} {x2 : Int32} {x3 : Int32} {r4 : Nat} {x5 : Int32} {K : Int32 → mj_G → Prop}
    (h : mm_br ((nI 3) ≤ x5) (K (nI 0) G) (mm_br (r4 = 0) (K (nI 0) G) (mm_ix (x2 + x5) 320 (fun n2 => mm_br ((mj_i G (67 + 2 * n2) 6) = ((Int32.ofInt (-1)))) (Va_setNothing d (67 + 2 * n2) G (fun G5 => (mj_k G5 r4 = 6) ∧ mm_br ((mj_r G5 r4 6) = 0) ((mj_k G5 (67 + 2 * n2) = 12) ∧ ∀ G8, G8 = mj_pI G5 (67 + 2 * n2) 6 (mj_i G5 r4 4) → Rn_giveDefaults_9 (d + 1) x2 x3 (mj_r G8 r4 10) (x5 + nI 1) G8 K) (Fi_find d (mj_r G5 r4 6) x3 (nI 0) (nI 0) G5 (fun v10 G9 => mm_br (v10 = (nI 0)) (Fi_found d  G9 (fun v12 G11 => (mj_k G11 (67 + 2 * n2) = 12) ∧ Va_keep d (67 + 2 * n2) v12 G11 (fun G14 => (mj_k G14 r4 = 6) ∧ (mj_k G14 (67 + 2 * n2) = 12) ∧ ∀ G17, G17 = mj_pI G14 (67 + 2 * n2) 6 (mj_i G14 r4 4) → Rn_giveDefaults_9 (d + 1) x2 x3 (mj_r G17 r4 10) (x5 + nI 1) G17 K))) (K v10 G9))))) ((mj_k G r4 = 6) ∧ Rn_giveDefaults_9 (d + 1) x2 x3 (mj_r G r4 10) (x5 + nI 1) G K))))) : Rn_giveDefaults_9 (d + 1) x2 x3 r4 x5 G K := by
  refine mk_8027_9 (fun q => ?_) (fun q => ?_)
  · replace h := h.1 q
    refine mk_8027_116 ⟨_, rfl, hS, h⟩
  · replace h := h.2 q
    refine mk_8027_15 (fun q => ?_) (fun q => ?_)
    · replace h := h.1 q
      refine mk_8027_116 ⟨_, rfl, hS, h⟩
    · replace h := h.2 q
      obtain ⟨i3, h⟩ := h
      refine mk_8027_20 (cs_k hS rfl) (cs_r (v := 11) hS rfl) (cs_k hS rfl) (cs_r (v := 13) hS rfl) (cs_kg hS rfl) (mm_v (cs_l (N := 320) hS rfl) i3) (cs_f13 hS (mm_lt i3)) ((cs_g13 hS (mm_lt i3)).trans rfl) rfl (fun q => ?_) (fun q => ?_)
      · replace h := h.2 q
        obtain ⟨c4, h⟩ := h
        refine mk_8027_103 c4 rfl ?_
        exact h
      · replace h := h.1 q
        refine mk_8027_43 ?_
        refine mc_8027_45 ((cs_g13 hS (mm_lt i3)).trans rfl) h (fun G5 e => ?_)
        obtain ⟨hSG5, h⟩ := e
        obtain ⟨c6, h⟩ := h
        refine mk_8027_48 c6 rfl (fun q => ?_) (fun q => ?_)
        · replace h := h.1 q
          obtain ⟨c7, h⟩ := h
          replace h := h _ rfl
          refine mk_8027_93 c6 rfl c7 rfl ?_
          refine mk_8027_103 c6 rfl ?_
          exact h
        · replace h := h.2 q
          refine mk_8027_56 (cs_k hSG5 rfl) (cs_r (v := 10) hSG5 rfl) c6 rfl ?_
          refine mc_8027_68 (cs_k hSG5 rfl) h (fun v10 G9 e => ?_)
          obtain ⟨hSG9, h⟩ := e
          refine mk_8027_71 (fun q => ?_) (fun q => ?_)
          · replace h := h.1 q
            refine mk_8027_81 (cs_k hSG9 rfl) (cs_r (v := 10) hSG9 rfl) ?_
            refine mc_8027_87 (cs_k hSG9 rfl) h (fun v12 G11 e => ?_)
            obtain ⟨hSG11, h⟩ := e
            obtain ⟨c13, h⟩ := h
            refine mc_8027_90 c13 h (fun G14 e => ?_)
            obtain ⟨hSG14, h⟩ := e
            obtain ⟨c15, h⟩ := h
            obtain ⟨c16, h⟩ := h
            replace h := h _ rfl
            refine mk_8027_93 c15 rfl c16 rfl ?_
            refine mk_8027_103 c15 rfl ?_
            exact h
          · replace h := h.2 q
            refine mk_8027_78 ⟨_, rfl, hSG9, h⟩
/-! 8028: openCallersBody (LTemplateQuarry$Node;)I -/
theorem w_Rn_openCallersBody {G : mj_G} (hS : cs_S G) {d : Nat} {r1 : Nat} {K : Int32 → mj_G → Prop}
    (h : St_spoilKeeping d  G (fun G1 => mm_ix (mj_i G1 11 4) 200 (fun n2 => mm_br ((nI 1) ≤ (mj_i G1 (707 + 4 * n2) 10)) (mm_ix (mj_i G1 (707 + 4 * n2) 10) 200 (fun n4 => (mj_k G1 (mj_r G1 (707 + 4 * n4) 1) = 6) ∧ St_open d r1 (mj_r G1 (mj_r G1 (707 + 4 * n4) 1) 8) G1 (fun v8 G7 => mm_br (v8 = 0) (K ((Int32.ofInt (-8))) G7) (mm_ix ((mj_i G1 (707 + 4 * n2) 10) - (nI 1)) 200 (fun n9 => (mj_k G7 v8 = 5) ∧ ∀ G12, G12 = mj_pI G7 v8 4 (mj_i G7 (707 + 4 * n9) 3) → ∀ G13, G13 = mj_pI G12 v8 7 (mj_i G12 (707 + 4 * n9) 7) → ∀ G14, G14 = mj_pI G13 v8 10 (mj_i G13 (707 + 4 * n9) 10) → K (nI 0) G14))))) (K (nI 0) G1)))) : Rn_openCallersBody (d + 1) r1 G K := by
  refine mk_8028_0 (cs_k hS rfl) (cs_r (v := 11) hS rfl) ?_
  refine mc_8028_4 (cs_k hS rfl) h (fun G1 e => ?_)
  obtain ⟨hSG1, h⟩ := e
  obtain ⟨i3, h⟩ := h
  refine mk_8028_7 (cs_k hSG1 rfl) (cs_r (v := 11) hSG1 rfl) (cs_k hSG1 rfl) (cs_r (v := 14) hSG1 rfl) (cs_k hSG1 rfl) (cs_r (v := 11) hSG1 rfl) (cs_k hSG1 rfl) rfl (cs_kg hSG1 rfl) (mm_v (cs_l (N := 200) hSG1 rfl) i3) (cs_f14 hSG1 (mm_lt i3)) ((cs_g14 hSG1 (mm_lt i3)).trans rfl) rfl (fun q => ?_) (fun q => ?_)
  · replace h := h.1 q
    obtain ⟨i5, h⟩ := h
    obtain ⟨c6, h⟩ := h
    refine mk_8028_33 (cs_k hSG1 rfl) (cs_r (v := 11) hSG1 rfl) (cs_k hSG1 rfl) (cs_r (v := 11) hSG1 rfl) (cs_k hSG1 rfl) (cs_r (v := 14) hSG1 rfl) (cs_kg hSG1 rfl) (mm_v (cs_l (N := 200) hSG1 rfl) i5) (cs_f14 hSG1 (mm_lt i5)) ((cs_g14 hSG1 (mm_lt i5)).trans rfl) rfl c6 rfl ?_
    refine mc_8028_53 (cs_k hSG1 rfl) h (fun v8 G7 e => ?_)
    obtain ⟨hSG7, h⟩ := e
    refine mk_8028_56 (fun q => ?_) (fun q => ?_)
    · replace h := h.2 q
      obtain ⟨i10, h⟩ := h
      obtain ⟨c11, h⟩ := h
      replace h := h _ rfl
      replace h := h _ rfl
      replace h := h _ rfl
      refine mk_8028_64 (cs_k hSG7 rfl) (cs_r (v := 11) hSG7 rfl) (cs_k hSG7 rfl) (cs_r (v := 14) hSG7 rfl) (cs_kg hSG7 rfl) (mm_v (cs_l (N := 200) hSG7 rfl) i10) (cs_f14 hSG7 (mm_lt i10)) ((cs_g14 hSG7 (mm_lt i10)).trans rfl) rfl c11 rfl ((cs_g14 hSG7 (mm_lt i10)).trans rfl) rfl c11 rfl ((cs_g14 hSG7 (mm_lt i10)).trans rfl) rfl c11 rfl ⟨_, rfl, (cs_pI (cs_pI (cs_pI hSG7))), h⟩
    · replace h := h.1 q
      refine mk_8028_61 ⟨_, rfl, hSG7, h⟩
  · replace h := h.2 q
    refine mk_8028_31 ⟨_, rfl, hSG1, h⟩
/-! 8029: meetFragment (LTemplateQuarry$Node;)I -/
set_option maxRecDepth 100000 in
theorem w_Rn_meetFragment {G : mj_G} (hS : cs_S G) {d : Nat} {r1 : Nat} {K : Int32 → mj_G → Prop}
    (h : (mj_k G r1 = 6) ∧ mm_ix (mj_i G r1 3) 10 (fun n2 => St_scope d  G (fun v5 G4 => Rn_lineFrame d  G4 (fun v7 G6 => (mj_k G6 (1597 + 8 * n2) = 4) ∧ Fg_fits d (1597 + 8 * n2) r1 v7 v5 G6 (fun v10 G9 => mm_br (v10 = true) (∀ G20, G20 = mj_pI G9 6 8 ((mj_i G9 6 8) + (nI 1)) → Rn_meetFragment_52 (d + 1) (1597 + 8 * n2) v5 (nI 0) G20 K) ((mj_k G9 r1 = 6) ∧ St_open d r1 (mj_r G9 r1 8) G9 (fun v13 G12 => mm_br (v13 = 0) (K ((Int32.ofInt (-8))) G12) (Ou_mark d v13 G12 (fun G14 => (mj_k G14 v13 = 5) ∧ ∀ G16, G16 = mj_pI G14 v13 11 (mj_i G14 11 4) → ∀ G17, G17 = mj_pI G16 v13 19 (nI 0) → ∀ G18, G18 = mj_pI G17 v13 20 (nI 0) → ∀ G19, G19 = mj_pI G18 v13 21 (nI 1) → K (nI 0) G19))))))))) : Rn_meetFragment (d + 1) r1 G K := by
  obtain ⟨c1, h⟩ := h
  obtain ⟨i3, h⟩ := h
  refine mk_8029_0 (cs_k hS rfl) (cs_r (v := 9) hS rfl) c1 rfl (cs_kg hS rfl) (mm_v (cs_l (N := 10) hS rfl) i3) (cs_f9 hS (mm_lt i3)) (cs_k hS rfl) (cs_r (v := 11) hS rfl) ?_
  refine mc_8029_14 (cs_k hS rfl) h (fun v5 G4 e => ?_)
  obtain ⟨hSG4, h⟩ := e
  refine mk_8029_17 ?_
  refine mc_8029_21 (cs_k hSG4 rfl) h (fun v7 G6 e => ?_)
  obtain ⟨hSG6, h⟩ := e
  refine mk_8029_24 (cs_k hSG6 rfl) (cs_r (v := 1589) hSG6 rfl) (cs_k hSG6 rfl) (cs_r (v := 11) hSG6 rfl) ?_
  obtain ⟨c8, h⟩ := h
  refine mc_8029_33 c8 (cc_z h) (fun v0 G9 e => ?_)
  obtain ⟨v10, rfl, hSG9, h⟩ := e
  refine mk_8029_36 (fun q => ?_) (fun q => ?_)
  · replace h := h.2 (bI_z q)
    obtain ⟨c11, h⟩ := h
    refine mk_8029_127 (cs_k hSG9 rfl) (cs_r (v := 11) hSG9 rfl) c11 rfl ?_
    refine mc_8029_136 (cs_k hSG9 rfl) h (fun v13 G12 e => ?_)
    obtain ⟨hSG12, h⟩ := e
    refine mk_8029_139 (fun q => ?_) (fun q => ?_)
    · replace h := h.2 q
      refine mk_8029_149 (cs_k hSG12 rfl) (cs_r (v := 1589) hSG12 rfl) ?_
      refine mc_8029_155 (cs_k hSG12 rfl) h (fun G14 e => ?_)
      obtain ⟨hSG14, h⟩ := e
      obtain ⟨c15, h⟩ := h
      replace h := h _ rfl
      replace h := h _ rfl
      replace h := h _ rfl
      replace h := h _ rfl
      refine mk_8029_158 (cs_k hSG14 rfl) (cs_r (v := 11) hSG14 rfl) (cs_k hSG14 rfl) rfl c15 rfl c15 rfl c15 rfl c15 (bI_b true) rfl ⟨_, rfl, (cs_pI (cs_pI (cs_pI (cs_pI hSG14)))), h⟩
    · replace h := h.1 q
      refine mk_8029_146 ⟨_, rfl, hSG12, h⟩
  · replace h := h.1 (bI_n q)
    replace h := h _ rfl
    refine mk_8029_39 (cs_k hSG9 rfl) rfl (cs_k hSG9 rfl) rfl ?_
    exact h
set_option maxRecDepth 100000 in
theorem w_Rn_meetFragment_52 {G : mj_G} (hS : cs_S G) {d : Nat} {r2 : Nat} {x3 : Int32} {x4 : Int32} {K : Int32 → mj_G → Prop}
    (h : mm_br ((nI 26) ≤ x4) ((mj_k G r2 = 4) ∧ Ou_putCells d (mj_r G r2 5) (mj_i G r2 6) G (fun v23 G22 => K v23 G22)) ((mj_k G r2 = 4) ∧ mm_br (((mm_shr (mj_i G r2 7) x4) &&& (nI 1)) = (nI 0)) (mm_br (((mm_shr (mj_i G r2 8) x4) &&& (nI 1)) = (nI 0)) (Rn_meetFragment_52 (d + 1) r2 x3 (x4 + nI 1) G K) (St_read d ((Int32.ofInt (-1))) x4 G (fun v26 G25 => Rn_meetFragment_52 (d + 1) r2 x3 (x4 + nI 1) G25 K))) (St_read d x3 x4 G (fun v28 G27 => (mj_k G27 r2 = 4) ∧ mm_br (((mm_shr (mj_i G27 r2 8) x4) &&& (nI 1)) = (nI 0)) (Rn_meetFragment_52 (d + 1) r2 x3 (x4 + nI 1) G27 K) (St_read d ((Int32.ofInt (-1))) x4 G27 (fun v31 G30 => Rn_meetFragment_52 (d + 1) r2 x3 (x4 + nI 1) G30 K)))))) : Rn_meetFragment_52 (d + 1) r2 x3 x4 G K := by
  refine mk_8029_52 (fun q => ?_) (fun q => ?_)
  · replace h := h.1 q
    obtain ⟨c21, h⟩ := h
    refine mk_8029_111 (cs_k hS rfl) (cs_r (v := 1589) hS rfl) c21 rfl c21 rfl ?_
    refine mc_8029_123 (cs_k hS rfl) h (fun v23 G22 e => ?_)
    obtain ⟨hSG22, h⟩ := e
    refine mk_8029_126 ⟨_, rfl, hSG22, h⟩
  · replace h := h.2 q
    obtain ⟨c24, h⟩ := h
    refine mk_8029_59 c24 rfl (fun q => ?_) (fun q => ?_)
    · replace h := h.1 q
      refine mk_8029_82 c24 rfl (fun q => ?_) (fun q => ?_)
      · replace h := h.1 q
        refine mk_8029_105 ?_
        exact h
      · replace h := h.2 q
        refine mk_8029_94 (cs_k hS rfl) (cs_r (v := 11) hS rfl) ?_
        refine mc_8029_101 (cs_k hS rfl) h (fun v26 G25 e => ?_)
        obtain ⟨hSG25, h⟩ := e
        refine mk_8029_104 ?_
        refine mk_8029_105 ?_
        exact h
    · replace h := h.2 q
      refine mk_8029_71 (cs_k hS rfl) (cs_r (v := 11) hS rfl) ?_
      refine mc_8029_78 (cs_k hS rfl) h (fun v28 G27 e => ?_)
      obtain ⟨hSG27, h⟩ := e
      refine mk_8029_81 ?_
      obtain ⟨c29, h⟩ := h
      refine mk_8029_82 c29 rfl (fun q => ?_) (fun q => ?_)
      · replace h := h.1 q
        refine mk_8029_105 ?_
        exact h
      · replace h := h.2 q
        refine mk_8029_94 (cs_k hSG27 rfl) (cs_r (v := 11) hSG27 rfl) ?_
        refine mc_8029_101 (cs_k hSG27 rfl) h (fun v31 G30 e => ?_)
        obtain ⟨hSG30, h⟩ := e
        refine mk_8029_104 ?_
        refine mk_8029_105 ?_
        exact h
