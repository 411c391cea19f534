/-! LAWS OF THE CLASS, 3 -/
/-! 2000: through (LTemplateQuarry$Node;III)I -/
theorem w_Fo_through {G : mj_G} (hS : cs_S G) {d : Nat} {r0 : Nat} {x1 : Int32} {x2 : Int32} {x3 : Int32} {K : Int32 → mj_G → Prop}
    (h : mm_br (x3 < (nI 90)) (Fo_through_16 (d + 1) x2 x3 x1 r0 G K) (K (nI 255) G)) : Fo_through (d + 1) r0 x1 x2 x3 G K := by
  refine mk_2000_0 (fun q => ?_) (fun q => ?_)
  · replace h := h.1 q
    refine mk_2000_13 ?_
    exact h
  · replace h := h.2 q
    refine mk_2000_9 ⟨_, rfl, hS, h⟩
theorem w_Fo_through_16 {G : mj_G} (hS : cs_S G) {d : Nat} {x2 : Int32} {x3 : Int32} {x4 : Int32} {r5 : Nat} {K : Int32 → mj_G → Prop}
    (h : mm_br (r5 = 0) (K x4 G) (Fo_behind d r5 x4 x2 x3 G (fun v2 G1 => (mj_k G1 r5 = 6) ∧ Fo_through_16 (d + 1) x2 x3 v2 (mj_r G1 r5 10) G1 K))) : Fo_through_16 (d + 1) x2 x3 x4 r5 G K := by
  refine mk_2000_16 (fun q => ?_) (fun q => ?_)
  · replace h := h.1 q
    refine mk_2000_42 ⟨_, rfl, hS, h⟩
  · replace h := h.2 q
    refine mk_2000_21 ?_
    refine mc_2000_27 h (fun v2 G1 e => ?_)
    obtain ⟨hSG1, h⟩ := e
    obtain ⟨c3, h⟩ := h
    refine mk_2000_30 c3 rfl ?_
    exact h
/-! 2001: behind (LTemplateQuarry$Node;III)I -/
set_option maxRecDepth 100000 in
theorem w_Fo_behind {G : mj_G} (hS : cs_S G) {d : Nat} (hd : 15 ≤ d) {r0 : Nat} {x1 : Int32} {x2 : Int32} {x3 : Int32} {K : Int32 → mj_G → Prop}
    (h : (mj_k G r0 = 6) ∧ mm_br ((mj_i G r0 0) = nI 1) (Fo_leadAll d x1 (mj_i G r0 5) G (fun v3 G2 => (mj_k G2 r0 = 6) ∧ mm_br ((mj_i G2 r0 5) = (nI 32)) (K (v3 ||| x1) G2) (K (v3 ||| (nI 0)) G2))) (mm_br ((mj_i G r0 0) = nI 36) (K x1 G) (mm_br ((mj_i G r0 0) = nI 37) (K x1 G) (mm_br ((mj_i G r0 0) = nI 42) (Fo_behindLoop d r0 x1 x2 x3 G (fun v6 G5 => K v6 G5)) (mm_br ((mj_i G r0 0) = nI 43) (Fo_through d (mj_r G r0 8) x1 x2 (x3 + (nI 1)) G (fun v8 G7 => (mj_k G7 r0 = 6) ∧ Fo_through d (mj_r G7 r0 9) x1 x2 (x3 + (nI 1)) G7 (fun v11 G10 => K (v8 ||| v11) G10))) (mm_br ((mj_i G r0 0) = nI 45) (mm_br (qb (q_2003 x1 (nI 2)) = true) (K (x1 ||| (nI 2)) G) (K x1 G)) (mm_br ((mj_i G r0 0) = nI 61) (Fo_mayBeSafe d (mj_r G r0 6) x2 (nI 0) G (fun v13 G12 => mm_br (v13 = true) (K (nI 255) G12) (mm_br (qb (q_2003 x1 (nI 1)) = true) (K (x1 ||| (nI 4)) G12) (K x1 G12)))) (mm_br ((mj_i G r0 0) = nI 63) (Fo_through d (mj_r G r0 8) x1 x2 (x3 + (nI 1)) G (fun v15 G14 => (mj_k G14 r0 = 6) ∧ Fo_through d (mj_r G14 r0 9) x1 x2 (x3 + (nI 1)) G14 (fun v18 G17 => K (v15 ||| v18) G17))) (mm_br ((mj_i G r0 0) = nI 107) (Fo_through d (mj_r G r0 8) x1 x2 (x3 + (nI 1)) G (fun v20 G19 => K v20 G19)) (K (nI 255) G)))))))))) : Fo_behind (d + 1) r0 x1 x2 x3 G K := by
  obtain ⟨e, rfl⟩ : ∃ e, d = e + 15 := ⟨d - 15, (Nat.sub_add_cancel hd).symm⟩
  obtain ⟨c1, h⟩ := h
  refine mk_2001_0 c1 rfl (fun q => ?_) (fun q => ?_) (fun q => ?_) (fun q => ?_) (fun q => ?_) (fun q => ?_) (fun q => ?_) (fun q => ?_) (fun q => ?_) (fun n1 n2 n3 n4 n5 n6 n7 n8 n9 => ?_)
  · replace h := h.1 q
    refine mk_2001_88 c1 rfl ?_
    refine mc_2001_93 h (fun v3 G2 e => ?_)
    obtain ⟨hSG2, h⟩ := e
    obtain ⟨c4, h⟩ := h
    refine mk_2001_96 c4 rfl (fun q => ?_) (fun q => ?_)
    · replace h := h.2 q
      refine mk_2001_109 ?_
      refine mk_2001_110 ⟨_, rfl, hSG2, h⟩
    · replace h := h.1 q
      refine mk_2001_105 ?_
      refine mk_2001_110 ⟨_, rfl, hSG2, h⟩
  · replace h := (h.2 (fun e => absurd (e.symm.trans q) (by decide))).1 q
    refine mk_2001_207 ⟨_, rfl, hS, h⟩
  · replace h := ((h.2 (fun e => absurd (e.symm.trans q) (by decide))).2 (fun e => absurd (e.symm.trans q) (by decide))).1 q
    refine mk_2001_207 ⟨_, rfl, hS, h⟩
  · replace h := (((h.2 (fun e => absurd (e.symm.trans q) (by decide))).2 (fun e => absurd (e.symm.trans q) (by decide))).2 (fun e => absurd (e.symm.trans q) (by decide))).1 q
    refine mk_2001_186 ?_
    refine mc_2001_190 h (fun v6 G5 e => ?_)
    obtain ⟨hSG5, h⟩ := e
    refine mk_2001_193 ⟨_, rfl, hSG5, h⟩
  · replace h := ((((h.2 (fun e => absurd (e.symm.trans q) (by decide))).2 (fun e => absurd (e.symm.trans q) (by decide))).2 (fun e => absurd (e.symm.trans q) (by decide))).2 (fun e => absurd (e.symm.trans q) (by decide))).1 q
    refine mk_2001_160 c1 rfl ?_
    refine mc_2001_169 h (fun v8 G7 e => ?_)
    obtain ⟨hSG7, h⟩ := e
    obtain ⟨c9, h⟩ := h
    refine mk_2001_172 c9 rfl ?_
    refine mc_2001_181 h (fun v11 G10 e => ?_)
    obtain ⟨hSG10, h⟩ := e
    refine mk_2001_184 ⟨_, rfl, hSG10, h⟩
  · replace h := (((((h.2 (fun e => absurd (e.symm.trans q) (by decide))).2 (fun e => absurd (e.symm.trans q) (by decide))).2 (fun e => absurd (e.symm.trans q) (by decide))).2 (fun e => absurd (e.symm.trans q) (by decide))).2 (fun e => absurd (e.symm.trans q) (by decide))).1 q
    refine mk_2001_112 ?_
    refine mc_2001_114 (q_bc (q_2003_c _ _ _) (q_2003_b _ _)) (fun v G1 e => ?_)
    obtain ⟨rfl, rfl⟩ := e
    refine mk_2001_117 (fun q => ?_) (fun q => ?_)
    · replace h := h.2 (bI_z q)
      refine mk_2001_126 ?_
      refine mk_2001_127 ⟨_, rfl, hS, h⟩
    · replace h := h.1 (bI_n q)
      refine mk_2001_120 ?_
      refine mk_2001_127 ⟨_, rfl, hS, h⟩
  · replace h := ((((((h.2 (fun e => absurd (e.symm.trans q) (by decide))).2 (fun e => absurd (e.symm.trans q) (by decide))).2 (fun e => absurd (e.symm.trans q) (by decide))).2 (fun e => absurd (e.symm.trans q) (by decide))).2 (fun e => absurd (e.symm.trans q) (by decide))).2 (fun e => absurd (e.symm.trans q) (by decide))).1 q
    refine mk_2001_128 c1 rfl ?_
    refine mc_2001_134 (cc_z h) (fun v0 G12 e => ?_)
    obtain ⟨v13, rfl, hSG12, h⟩ := e
    refine mk_2001_137 (fun q => ?_) (fun q => ?_)
    · replace h := h.2 (bI_z q)
      refine mk_2001_144 ?_
      refine mc_2001_146 (q_bc (q_2003_c _ _ _) (q_2003_b _ _)) (fun v G1 e => ?_)
      obtain ⟨rfl, rfl⟩ := e
      refine mk_2001_149 (fun q => ?_) (fun q => ?_)
      · replace h := h.2 (bI_z q)
        refine mk_2001_158 ?_
        refine mk_2001_159 ⟨_, rfl, hSG12, h⟩
      · replace h := h.1 (bI_n q)
        refine mk_2001_152 ?_
        refine mk_2001_159 ⟨_, rfl, hSG12, h⟩
    · replace h := h.1 (bI_n q)
      refine mk_2001_140 ⟨_, rfl, hSG12, h⟩
  · replace h := (((((((h.2 (fun e => absurd (e.symm.trans q) (by decide))).2 (fun e => absurd (e.symm.trans q) (by decide))).2 (fun e => absurd (e.symm.trans q) (by decide))).2 (fun e => absurd (e.symm.trans q) (by decide))).2 (fun e => absurd (e.symm.trans q) (by decide))).2 (fun e => absurd (e.symm.trans q) (by decide))).2 (fun e => absurd (e.symm.trans q) (by decide))).1 q
    refine mk_2001_160 c1 rfl ?_
    refine mc_2001_169 h (fun v15 G14 e => ?_)
    obtain ⟨hSG14, h⟩ := e
    obtain ⟨c16, h⟩ := h
    refine mk_2001_172 c16 rfl ?_
    refine mc_2001_181 h (fun v18 G17 e => ?_)
    obtain ⟨hSG17, h⟩ := e
    refine mk_2001_184 ⟨_, rfl, hSG17, h⟩
  · replace h := ((((((((h.2 (fun e => absurd (e.symm.trans q) (by decide))).2 (fun e => absurd (e.symm.trans q) (by decide))).2 (fun e => absurd (e.symm.trans q) (by decide))).2 (fun e => absurd (e.symm.trans q) (by decide))).2 (fun e => absurd (e.symm.trans q) (by decide))).2 (fun e => absurd (e.symm.trans q) (by decide))).2 (fun e => absurd (e.symm.trans q) (by decide))).2 (fun e => absurd (e.symm.trans q) (by decide))).1 q
    refine mk_2001_194 c1 rfl ?_
    refine mc_2001_203 h (fun v20 G19 e => ?_)
    obtain ⟨hSG19, h⟩ := e
    refine mk_2001_206 ⟨_, rfl, hSG19, h⟩
  · replace h := (((((((((h.2 n1).2 n2).2 n3).2 n4).2 n5).2 n6).2 n7).2 n8).2 n9)
    refine mk_2001_209 ⟨_, rfl, hS, h⟩
/-! 2002: behindLoop (LTemplateQuarry$Node;III)I -/
theorem w_Fo_behindLoop {G : mj_G} (hS : cs_S G) {d : Nat} {r0 : Nat} {x1 : Int32} {x2 : Int32} {x3 : Int32} {K : Int32 → mj_G → Prop}
    (h : (mj_k G r0 = 6) ∧ Fo_through d (mj_r G r0 8) x1 x2 (x3 + (nI 1)) G (fun v3 G2 => Fo_behindLoop_21 (d + 1) r0 x1 x2 x3 x1 v3 (nI 0) G2 K)) : Fo_behindLoop (d + 1) r0 x1 x2 x3 G K := by
  obtain ⟨c1, h⟩ := h
  refine mk_2002_0 c1 rfl ?_
  refine mc_2002_13 h (fun v3 G2 e => ?_)
  obtain ⟨hSG2, h⟩ := e
  refine mk_2002_16 ?_
  exact h
theorem w_Fo_behindLoop_21 {G : mj_G} (hS : cs_S G) {d : Nat} {r0 : Nat} {x1 : Int32} {x2 : Int32} {x3 : Int32} {x4 : Int32} {x5 : Int32} {x6 : Int32} {K : Int32 → mj_G → Prop}
    (h : mm_br ((nI 8) ≤ x6) ((mj_k G r0 = 6) ∧ Fo_through d (mj_r G r0 9) x1 x2 (x3 + (nI 1)) G (fun v6 G5 => K (x5 ||| v6) G5)) (mm_br ((x4 ||| x5) = x4) ((mj_k G r0 = 6) ∧ Fo_through d (mj_r G r0 9) x1 x2 (x3 + (nI 1)) G (fun v9 G8 => K (x5 ||| v9) G8)) ((mj_k G r0 = 6) ∧ Fo_through d (mj_r G r0 8) (x4 ||| x5) x2 (x3 + (nI 1)) G (fun v12 G11 => Fo_behindLoop_21 (d + 1) r0 x1 x2 x3 (x4 ||| x5) v12 (x6 + nI 1) G11 K)))) : Fo_behindLoop_21 (d + 1) r0 x1 x2 x3 x4 x5 x6 G K := by
  refine mk_2002_21 (fun q => ?_) (fun q => ?_)
  · replace h := h.1 q
    obtain ⟨c4, h⟩ := h
    refine mk_2002_66 c4 rfl ?_
    refine mc_2002_77 h (fun v6 G5 e => ?_)
    obtain ⟨hSG5, h⟩ := e
    refine mk_2002_80 ⟨_, rfl, hSG5, h⟩
  · replace h := h.2 q
    refine mk_2002_28 (fun q => ?_) (fun q => ?_)
    · replace h := h.1 q
      obtain ⟨c7, h⟩ := h
      refine mk_2002_66 c7 rfl ?_
      refine mc_2002_77 h (fun v9 G8 e => ?_)
      obtain ⟨hSG8, h⟩ := e
      refine mk_2002_80 ⟨_, rfl, hSG8, h⟩
    · replace h := h.2 q
      obtain ⟨c10, h⟩ := h
      refine mk_2002_38 c10 rfl ?_
      refine mc_2002_55 h (fun v12 G11 e => ?_)
      obtain ⟨hSG11, h⟩ := e
      refine mk_2002_58 ?_
      exact h
/-! 2004: leadAll (IC)I -/
theorem w_Fo_leadAll {G : mj_G} (hS : cs_S G) {d : Nat} {x0 : Int32} {x1 : Int32} {K : Int32 → mj_G → Prop}
    (h : Fo_leadAll_4 (d + 1) x0 x1 (nI 0) (nI 0) G K) : Fo_leadAll (d + 1) x0 x1 G K := by
  refine mk_2004_0 ?_
  exact h
theorem w_Fo_leadAll_4 {G : mj_G} (hS : cs_S G) {d : Nat} (hd : 15 ≤ d) {x0 : Int32} {x1 : Int32} {x2 : Int32} {x3 : Int32} {K : Int32 → mj_G → Prop}
    (h : mm_br ((nI 8) ≤ x3) (K x2 G) (mm_br (qb (q_2003 x0 x3) = true) (Fo_leadAll_4 (d + 1) x0 x1 (x2 ||| (mm_shl (nI 1) (q_12033 x3 x1))) (x3 + nI 1) G K) (Fo_leadAll_4 (d + 1) x0 x1 x2 (x3 + nI 1) G K))) : Fo_leadAll_4 (d + 1) x0 x1 x2 x3 G K := by
  obtain ⟨e, rfl⟩ : ∃ e, d = e + 15 := ⟨d - 15, (Nat.sub_add_cancel hd).symm⟩
  refine mk_2004_4 (fun q => ?_) (fun q => ?_)
  · replace h := h.1 q
    refine mk_2004_34 ⟨_, rfl, hS, h⟩
  · replace h := h.2 q
    refine mk_2004_10 ?_
    refine mc_2004_12 (q_bc (q_2003_c _ _ _) (q_2003_b _ _)) (fun v G1 e => ?_)
    obtain ⟨rfl, rfl⟩ := e
    refine mk_2004_15 (fun q => ?_) (fun q => ?_)
    · replace h := h.2 (bI_z q)
      refine mk_2004_28 ?_
      exact h
    · replace h := h.1 (bI_n q)
      refine mk_2004_18 ?_
      refine mc_2004_22 (q_12033_c _ _ _) (fun v G1 e => ?_)
      obtain ⟨rfl, rfl⟩ := e
      refine mk_2004_25 ?_
      refine mk_2004_28 ?_
      exact h
/-! 2005: mayBeSafe (LTemplateQuarry$Expression;II)Z -/
theorem w_Fo_mayBeSafe {G : mj_G} (hS : cs_S G) {d : Nat} (hd : 15 ≤ d) {r0 : Nat} {x1 : Int32} {x2 : Int32} {K : Bool → mj_G → Prop}
    (h : mm_br (r0 = 0) (K false G) (mm_br (x2 < (nI 90)) ((mj_k G r0 = 1) ∧ mm_br ((mj_i G r0 0) = nI 1) (K false G) (mm_br ((mj_i G r0 0) = nI 2) (K true G) (mm_br ((mj_i G r0 0) = nI 3) (K (qb (q_2003 x1 (mj_i G r0 1))) G) (mm_br ((mj_i G r0 0) = nI 4) (K (qb (q_2003 x1 (mj_i G r0 1))) G) (mm_br ((mj_i G r0 0) = nI 114) (K true G) (Fo_mayBeSafe d (mj_r G r0 4) x1 (x2 + (nI 1)) G (fun v3 G2 => mm_br (v3 = true) (K true G2) ((mj_k G2 r0 = 1) ∧ Fo_mayBeSafe d (mj_r G2 r0 5) x1 (x2 + (nI 1)) G2 (fun v6 G5 => mm_br (v6 = true) (K true G5) (K false G5)))))))))) (K false G))) : Fo_mayBeSafe (d + 1) r0 x1 x2 G K := by
  obtain ⟨e, rfl⟩ : ∃ e, d = e + 15 := ⟨d - 15, (Nat.sub_add_cancel hd).symm⟩
  refine mk_2005_0 (fun q => ?_) (fun q => ?_)
  · replace h := h.1 q
    refine mk_2005_10 (bI_b false) ⟨false, rfl, hS, h⟩
  · replace h := h.2 q
    refine mk_2005_4 (fun q => ?_) (fun q => ?_)
    · replace h := h.1 q
      obtain ⟨c1, h⟩ := h
      refine mk_2005_12 c1 rfl (fun q => ?_) (fun q => ?_) (fun q => ?_) (fun q => ?_) (fun q => ?_) (fun n1 n2 n3 n4 n5 => ?_)
      · replace h := h.1 q
        refine mk_2005_68 (bI_b false) ⟨false, rfl, hS, h⟩
      · replace h := (h.2 (fun e => absurd (e.symm.trans q) (by decide))).1 q
        refine mk_2005_70 (bI_b true) ⟨true, rfl, hS, h⟩
      · replace h := ((h.2 (fun e => absurd (e.symm.trans q) (by decide))).2 (fun e => absurd (e.symm.trans q) (by decide))).1 q
        refine mk_2005_72 c1 rfl ?_
        refine mc_2005_77 (q_bc (q_2003_c _ _ _) (q_2003_b _ _)) (fun v G1 e => ?_)
        obtain ⟨rfl, rfl⟩ := e
        refine mk_2005_80 (bI_b _) ⟨_, rfl, hS, h⟩
      · replace h := (((h.2 (fun e => absurd (e.symm.trans q) (by decide))).2 (fun e => absurd (e.symm.trans q) (by decide))).2 (fun e => absurd (e.symm.trans q) (by decide))).1 q
        refine mk_2005_72 c1 rfl ?_
        refine mc_2005_77 (q_bc (q_2003_c _ _ _) (q_2003_b _ _)) (fun v G1 e => ?_)
        obtain ⟨rfl, rfl⟩ := e
        refine mk_2005_80 (bI_b _) ⟨_, rfl, hS, h⟩
      · replace h := ((((h.2 (fun e => absurd (e.symm.trans q) (by decide))).2 (fun e => absurd (e.symm.trans q) (by decide))).2 (fun e => absurd (e.symm.trans q) (by decide))).2 (fun e => absurd (e.symm.trans q) (by decide))).1 q
        refine mk_2005_70 (bI_b true) ⟨true, rfl, hS, h⟩
      · replace h := (((((h.2 n1).2 n2).2 n3).2 n4).2 n5)
        refine mk_2005_81 c1 rfl ?_
        refine mc_2005_89 (cc_z h) (fun v0 G2 e => ?_)
        obtain ⟨v3, rfl, hSG2, h⟩ := e
        refine mk_2005_92 (fun q => ?_) (fun q => ?_)
        · replace h := h.1 (bI_n q)
          refine mk_2005_109 ?_
          refine mk_2005_114 (bI_b true) ⟨true, rfl, hSG2, h⟩
        · replace h := h.2 (bI_z q)
          obtain ⟨c4, h⟩ := h
          refine mk_2005_95 c4 rfl ?_
          refine mc_2005_103 (cc_z h) (fun v0 G5 e => ?_)
          obtain ⟨v6, rfl, hSG5, h⟩ := e
          refine mk_2005_106 (fun q => ?_) (fun q => ?_)
          · replace h := h.2 (bI_z q)
            refine mk_2005_113 ?_
            refine mk_2005_114 (bI_b false) ⟨false, rfl, hSG5, h⟩
          · replace h := h.1 (bI_n q)
            refine mk_2005_109 ?_
            refine mk_2005_114 (bI_b true) ⟨true, rfl, hSG5, h⟩
    · replace h := h.2 q
      refine mk_2005_10 (bI_b false) ⟨false, rfl, hS, h⟩
/-! 2006: firstFailing (LTemplateQuarry$Node;[II)I -/
set_option maxRecDepth 100000 in
theorem w_Fo_firstFailing {G : mj_G} (hS : cs_S G) {d : Nat} {r0 : Nat} {r1 : Nat} {x2 : Int32} {K : Int32 → mj_G → Prop}
    (h : mm_br (r0 = 0) (K ((Int32.ofInt (-1))) G) (mm_br (x2 < (nI 90)) ((mj_k G r1 = 20) ∧ (3 ≤ r1) ∧ (mj_l G r1 ≤ 1000000) ∧ ∀ G4, G4 = mj_al G 20 (mj_l G r1) (mj_i G r1) → (3 ≤ (mj_n G)) ∧ Fo_firstFailing_23 (d + 1) x2 (mj_n G) r0 G4 K) (K ((Int32.ofInt (-1))) G))) : Fo_firstFailing (d + 1) r0 r1 x2 G K := by
  refine mk_2006_0 (fun q => ?_) (fun q => ?_)
  · replace h := h.1 q
    refine mk_2006_10 ⟨_, rfl, hS, h⟩
  · replace h := h.2 q
    refine mk_2006_4 (fun q => ?_) (fun q => ?_)
    · replace h := h.1 q
      obtain ⟨c1, h⟩ := h
      obtain ⟨c2, h⟩ := h
      obtain ⟨c3, h⟩ := h
      replace h := h _ rfl
      obtain ⟨c5, h⟩ := h
      refine mk_2006_12 c1 c2 c3 rfl rfl mj_k_al c5 ?_
      exact h
    · replace h := h.2 q
      refine mk_2006_10 ⟨_, rfl, hS, h⟩
set_option maxRecDepth 100000 in
theorem w_Fo_firstFailing_23 {G : mj_G} (hS : cs_S G) {d : Nat} {x2 : Int32} {r3 : Nat} {r4 : Nat} {K : Int32 → mj_G → Prop}
    (h : mm_br (r4 = 0) (K ((Int32.ofInt (-1))) G) ((mj_k G r4 = 6) ∧ mm_br ((mj_i G r4 0) = (nI 1)) (Fo_firstFailing_23 (d + 1) x2 r3 (mj_r G r4 10) G K) (mm_br ((mj_i G r4 0) = (nI 36)) (Fo_firstFailing_23 (d + 1) x2 r3 (mj_r G r4 10) G K) (Fo_mayFail d r4 r3 G (fun v8 G7 => mm_br (v8 = true) ((mj_k G7 r4 = 6) ∧ mm_br ((mj_i G7 r4 2) = ((Int32.ofInt (-1)))) (mm_br ((mj_i G7 r4 0) = (nI 37)) (mm_br ((mj_i G7 r4 4) < (nI 0)) (Fo_firstFailing_23 (d + 1) x2 r3 (mj_r G7 r4 10) G7 K) (Fo_kindsOf d (mj_r G7 r4 6) r3 (nI 0) G7 (fun v22 G21 => (mj_k G21 r3 = 20) ∧ (3 ≤ r3) ∧ mm_ix (mj_i G7 r4 4) (mj_l G21 r3) (fun n25 => ∀ G27, G27 = mj_pI G21 r3 n25 (v22 &&& (nI 15)) → (mj_k G27 r4 = 6) ∧ Fo_firstFailing_23 (d + 1) x2 r3 (mj_r G27 r4 10) G27 K)))) (Fo_firstFailing_23 (d + 1) x2 r3 (mj_r G7 r4 10) G7 K)) (K (mj_i G7 r4 2) G7)) (Fo_failingWithin d r4 r3 x2 G7 (fun v10 G9 => mm_br (v10 = ((Int32.ofInt (-1)))) ((mj_k G9 r4 = 6) ∧ mm_br ((mj_i G9 r4 0) = (nI 37)) (mm_br ((mj_i G9 r4 4) < (nI 0)) (Fo_firstFailing_23 (d + 1) x2 r3 (mj_r G9 r4 10) G9 K) (Fo_kindsOf d (mj_r G9 r4 6) r3 (nI 0) G9 (fun v13 G12 => (mj_k G12 r3 = 20) ∧ (3 ≤ r3) ∧ mm_ix (mj_i G9 r4 4) (mj_l G12 r3) (fun n16 => ∀ G18, G18 = mj_pI G12 r3 n16 (v13 &&& (nI 15)) → (mj_k G18 r4 = 6) ∧ Fo_firstFailing_23 (d + 1) x2 r3 (mj_r G18 r4 10) G18 K)))) (Fo_firstFailing_23 (d + 1) x2 r3 (mj_r G9 r4 10) G9 K)) (K v10 G9)))))))) : Fo_firstFailing_23 (d + 1) x2 r3 r4 G K := by
  refine mk_2006_23 (fun q => ?_) (fun q => ?_)
  · replace h := h.1 q
    refine mk_2006_130 ⟨_, rfl, hS, h⟩
  · replace h := h.2 q
    obtain ⟨c6, h⟩ := h
    refine mk_2006_28 c6 rfl (fun q => ?_) (fun q => ?_)
    · replace h := h.1 q
      refine mk_2006_120 c6 rfl ?_
      exact h
    · replace h := h.2 q
      refine mk_2006_37 c6 rfl (fun q => ?_) (fun q => ?_)
      · replace h := h.1 q
        refine mk_2006_120 c6 rfl ?_
        exact h
      · replace h := h.2 q
        refine mk_2006_47 ?_
        refine mc_2006_50 (cc_z h) (fun v0 G7 e => ?_)
        obtain ⟨v8, rfl, hSG7, h⟩ := e
        refine mk_2006_53 (fun q => ?_) (fun q => ?_)
        · replace h := h.2 (bI_z q)
          refine mk_2006_64 ?_
          refine mc_2006_68 h (fun v10 G9 e => ?_)
          obtain ⟨hSG9, h⟩ := e
          refine mk_2006_71 (fun q => ?_) (fun q => ?_)
          · replace h := h.1 q
            obtain ⟨c11, h⟩ := h
            refine mk_2006_82 c11 rfl (fun q => ?_) (fun q => ?_)
            · replace h := h.2 q
              refine mk_2006_120 c11 rfl ?_
              exact h
            · replace h := h.1 q
              refine mk_2006_92 c11 rfl (fun q => ?_) (fun q => ?_)
              · replace h := h.1 q
                refine mk_2006_120 c11 rfl ?_
                exact h
              · replace h := h.2 q
                refine mk_2006_100 c11 rfl c11 rfl ?_
                refine mc_2006_113 h (fun v13 G12 e => ?_)
                obtain ⟨hSG12, h⟩ := e
                obtain ⟨c14, h⟩ := h
                obtain ⟨c15, h⟩ := h
                obtain ⟨i17, h⟩ := h
                replace h := h _ rfl
                refine mk_2006_116 c14 c15 i17 rfl ?_
                obtain ⟨c19, h⟩ := h
                refine mk_2006_120 c19 rfl ?_
                exact h
          · replace h := h.2 q
            refine mk_2006_79 ⟨_, rfl, hSG9, h⟩
        · replace h := h.1 (bI_n q)
          obtain ⟨c20, h⟩ := h
          refine mk_2006_56 c20 rfl ?_
          refine mk_2006_71 (fun q => ?_) (fun q => ?_)
          · replace h := h.1 q
            refine mk_2006_82 c20 rfl (fun q => ?_) (fun q => ?_)
            · replace h := h.2 q
              refine mk_2006_120 c20 rfl ?_
              exact h
            · replace h := h.1 q
              refine mk_2006_92 c20 rfl (fun q => ?_) (fun q => ?_)
              · replace h := h.1 q
                refine mk_2006_120 c20 rfl ?_
                exact h
              · replace h := h.2 q
                refine mk_2006_100 c20 rfl c20 rfl ?_
                refine mc_2006_113 h (fun v22 G21 e => ?_)
                obtain ⟨hSG21, h⟩ := e
                obtain ⟨c23, h⟩ := h
                obtain ⟨c24, h⟩ := h
                obtain ⟨i26, h⟩ := h
                replace h := h _ rfl
                refine mk_2006_116 c23 c24 i26 rfl ?_
                obtain ⟨c28, h⟩ := h
                refine mk_2006_120 c28 rfl ?_
                exact h
          · replace h := h.2 q
            refine mk_2006_79 ⟨_, rfl, hSG7, h⟩
/-! 2007: mayFail (LTemplateQuarry$Node;[I)Z -/
theorem w_Fo_mayFail {G : mj_G} (hS : cs_S G) {d : Nat} {r0 : Nat} {r1 : Nat} {K : Bool → mj_G → Prop}
    (h : (mj_k G r0 = 6) ∧ mm_br ((mj_i G r0 0) = nI 37) (Fo_kindsOf d (mj_r G r0 6) r1 (nI 0) G (fun v3 G2 => mm_br ((v3 &&& (nI 16)) = (nI 0)) (K false G2) (K true G2))) (mm_br ((mj_i G r0 0) = nI 42) (Fo_kindsOf d (mj_r G r0 6) r1 (nI 0) G (fun v5 G4 => mm_br ((v5 &&& (nI 23)) = (nI 0)) (K false G4) (K true G4))) (mm_br ((mj_i G r0 0) = nI 61) (Fo_kindsOf d (mj_r G r0 6) r1 (nI 0) G (fun v7 G6 => mm_br ((v7 &&& (nI 25)) = (nI 0)) (K false G6) (K true G6))) (mm_br ((mj_i G r0 0) = nI 63) (Fo_kindsOf d (mj_r G r0 6) r1 (nI 0) G (fun v9 G8 => mm_br ((v9 &&& (nI 16)) = (nI 0)) (K false G8) (K true G8))) (mm_br ((mj_i G r0 0) = nI 116) (Fo_kindsOf d (mj_r G r0 6) r1 (nI 0) G (fun v11 G10 => mm_br ((v11 &&& (nI 29)) = (nI 0)) (K false G10) (K true G10))) (Fo_mayFailInArguments d r0 r1 G (fun v13 G12 => K v13 G12))))))) : Fo_mayFail (d + 1) r0 r1 G K := by
  obtain ⟨c1, h⟩ := h
  refine mk_2007_0 c1 rfl (fun q => ?_) (fun q => ?_) (fun q => ?_) (fun q => ?_) (fun q => ?_) (fun n1 n2 n3 n4 n5 => ?_)
  · replace h := h.1 q
    refine mk_2007_119 c1 rfl ?_
    refine mc_2007_125 h (fun v3 G2 e => ?_)
    obtain ⟨hSG2, h⟩ := e
    refine mk_2007_128 (fun q => ?_) (fun q => ?_)
    · replace h := h.1 q
      refine mk_2007_138 ?_
      refine mk_2007_139 (bI_b false) ⟨false, rfl, hSG2, h⟩
    · replace h := h.2 q
      refine mk_2007_134 ?_
      refine mk_2007_139 (bI_b true) ⟨true, rfl, hSG2, h⟩
  · replace h := (h.2 (fun e => absurd (e.symm.trans q) (by decide))).1 q
    refine mk_2007_77 c1 rfl ?_
    refine mc_2007_83 h (fun v5 G4 e => ?_)
    obtain ⟨hSG4, h⟩ := e
    refine mk_2007_86 (fun q => ?_) (fun q => ?_)
    · replace h := h.1 q
      refine mk_2007_96 ?_
      refine mk_2007_97 (bI_b false) ⟨false, rfl, hSG4, h⟩
    · replace h := h.2 q
      refine mk_2007_92 ?_
      refine mk_2007_97 (bI_b true) ⟨true, rfl, hSG4, h⟩
  · replace h := ((h.2 (fun e => absurd (e.symm.trans q) (by decide))).2 (fun e => absurd (e.symm.trans q) (by decide))).1 q
    refine mk_2007_56 c1 rfl ?_
    refine mc_2007_62 h (fun v7 G6 e => ?_)
    obtain ⟨hSG6, h⟩ := e
    refine mk_2007_65 (fun q => ?_) (fun q => ?_)
    · replace h := h.1 q
      refine mk_2007_75 ?_
      refine mk_2007_76 (bI_b false) ⟨false, rfl, hSG6, h⟩
    · replace h := h.2 q
      refine mk_2007_71 ?_
      refine mk_2007_76 (bI_b true) ⟨true, rfl, hSG6, h⟩
  · replace h := (((h.2 (fun e => absurd (e.symm.trans q) (by decide))).2 (fun e => absurd (e.symm.trans q) (by decide))).2 (fun e => absurd (e.symm.trans q) (by decide))).1 q
    refine mk_2007_119 c1 rfl ?_
    refine mc_2007_125 h (fun v9 G8 e => ?_)
    obtain ⟨hSG8, h⟩ := e
    refine mk_2007_128 (fun q => ?_) (fun q => ?_)
    · replace h := h.1 q
      refine mk_2007_138 ?_
      refine mk_2007_139 (bI_b false) ⟨false, rfl, hSG8, h⟩
    · replace h := h.2 q
      refine mk_2007_134 ?_
      refine mk_2007_139 (bI_b true) ⟨true, rfl, hSG8, h⟩
  · replace h := ((((h.2 (fun e => absurd (e.symm.trans q) (by decide))).2 (fun e => absurd (e.symm.trans q) (by decide))).2 (fun e => absurd (e.symm.trans q) (by decide))).2 (fun e => absurd (e.symm.trans q) (by decide))).1 q
    refine mk_2007_98 c1 rfl ?_
    refine mc_2007_104 h (fun v11 G10 e => ?_)
    obtain ⟨hSG10, h⟩ := e
    refine mk_2007_107 (fun q => ?_) (fun q => ?_)
    · replace h := h.1 q
      refine mk_2007_117 ?_
      refine mk_2007_118 (bI_b false) ⟨false, rfl, hSG10, h⟩
    · replace h := h.2 q
      refine mk_2007_113 ?_
      refine mk_2007_118 (bI_b true) ⟨true, rfl, hSG10, h⟩
  · replace h := (((((h.2 n1).2 n2).2 n3).2 n4).2 n5)
    refine mk_2007_140 ?_
    refine mc_2007_142 (cc_z h) (fun v0 G12 e => ?_)
    obtain ⟨v13, rfl, hSG12, h⟩ := e
    refine mk_2007_145 (bI_b v13) ⟨v13, rfl, hSG12, h⟩
/-! 2008: mayFailInArguments (LTemplateQuarry$Node;[I)Z -/
theorem w_Fo_mayFailInArguments {G : mj_G} (hS : cs_S G) {d : Nat} {r0 : Nat} {r1 : Nat} {K : Bool → mj_G → Prop}
    (h : (mj_k G r0 = 6) ∧ Fo_mayFailInArguments_5 (d + 1) r1 (mj_r G r0 7) G K) : Fo_mayFailInArguments (d + 1) r0 r1 G K := by
  obtain ⟨c1, h⟩ := h
  refine mk_2008_0 c1 rfl ?_
  exact h
theorem w_Fo_mayFailInArguments_5 {G : mj_G} (hS : cs_S G) {d : Nat} {r1 : Nat} {r2 : Nat} {K : Bool → mj_G → Prop}
    (h : mm_br (r2 = 0) (K false G) ((mj_k G r2 = 6) ∧ Fo_kindsOf d (mj_r G r2 6) r1 (nI 0) G (fun v4 G3 => mm_br ((v4 &&& (nI 16)) = (nI 0)) ((mj_k G3 r2 = 6) ∧ Fo_mayFailInArguments_5 (d + 1) r1 (mj_r G3 r2 10) G3 K) (K true G3)))) : Fo_mayFailInArguments_5 (d + 1) r1 r2 G K := by
  refine mk_2008_5 (fun q => ?_) (fun q => ?_)
  · replace h := h.1 q
    refine mk_2008_34 (bI_b false) ⟨false, rfl, hS, h⟩
  · replace h := h.2 q
    obtain ⟨c2, h⟩ := h
    refine mk_2008_9 c2 rfl ?_
    refine mc_2008_15 h (fun v4 G3 e => ?_)
    obtain ⟨hSG3, h⟩ := e
    refine mk_2008_18 (fun q => ?_) (fun q => ?_)
    · replace h := h.1 q
      obtain ⟨c5, h⟩ := h
      refine mk_2008_26 c5 rfl ?_
      exact h
    · replace h := h.2 q
      refine mk_2008_24 (bI_b true) ⟨true, rfl, hSG3, h⟩
/-! 2009: failingWithin (LTemplateQuarry$Node;[II)I -/
set_option maxRecDepth 100000 in
theorem w_Fo_failingWithin {G : mj_G} (hS : cs_S G) {d : Nat} {r0 : Nat} {r1 : Nat} {x2 : Int32} {K : Int32 → mj_G → Prop}
    (h : (mj_k G r0 = 6) ∧ mm_br ((mj_i G r0 0) = (nI 42)) (Fo_failingWithin_69 (d + 1) r0 r1 x2 (mj_i G r0 4) (nI 6) G K) (mm_br ((mj_i G r0 0) = (nI 63)) (mm_br ((mj_r G r0 6) = 0) (Fo_failingWithin_69 (d + 1) r0 r1 x2 ((Int32.ofInt (-1))) (nI 0) G K) ((mj_k G (mj_r G r0 6) = 1) ∧ mm_br ((mj_i G (mj_r G r0 6) 0) = (nI 3)) ((mj_k G r1 = 20) ∧ mm_ix (mj_i G (mj_r G r0 6) 1) (mj_l G r1) (fun n4 => Fo_failingWithin_69 (d + 1) r0 r1 x2 (mj_i G (mj_r G r0 6) 1) ((mj_i G r1 n4) &&& ((Int32.ofInt (-2)))) G K)) (Fo_failingWithin_69 (d + 1) r0 r1 x2 ((Int32.ofInt (-1))) (nI 0) G K))) (Fo_failingWithin_69 (d + 1) r0 r1 x2 ((Int32.ofInt (-1))) (nI 0) G K))) : Fo_failingWithin (d + 1) r0 r1 x2 G K := by
  obtain ⟨c1, h⟩ := h
  refine mk_2009_0 c1 rfl (fun q => ?_) (fun q => ?_)
  · replace h := h.2 q
    refine mk_2009_26 c1 rfl (fun q => ?_) (fun q => ?_)
    · replace h := h.2 q
      exact h
    · replace h := h.1 q
      refine mk_2009_35 c1 rfl (fun q => ?_) (fun q => ?_)
      · replace h := h.1 q
        exact h
      · replace h := h.2 q
        obtain ⟨c2, h⟩ := h
        refine mk_2009_42 c1 rfl c2 rfl (fun q => ?_) (fun q => ?_)
        · replace h := h.2 q
          exact h
        · replace h := h.1 q
          obtain ⟨c3, h⟩ := h
          obtain ⟨i5, h⟩ := h
          refine mk_2009_53 c1 rfl c2 rfl c3 i5 rfl ?_
          exact h
  · replace h := h.1 q
    refine mk_2009_14 c1 rfl ?_
    exact h
set_option maxRecDepth 100000 in
theorem w_Fo_failingWithin_69 {G : mj_G} (hS : cs_S G) {d : Nat} {r0 : Nat} {r1 : Nat} {x2 : Int32} {x3 : Int32} {x4 : Int32} {K : Int32 → mj_G → Prop}
    (h : mm_br (x3 < (nI 0)) ((mj_k G r0 = 6) ∧ Fo_firstFailing d (mj_r G r0 8) r1 (x2 + (nI 1)) G (fun v8 G7 => mm_br (v8 = ((Int32.ofInt (-1)))) ((mj_k G7 r0 = 6) ∧ Fo_firstFailing d (mj_r G7 r0 9) r1 (x2 + (nI 1)) G7 (fun v11 G10 => K v11 G10)) (K v8 G7))) ((mj_k G r1 = 20) ∧ mm_ix x3 (mj_l G r1) (fun n13 => (3 ≤ r1) ∧ mm_ix x3 (mj_l G r1) (fun n16 => ∀ G18, G18 = mj_pI G r1 n16 x4 → (mj_k G18 r0 = 6) ∧ Fo_firstFailing d (mj_r G18 r0 8) r1 (x2 + (nI 1)) G18 (fun v21 G20 => (mj_k G20 r1 = 20) ∧ (3 ≤ r1) ∧ mm_ix x3 (mj_l G20 r1) (fun n24 => ∀ G26, G26 = mj_pI G20 r1 n24 (mj_i G r1 n13) → mm_br (v21 = ((Int32.ofInt (-1)))) ((mj_k G26 r0 = 6) ∧ Fo_firstFailing d (mj_r G26 r0 9) r1 (x2 + (nI 1)) G26 (fun v29 G28 => K v29 G28)) (K v21 G26))))))) : Fo_failingWithin_69 (d + 1) r0 r1 x2 x3 x4 G K := by
  refine mk_2009_69 (fun q => ?_) (fun q => ?_)
  · replace h := h.1 q
    obtain ⟨c6, h⟩ := h
    refine mk_2009_104 c6 rfl ?_
    refine mc_2009_112 h (fun v8 G7 e => ?_)
    obtain ⟨hSG7, h⟩ := e
    refine mk_2009_115 ?_
    refine mk_2009_117 (fun q => ?_) (fun q => ?_)
    · replace h := h.1 q
      obtain ⟨c9, h⟩ := h
      refine mk_2009_128 c9 rfl ?_
      refine mc_2009_136 h (fun v11 G10 e => ?_)
      obtain ⟨hSG10, h⟩ := e
      refine mk_2009_139 ⟨_, rfl, hSG10, h⟩
    · replace h := h.2 q
      refine mk_2009_123 ?_
      refine mk_2009_139 ⟨_, rfl, hSG7, h⟩
  · replace h := h.2 q
    obtain ⟨c12, h⟩ := h
    obtain ⟨i14, h⟩ := h
    obtain ⟨c15, h⟩ := h
    obtain ⟨i17, h⟩ := h
    replace h := h _ rfl
    obtain ⟨c19, h⟩ := h
    refine mk_2009_73 c12 i14 rfl c12 c15 i17 rfl c19 rfl ?_
    refine mc_2009_91 h (fun v21 G20 e => ?_)
    obtain ⟨hSG20, h⟩ := e
    obtain ⟨c22, h⟩ := h
    obtain ⟨c23, h⟩ := h
    obtain ⟨i25, h⟩ := h
    replace h := h _ rfl
    refine mk_2009_94 c22 c23 i25 rfl ?_
    refine mk_2009_117 (fun q => ?_) (fun q => ?_)
    · replace h := h.1 q
      obtain ⟨c27, h⟩ := h
      refine mk_2009_128 c27 rfl ?_
      refine mc_2009_136 h (fun v29 G28 e => ?_)
      obtain ⟨hSG28, h⟩ := e
      refine mk_2009_139 ⟨_, rfl, hSG28, h⟩
    · replace h := h.2 q
      refine mk_2009_123 ?_
      refine mk_2009_139 ⟨_, rfl, (cs_pI hSG20), h⟩
/-! 2010: kindsOf (LTemplateQuarry$Expression;[II)I -/
set_option maxRecDepth 100000 in
theorem w_Fo_kindsOf {G : mj_G} (hS : cs_S G) {d : Nat} (hd : 15 ≤ d) {r0 : Nat} {r1 : Nat} {x2 : Int32} {K : Int32 → mj_G → Prop}
    (h : mm_br (r0 = 0) (K (nI 0) G) (mm_br (x2 < (nI 90)) ((mj_k G r0 = 1) ∧ mm_br ((mj_i G r0 0) = nI 1) (K (nI 2) G) (mm_br ((mj_i G r0 0) = nI 2) (K (nI 4) G) (mm_br ((mj_i G r0 0) = nI 3) ((mj_k G r1 = 20) ∧ mm_ix (mj_i G r0 1) (mj_l G r1) (fun n3 => K (mj_i G r1 n3) G)) (mm_br ((mj_i G r0 0) = nI 4) ((mj_k G r1 = 20) ∧ mm_ix (mj_i G r0 1) (mj_l G r1) (fun n6 => K (q_2011 (nI 4) (mj_i G r1 n6)) G)) (Fo_kindsOf d (mj_r G r0 4) r1 (x2 + (nI 1)) G (fun v9 G8 => (mj_k G8 r0 = 1) ∧ mm_br ((mj_r G8 r0 5) = 0) (K ((v9 &&& (nI 16)) ||| (q_2011 (mj_i G8 r0 0) (v9 &&& (nI 15)))) G8) (Fo_kindsOf d (mj_r G8 r0 5) r1 (x2 + (nI 1)) G8 (fun v12 G11 => (mj_k G11 r0 = 1) ∧ K (((v9 ||| v12) &&& (nI 16)) ||| (q_2013 (mj_i G11 r0 0) (v9 &&& (nI 15)) (v12 &&& (nI 15)))) G11)))))))) (K (nI 0) G))) : Fo_kindsOf (d + 1) r0 r1 x2 G K := by
  obtain ⟨e, rfl⟩ : ∃ e, d = e + 15 := ⟨d - 15, (Nat.sub_add_cancel hd).symm⟩
  refine mk_2010_0 (fun q => ?_) (fun q => ?_)
  · replace h := h.1 q
    refine mk_2010_10 ⟨_, rfl, hS, h⟩
  · replace h := h.2 q
    refine mk_2010_4 (fun q => ?_) (fun q => ?_)
    · replace h := h.1 q
      obtain ⟨c1, h⟩ := h
      refine mk_2010_12 c1 rfl (fun q => ?_) (fun q => ?_) (fun q => ?_) (fun q => ?_) (fun n1 n2 n3 n4 => ?_)
      · replace h := h.1 q
        refine mk_2010_48 ⟨_, rfl, hS, h⟩
      · replace h := (h.2 (fun e => absurd (e.symm.trans q) (by decide))).1 q
        refine mk_2010_50 ⟨_, rfl, hS, h⟩
      · replace h := ((h.2 (fun e => absurd (e.symm.trans q) (by decide))).2 (fun e => absurd (e.symm.trans q) (by decide))).1 q
        obtain ⟨c2, h⟩ := h
        obtain ⟨i4, h⟩ := h
        refine mk_2010_52 c1 rfl c2 i4 rfl ⟨_, rfl, hS, h⟩
      · replace h := (((h.2 (fun e => absurd (e.symm.trans q) (by decide))).2 (fun e => absurd (e.symm.trans q) (by decide))).2 (fun e => absurd (e.symm.trans q) (by decide))).1 q
        obtain ⟨c5, h⟩ := h
        obtain ⟨i7, h⟩ := h
        refine mk_2010_59 c1 rfl c5 i7 rfl ?_
        refine mc_2010_66 (q_2011_c _ _ _) (fun v G1 e => ?_)
        obtain ⟨rfl, rfl⟩ := e
        refine mk_2010_69 ⟨_, rfl, hS, h⟩
      · replace h := ((((h.2 n1).2 n2).2 n3).2 n4)
        refine mk_2010_70 c1 rfl ?_
        refine mc_2010_78 h (fun v9 G8 e => ?_)
        obtain ⟨hSG8, h⟩ := e
        obtain ⟨c10, h⟩ := h
        refine mk_2010_81 c10 rfl (fun q => ?_) (fun q => ?_)
        · replace h := h.2 q
          refine mk_2010_106 c10 rfl ?_
          refine mc_2010_114 h (fun v12 G11 e => ?_)
          obtain ⟨hSG11, h⟩ := e
          obtain ⟨c13, h⟩ := h
          refine mk_2010_117 c13 rfl ?_
          refine mc_2010_139 (q_2013_c _ _ _ _) (fun v G1 e => ?_)
          obtain ⟨rfl, rfl⟩ := e
          refine mk_2010_142 ⟨_, rfl, hSG11, h⟩
        · replace h := h.1 q
          refine mk_2010_89 c10 rfl ?_
          refine mc_2010_101 (q_2011_c _ _ _) (fun v G1 e => ?_)
          obtain ⟨rfl, rfl⟩ := e
          refine mk_2010_104 ⟨_, rfl, hSG8, h⟩
    · replace h := h.2 q
      refine mk_2010_10 ⟨_, rfl, hS, h⟩
/-! 6001: begin ()V -/
theorem w_Ou_begin {G : mj_G} (hS : cs_S G) {d : Nat} {K : mj_G → Prop}
    (h : ∀ G1, G1 = mj_pR G 1589 2 (mj_r G 1589 0) → ∀ G2, G2 = mj_pI G1 1589 3 (mj_i G1 1589 1) → ∀ G3, G3 = mj_pR G2 1589 0 (mj_r G 1589 2) → Ou_empty d  G3 (fun G4 => K G4)) : Ou_begin (d + 1) G K := by
  replace h := h _ rfl
  replace h := h _ rfl
  replace h := h _ rfl
  have k0 : mj_k G 1589 = 7 := cs_k hS rfl
  have hS1 : cs_S (mj_pR G 1589 2 (mj_r G 1589 0)) := cs_pR (K := 7) hS k0 rfl
  have hS3 : cs_S (mj_pR (mj_pI (mj_pR G 1589 2 (mj_r G 1589 0)) 1589 3 (mj_i (mj_pR G 1589 2 (mj_r G 1589 0)) 1589 1)) 1589 0 (mj_r G 1589 2)) := cs_pR (K := 7) (cs_pI hS1) k0 rfl
  refine mk_6001_0 k0 rfl k0 rfl k0 rfl k0 rfl k0 rfl k0 rfl ?_
  refine mc_6001_27 k0 h (fun G4 e => ?_)
  obtain ⟨hSG4, h⟩ := e
  refine mk_6001_30 ⟨rfl, hSG4, h⟩
/-! 6002: empty ()V -/
theorem w_Ou_empty {G : mj_G} (hS : cs_S G) {d : Nat} {K : mj_G → Prop}
    (h : ∀ G1, G1 = mj_pI G 1589 1 (nI 0) → ∀ G2, G2 = mj_pI G1 1589 5 (nI 0) → K G2) : Ou_empty d G K := by
  replace h := h _ rfl
  replace h := h _ rfl
  refine mk_6002_0 (cs_k hS rfl) rfl (cs_k (cs_pI hS) rfl) (bI_b false) rfl ⟨rfl, (cs_pI (cs_pI hS)), h⟩
/-! 6003: put (I)I -/
theorem w_Ou_put {G : mj_G} (hS : cs_S G) {d : Nat} (hd : 15 ≤ d) {x1 : Int32} {K : Int32 → mj_G → Prop}
    (h : mm_br ((mj_i G 1589 1) < (nI 300)) ((mj_k G (mj_r G 1589 0) = 20) ∧ (3 ≤ (mj_r G 1589 0)) ∧ mm_ix (mj_i G 1589 1) (mj_l G (mj_r G 1589 0)) (fun n3 => ∀ G5, G5 = mj_pI G (mj_r G 1589 0) n3 x1 → mm_ix (mj_i G5 1589 1) 301 (fun n6 => mm_ix ((mj_i G5 1589 1) + (nI 1)) 301 (fun n8 => ∀ G10, G10 = mj_pI G5 1592 n8 (q_12033 (mj_i G5 1592 n6) (q_12040 x1)) → ∀ G11, G11 = mj_pI G10 1589 1 ((mj_i G10 1589 1) + (nI 1)) → ∀ G12, G12 = mj_pI G11 1589 5 (nI 0) → K (nI 0) G12)))) (K ((Int32.ofInt (-10))) G)) : Ou_put (d + 1) x1 G K := by
  obtain ⟨e, rfl⟩ : ∃ e, d = e + 15 := ⟨d - 15, (Nat.sub_add_cancel hd).symm⟩
  refine mk_6003_0 (cs_k hS rfl) rfl (fun q => ?_) (fun q => ?_)
  · replace h := h.1 q
    obtain ⟨c1, h⟩ := h
    obtain ⟨c2, h⟩ := h
    obtain ⟨i4, h⟩ := h
    replace h := h _ rfl
    obtain ⟨i7, h⟩ := h
    refine mk_6003_13 (cs_k hS rfl) rfl (cs_k hS rfl) rfl c1 c2 i4 rfl (cs_k (cs_pI hS) rfl) (cs_r (v := 1592) (cs_pI hS) rfl) (cs_k (cs_pI hS) rfl) rfl (cs_k (cs_pI hS) rfl) (cs_r (v := 1592) (cs_pI hS) rfl) (cs_k (cs_pI hS) rfl) rfl (cs_k (cs_pI hS) rfl) (mm_v (cs_l (N := 301) (cs_pI hS) rfl) i7) rfl ?_
    refine mc_6003_43 (q_12040_c _ _) (fun v G1 e => ?_)
    obtain ⟨rfl, rfl⟩ := e
    refine mc_6003_46 (q_12033_c _ _ _) (fun v G1 e => ?_)
    obtain ⟨rfl, rfl⟩ := e
    obtain ⟨i9, h⟩ := h
    replace h := h _ rfl
    replace h := h _ rfl
    replace h := h _ rfl
    refine mk_6003_49 (cs_k (cs_pI hS) rfl) (by decide) (mm_v (cs_l (N := 301) (cs_pI hS) rfl) i9) rfl (cs_k (cs_pI (cs_pI hS)) rfl) rfl (cs_k (cs_pI (cs_pI hS)) rfl) rfl (cs_k (cs_pI (cs_pI (cs_pI hS))) rfl) (bI_b false) rfl ⟨_, rfl, (cs_pI (cs_pI (cs_pI (cs_pI hS)))), h⟩
  · replace h := h.2 q
    refine mk_6003_10 ⟨_, rfl, hS, h⟩
/-! 6004: putLiteral (CI)I -/
theorem w_Ou_putLiteral {G : mj_G} (hS : cs_S G) {d : Nat} (hd : 15 ≤ d) {x1 : Int32} {x2 : Int32} {K : Int32 → mj_G → Prop}
    (h : mm_br ((mj_i G 1589 5) = (nI 0)) (Ou_put d (q_12037 x1 x2) G (fun v2 G1 => K v2 G1)) (mm_br (x1 = (nI 32)) (K (nI 0) G) (Ou_put d (q_12037 x1 x2) G (fun v4 G3 => K v4 G3)))) : Ou_putLiteral (d + 1) x1 x2 G K := by
  obtain ⟨e, rfl⟩ : ∃ e, d = e + 15 := ⟨d - 15, (Nat.sub_add_cancel hd).symm⟩
  refine mk_6004_0 (cs_k hS rfl) rfl (fun q => ?_) (fun q => ?_)
  · replace h := h.1 q
    refine mk_6004_17 ?_
    refine mc_6004_20 (q_12037_c _ _ _) (fun v G1 e => ?_)
    obtain ⟨rfl, rfl⟩ := e
    refine mc_6004_23 (cs_k hS rfl) h (fun v2 G1 e => ?_)
    obtain ⟨hSG1, h⟩ := e
    refine mk_6004_26 ⟨_, rfl, hSG1, h⟩
  · replace h := h.2 q
    refine mk_6004_7 (fun q => ?_) (fun q => ?_)
    · replace h := h.2 q
      refine mk_6004_17 ?_
      refine mc_6004_20 (q_12037_c _ _ _) (fun v G1 e => ?_)
      obtain ⟨rfl, rfl⟩ := e
      refine mc_6004_23 (cs_k hS rfl) h (fun v4 G3 e => ?_)
      obtain ⟨hSG3, h⟩ := e
      refine mk_6004_26 ⟨_, rfl, hSG3, h⟩
    · replace h := h.1 q
      refine mk_6004_13 ?_
      refine mk_6004_26 ⟨_, rfl, hS, h⟩
/-! 6005: putValue (LTemplateQuarry$Value;I)I -/
theorem w_Ou_putValue {G : mj_G} (hS : cs_S G) {d : Nat} {r1 : Nat} {x2 : Int32} {K : Int32 → mj_G → Prop}
    (h : (mj_k G r1 = 12) ∧ mm_br ((mj_i G r1 0) = nI 1) (K ((Int32.ofInt (-2))) G) (mm_br ((mj_i G r1 0) = nI 2) (Tq_writeDigits d (mj_i G r1 1) 1593 (nI 0) G (fun v3 G2 => Ou_putSafe d 1593 v3 x2 G2 (fun v5 G4 => K v5 G4))) (mm_br ((mj_i G r1 0) = nI 3) (K ((Int32.ofInt (-3))) G) (mm_br ((mj_i G r1 0) = nI 4) (mm_br ((mj_i G r1 2) = (nI 0)) (Ou_putEscaped d r1 x2 G (fun v7 G6 => K v7 G6)) (Ou_putSafe d (mj_r G r1 3) (mj_i G r1 4) x2 G (fun v9 G8 => K v9 G8))) (K ((Int32.ofInt (-3))) G))))) : Ou_putValue (d + 1) r1 x2 G K := by
  obtain ⟨c1, h⟩ := h
  refine mk_6005_0 c1 rfl (fun q => ?_) (fun q => ?_) (fun q => ?_) (fun q => ?_) (fun n1 n2 n3 n4 => ?_)
  · replace h := h.1 q
    refine mk_6005_88 ⟨_, rfl, hS, h⟩
  · replace h := (h.2 (fun e => absurd (e.symm.trans q) (by decide))).1 q
    refine mk_6005_36 (cs_k hS rfl) (cs_r (v := 1593) hS rfl) c1 rfl (cs_k hS rfl) (cs_r (v := 1593) hS rfl) ?_
    refine mc_6005_50 h (fun v3 G2 e => ?_)
    obtain ⟨hSG2, h⟩ := e
    refine mk_6005_53 ?_
    refine mc_6005_54 (cs_k hSG2 rfl) h (fun v5 G4 e => ?_)
    obtain ⟨hSG4, h⟩ := e
    refine mk_6005_57 ⟨_, rfl, hSG4, h⟩
  · replace h := ((h.2 (fun e => absurd (e.symm.trans q) (by decide))).2 (fun e => absurd (e.symm.trans q) (by decide))).1 q
    refine mk_6005_91 ⟨_, rfl, hS, h⟩
  · replace h := (((h.2 (fun e => absurd (e.symm.trans q) (by decide))).2 (fun e => absurd (e.symm.trans q) (by decide))).2 (fun e => absurd (e.symm.trans q) (by decide))).1 q
    refine mk_6005_58 c1 rfl (fun q => ?_) (fun q => ?_)
    · replace h := h.1 q
      refine mk_6005_81 ?_
      refine mc_6005_84 (cs_k hS rfl) h (fun v7 G6 e => ?_)
      obtain ⟨hSG6, h⟩ := e
      refine mk_6005_87 ⟨_, rfl, hSG6, h⟩
    · replace h := h.2 q
      refine mk_6005_65 c1 rfl c1 rfl ?_
      refine mc_6005_75 (cs_k hS rfl) h (fun v9 G8 e => ?_)
      obtain ⟨hSG8, h⟩ := e
      refine mk_6005_78 ?_
      refine mk_6005_87 ⟨_, rfl, hSG8, h⟩
  · replace h := ((((h.2 n1).2 n2).2 n3).2 n4)
    refine mk_6005_91 ⟨_, rfl, hS, h⟩
/-! 6006: putSafe ([CII)I -/
theorem w_Ou_putSafe {G : mj_G} (hS : cs_S G) {d : Nat} {r1 : Nat} {x2 : Int32} {x3 : Int32} {K : Int32 → mj_G → Prop}
    (h : Ou_putSafe_3 (d + 1) r1 x2 x3 (nI 0) G K) : Ou_putSafe (d + 1) r1 x2 x3 G K := by
  refine mk_6006_0 ?_
  exact h
theorem w_Ou_putSafe_3 {G : mj_G} (hS : cs_S G) {d : Nat} (hd : 15 ≤ d) {r1 : Nat} {x2 : Int32} {x3 : Int32} {x4 : Int32} {K : Int32 → mj_G → Prop}
    (h : mm_br (x2 ≤ x4) (K (nI 0) G) ((20 ≤ mj_k G r1) ∧ mm_br ((nI (mj_l G r1)) ≤ x4) (K (nI 0) G) ((mj_k G r1 = 22) ∧ mm_ix x4 (mj_l G r1) (fun n3 => Ou_put d (q_12038 (mj_i G r1 n3) x3) G (fun v6 G5 => mm_br (v6 = (nI 0)) (Ou_putSafe_3 (d + 1) r1 x2 x3 (x4 + nI 1) G5 K) (K v6 G5)))))) : Ou_putSafe_3 (d + 1) r1 x2 x3 x4 G K := by
  obtain ⟨e, rfl⟩ : ∃ e, d = e + 15 := ⟨d - 15, (Nat.sub_add_cancel hd).symm⟩
  refine mk_6006_3 (fun q => ?_) (fun q => ?_)
  · replace h := h.1 q
    refine mk_6006_44 ⟨_, rfl, hS, h⟩
  · replace h := h.2 q
    obtain ⟨c1, h⟩ := h
    refine mk_6006_9 c1 rfl (fun q => ?_) (fun q => ?_)
    · replace h := h.1 q
      refine mk_6006_44 ⟨_, rfl, hS, h⟩
    · replace h := h.2 q
      obtain ⟨c2, h⟩ := h
      obtain ⟨i4, h⟩ := h
      refine mk_6006_16 c2 i4 rfl ?_
      refine mc_6006_22 (q_12038_c _ _ _) (fun v G1 e => ?_)
      obtain ⟨rfl, rfl⟩ := e
      refine mc_6006_25 (cs_k hS rfl) h (fun v6 G5 e => ?_)
      obtain ⟨hSG5, h⟩ := e
      refine mk_6006_28 (fun q => ?_) (fun q => ?_)
      · replace h := h.1 q
        refine mk_6006_38 ?_
        exact h
      · replace h := h.2 q
        refine mk_6006_35 ⟨_, rfl, hSG5, h⟩
/-! 6007: putEscaped (LTemplateQuarry$Value;I)I -/
theorem w_Ou_putEscaped {G : mj_G} (hS : cs_S G) {d : Nat} {r1 : Nat} {x2 : Int32} {K : Int32 → mj_G → Prop}
    (h : Ou_putEscaped_2 (d + 1) r1 x2 (nI 0) G K) : Ou_putEscaped (d + 1) r1 x2 G K := by
  refine mk_6007_0 ?_
  exact h
theorem w_Ou_putEscaped_2 {G : mj_G} (hS : cs_S G) {d : Nat} (hd : 15 ≤ d) {r1 : Nat} {x2 : Int32} {x3 : Int32} {K : Int32 → mj_G → Prop}
    (h : (mj_k G r1 = 12) ∧ mm_br ((mj_i G r1 4) ≤ x3) (K (nI 0) G) ((mj_k G (mj_r G r1 3) = 22) ∧ mm_ix x3 (mj_l G (mj_r G r1 3)) (fun n3 => mm_ix (mj_i G 1589 1) 301 (fun n5 => Ou_putEscaped_41 (d + 1) r1 x2 x3 (mj_i G (mj_r G r1 3) n3) (mj_i G 1592 n5) (q_12034 (mj_i G (mj_r G r1 3) n3) (mj_i G 1592 n5)) (nI 0) G K)))) : Ou_putEscaped_2 (d + 1) r1 x2 x3 G K := by
  obtain ⟨e, rfl⟩ : ∃ e, d = e + 15 := ⟨d - 15, (Nat.sub_add_cancel hd).symm⟩
  obtain ⟨c1, h⟩ := h
  refine mk_6007_2 c1 rfl (fun q => ?_) (fun q => ?_)
  · replace h := h.1 q
    refine mk_6007_91 ⟨_, rfl, hS, h⟩
  · replace h := h.2 q
    obtain ⟨c2, h⟩ := h
    obtain ⟨i4, h⟩ := h
    obtain ⟨i6, h⟩ := h
    refine mk_6007_10 c1 rfl c2 i4 rfl (cs_k hS rfl) (cs_r (v := 1592) hS rfl) (cs_k hS rfl) rfl (cs_k hS rfl) (mm_v (cs_l (N := 301) hS rfl) i6) rfl ?_
    refine mc_6007_33 (q_12034_c _ _ _) (fun v G1 e => ?_)
    obtain ⟨rfl, rfl⟩ := e
    refine mk_6007_36 ?_
    exact h
theorem w_Ou_putEscaped_41 {G : mj_G} (hS : cs_S G) {d : Nat} (hd : 15 ≤ d) {r1 : Nat} {x2 : Int32} {x3 : Int32} {x4 : Int32} {x5 : Int32} {x6 : Int32} {x7 : Int32} {K : Int32 → mj_G → Prop}
    (h : mm_br (x6 ≤ x7) (Ou_putEscaped_2 (d + 1) r1 x2 (x3 + nI 1) G K) (Tq_escaped d x4 x5 x7 G (fun v8 G7 => Ou_put d (q_12039 v8 x4 x7 x2) G7 (fun v10 G9 => mm_br (v10 = (nI 0)) (Ou_putEscaped_41 (d + 1) r1 x2 x3 x4 x5 x6 (x7 + nI 1) G9 K) (K v10 G9))))) : Ou_putEscaped_41 (d + 1) r1 x2 x3 x4 x5 x6 x7 G K := by
  obtain ⟨e, rfl⟩ : ∃ e, d = e + 15 := ⟨d - 15, (Nat.sub_add_cancel hd).symm⟩
  refine mk_6007_41 (fun q => ?_) (fun q => ?_)
  · replace h := h.1 q
    refine mk_6007_85 ?_
    exact h
  · replace h := h.2 q
    refine mk_6007_48 ?_
    refine mc_6007_55 h (fun v8 G7 e => ?_)
    obtain ⟨hSG7, h⟩ := e
    refine mk_6007_58 ?_
    refine mc_6007_63 (q_12039_c _ _ _ _ _) (fun v G1 e => ?_)
    obtain ⟨rfl, rfl⟩ := e
    refine mc_6007_66 (cs_k hSG7 rfl) h (fun v10 G9 e => ?_)
    obtain ⟨hSG9, h⟩ := e
    refine mk_6007_69 (fun q => ?_) (fun q => ?_)
    · replace h := h.1 q
      refine mk_6007_79 ?_
      exact h
    · replace h := h.2 q
      refine mk_6007_76 ⟨_, rfl, hSG9, h⟩
/-! 6008: putForm (LTemplateQuarry$Value;II)I -/
theorem w_Ou_putForm {G : mj_G} (hS : cs_S G) {d : Nat} {r1 : Nat} {x2 : Int32} {x3 : Int32} {K : Int32 → mj_G → Prop}
    (h : Tq_writeDigits d x2 1593 (nI 0) G (fun v2 G1 => Ou_putForm_14 (d + 1) r1 x3 v2 (nI 0) G1 K)) : Ou_putForm (d + 1) r1 x2 x3 G K := by
  refine mk_6008_0 (cs_k hS rfl) (cs_r (v := 1593) hS rfl) ?_
  refine mc_6008_6 h (fun v2 G1 e => ?_)
  obtain ⟨hSG1, h⟩ := e
  refine mk_6008_9 ?_
  exact h
theorem w_Ou_putForm_14 {G : mj_G} (hS : cs_S G) {d : Nat} (hd : 15 ≤ d) {r1 : Nat} {x3 : Int32} {x4 : Int32} {x5 : Int32} {K : Int32 → mj_G → Prop}
    (h : (mj_k G r1 = 12) ∧ mm_br ((mj_i G r1 4) ≤ x5) (K (nI 0) G) ((mj_k G (mj_r G r1 3) = 22) ∧ mm_ix x5 (mj_l G (mj_r G r1 3)) (fun n5 => mm_br ((mj_i G (mj_r G r1 3) n5) = (nI 35)) (Ou_putSafe d 1593 x4 x3 G (fun v10 G9 => mm_br (v10 = (nI 0)) (Ou_putForm_14 (d + 1) r1 x3 x4 (x5 + nI 1) G9 K) (K v10 G9))) (Ou_put d (q_12038 (mj_i G (mj_r G r1 3) n5) x3) G (fun v8 G7 => mm_br (v8 = (nI 0)) (Ou_putForm_14 (d + 1) r1 x3 x4 (x5 + nI 1) G7 K) (K v8 G7)))))) : Ou_putForm_14 (d + 1) r1 x3 x4 x5 G K := by
  obtain ⟨e, rfl⟩ : ∃ e, d = e + 15 := ⟨d - 15, (Nat.sub_add_cancel hd).symm⟩
  obtain ⟨c3, h⟩ := h
  refine mk_6008_14 c3 rfl (fun q => ?_) (fun q => ?_)
  · replace h := h.1 q
    refine mk_6008_79 ⟨_, rfl, hS, h⟩
  · replace h := h.2 q
    obtain ⟨c4, h⟩ := h
    obtain ⟨i6, h⟩ := h
    refine mk_6008_23 c3 rfl c4 i6 rfl (fun q => ?_) (fun q => ?_)
    · replace h := h.2 q
      refine mk_6008_53 ?_
      refine mc_6008_57 (q_12038_c _ _ _) (fun v G1 e => ?_)
      obtain ⟨rfl, rfl⟩ := e
      refine mc_6008_60 (cs_k hS rfl) h (fun v8 G7 e => ?_)
      obtain ⟨hSG7, h⟩ := e
      refine mk_6008_63 (fun q => ?_) (fun q => ?_)
      · replace h := h.1 q
        refine mk_6008_73 ?_
        exact h
      · replace h := h.2 q
        refine mk_6008_70 ⟨_, rfl, hSG7, h⟩
    · replace h := h.1 q
      refine mk_6008_39 (cs_k hS rfl) (cs_r (v := 1593) hS rfl) ?_
      refine mc_6008_47 (cs_k hS rfl) h (fun v10 G9 e => ?_)
      obtain ⟨hSG9, h⟩ := e
      refine mk_6008_50 ?_
      refine mk_6008_63 (fun q => ?_) (fun q => ?_)
      · replace h := h.1 q
        refine mk_6008_73 ?_
        exact h
      · replace h := h.2 q
        refine mk_6008_70 ⟨_, rfl, hSG9, h⟩
/-! 6009: putCells ([II)I -/
theorem w_Ou_putCells {G : mj_G} (hS : cs_S G) {d : Nat} {r1 : Nat} {x2 : Int32} {K : Int32 → mj_G → Prop}
    (h : Ou_putCells_2 (d + 1) r1 x2 (nI 0) G K) : Ou_putCells (d + 1) r1 x2 G K := by
  refine mk_6009_0 ?_
  exact h
theorem w_Ou_putCells_2 {G : mj_G} (hS : cs_S G) {d : Nat} {r1 : Nat} {x2 : Int32} {x3 : Int32} {K : Int32 → mj_G → Prop}
    (h : mm_br (x2 ≤ x3) (K (nI 0) G) ((20 ≤ mj_k G r1) ∧ mm_br ((nI (mj_l G r1)) ≤ x3) (K (nI 0) G) ((mj_k G r1 = 20) ∧ mm_ix x3 (mj_l G r1) (fun n3 => Ou_put d (mj_i G r1 n3) G (fun v6 G5 => mm_br (v6 = (nI 0)) (Ou_putCells_2 (d + 1) r1 x2 (x3 + nI 1) G5 K) (K v6 G5)))))) : Ou_putCells_2 (d + 1) r1 x2 x3 G K := by
  refine mk_6009_2 (fun q => ?_) (fun q => ?_)
  · replace h := h.1 q
    refine mk_6009_36 ⟨_, rfl, hS, h⟩
  · replace h := h.2 q
    obtain ⟨c1, h⟩ := h
    refine mk_6009_7 c1 rfl (fun q => ?_) (fun q => ?_)
    · replace h := h.1 q
      refine mk_6009_36 ⟨_, rfl, hS, h⟩
    · replace h := h.2 q
      obtain ⟨c2, h⟩ := h
      obtain ⟨i4, h⟩ := h
      refine mk_6009_13 c2 i4 rfl ?_
      refine mc_6009_17 (cs_k hS rfl) h (fun v6 G5 e => ?_)
      obtain ⟨hSG5, h⟩ := e
      refine mk_6009_20 (fun q => ?_) (fun q => ?_)
      · replace h := h.1 q
        refine mk_6009_30 ?_
        exact h
      · replace h := h.2 q
        refine mk_6009_27 ⟨_, rfl, hSG5, h⟩
/-! 6010: trim ()V -/
theorem w_Ou_trim {G : mj_G} (hS : cs_S G) {d : Nat} {K : mj_G → Prop}
    (h : Ou_literalBlanks d  G (fun v2 G1 => ∀ G3, G3 = mj_pI G1 1589 1 ((mj_i G 1589 1) - v2) → ∀ G4, G4 = mj_pI G3 1589 5 (nI 1) → K G4)) : Ou_trim (d + 1) G K := by
  refine mk_6010_0 (cs_k hS rfl) rfl ?_
  refine mc_6010_6 (cs_k hS rfl) h (fun v2 G1 e => ?_)
  obtain ⟨hSG1, h⟩ := e
  replace h := h _ rfl
  replace h := h _ rfl
  refine mk_6010_9 (cs_k hSG1 rfl) rfl (cs_k (cs_pI hSG1) rfl) (bI_b true) rfl ⟨rfl, (cs_pI (cs_pI hSG1)), h⟩
/-! 6011: literalBlanks ()I -/
theorem w_Ou_literalBlanks {G : mj_G} (hS : cs_S G) {d : Nat} {K : Int32 → mj_G → Prop}
    (h : Ou_literalBlanks_9 (d + 1) (nI 0) ((mj_i G 1589 1) - (nI 1)) G K) : Ou_literalBlanks (d + 1) G K := by
  refine mk_6011_0 (cs_k hS rfl) rfl ?_
  exact h
theorem w_Ou_literalBlanks_9 {G : mj_G} (hS : cs_S G) {d : Nat} (hd : 15 ≤ d) {x1 : Int32} {x2 : Int32} {K : Int32 → mj_G → Prop}
    (h : mm_br (x2 < (nI 0)) (K x1 G) ((mj_k G (mj_r G 1589 0) = 20) ∧ mm_ix x2 (mj_l G (mj_r G 1589 0)) (fun n2 => mm_br (qb (q_12042 (mj_i G (mj_r G 1589 0) n2)) = true) (Ou_literalBlanks_9 (d + 1) (x1 + nI 1) (x2 + (Int32.ofInt (-1))) G K) (K x1 G)))) : Ou_literalBlanks_9 (d + 1) x1 x2 G K := by
  obtain ⟨e, rfl⟩ : ∃ e, d = e + 15 := ⟨d - 15, (Nat.sub_add_cancel hd).symm⟩
  refine mk_6011_9 (fun q => ?_) (fun q => ?_)
  · replace h := h.1 q
    refine mk_6011_34 ⟨_, rfl, hS, h⟩
  · replace h := h.2 q
    obtain ⟨c1, h⟩ := h
    obtain ⟨i3, h⟩ := h
    refine mk_6011_13 (cs_k hS rfl) rfl c1 i3 rfl ?_
    refine mc_6011_19 (q_bc (q_12042_c _ _) (q_12042_b _)) (fun v G1 e => ?_)
    obtain ⟨rfl, rfl⟩ := e
    refine mk_6011_22 (fun q => ?_) (fun q => ?_)
    · replace h := h.2 (bI_z q)
      refine mk_6011_34 ⟨_, rfl, hS, h⟩
    · replace h := h.1 (bI_n q)
      refine mk_6011_25 ?_
      exact h
/-! 6012: mark (LTemplateQuarry$Frame;)V -/
theorem w_Ou_mark {G : mj_G} (hS : cs_S G) {d : Nat} {r1 : Nat} {K : mj_G → Prop}
    (h : (mj_k G r1 = 5) ∧ ∀ G2, G2 = mj_pI G r1 15 (mj_i G 1589 1) → (mj_b (mj_i G2 1589 5)) ∧ ∀ G4, G4 = mj_pI G2 r1 16 (mj_i G2 1589 5) → K G4) : Ou_mark d r1 G K := by
  obtain ⟨c1, h⟩ := h
  replace h := h _ rfl
  obtain ⟨c3, h⟩ := h
  replace h := h _ rfl
  refine mk_6012_0 (cs_k hS rfl) rfl c1 rfl (cs_k (cs_pI hS) rfl) rfl c1 c3 rfl ⟨rfl, (cs_pI (cs_pI hS)), h⟩
/-! 6013: markToRestore (LTemplateQuarry$Frame;)V -/
theorem w_Ou_markToRestore {G : mj_G} (hS : cs_S G) {d : Nat} {r1 : Nat} {K : mj_G → Prop}
    (h : Ou_mark d r1 G (fun G1 => Ou_literalBlanks d  G1 (fun v3 G2 => (mj_k G2 r1 = 5) ∧ ∀ G5, G5 = mj_pI G2 r1 17 v3 → Fm_rowOfBlanks d r1 G5 (fun v7 G6 => mm_cpy G6 (mj_r G5 1589 0) ((mj_i G5 1589 1) - v3) v7 (nI 0) v3 (fun n8 n9 n10 => ∀ G20, G20 = mj_cp G6 (mj_r G5 1589 0) n8 v7 n9 n10 → K G20))))) : Ou_markToRestore (d + 1) r1 G K := by
  refine mk_6013_0 ?_
  refine mc_6013_2 (cs_k hS rfl) h (fun G1 e => ?_)
  obtain ⟨hSG1, h⟩ := e
  refine mk_6013_5 ?_
  refine mc_6013_6 (cs_k hSG1 rfl) h (fun v3 G2 e => ?_)
  obtain ⟨hSG2, h⟩ := e
  obtain ⟨c4, h⟩ := h
  replace h := h _ rfl
  refine mk_6013_9 c4 rfl (cs_k (cs_pI hSG2) rfl) rfl (cs_k (cs_pI hSG2) rfl) rfl ?_
  refine mc_6013_26 c4 h (fun v7 G6 e => ?_)
  obtain ⟨hSG6, h⟩ := e
  obtain ⟨c11, c12, c13, c14, c15, c16, c17, c18, c19, h⟩ := h
  replace h := h _ rfl
  refine mk_6013_29 c11 c12 c13 c14 c15 c16 c17 c18 c19 rfl ⟨rfl, (cs_cp hSG6), h⟩
/-! 6014: restore (LTemplateQuarry$Frame;)V -/
theorem w_Ou_restore {G : mj_G} (hS : cs_S G) {d : Nat} {r1 : Nat} {K : mj_G → Prop}
    (h : (mj_k G r1 = 5) ∧ ∀ G2, G2 = mj_pI G 1589 1 ((mj_i G r1 15) - (mj_i G r1 17)) → Fm_rowOfBlanks d r1 G2 (fun v4 G3 => (mj_k G3 r1 = 5) ∧ Ou_putCells d v4 (mj_i G3 r1 17) G3 (fun v7 G6 => (mj_k G6 r1 = 5) ∧ (mj_b (mj_i G6 r1 16)) ∧ ∀ G10, G10 = mj_pI G6 1589 5 (mj_i G6 r1 16) → K G10))) : Ou_restore (d + 1) r1 G K := by
  obtain ⟨c1, h⟩ := h
  replace h := h _ rfl
  refine mk_6014_0 c1 rfl c1 rfl (cs_k hS rfl) rfl ?_
  refine mc_6014_15 c1 h (fun v4 G3 e => ?_)
  obtain ⟨hSG3, h⟩ := e
  obtain ⟨c5, h⟩ := h
  refine mk_6014_18 c5 rfl ?_
  refine mc_6014_22 (cs_k hSG3 rfl) h (fun v7 G6 e => ?_)
  obtain ⟨hSG6, h⟩ := e
  obtain ⟨c8, h⟩ := h
  obtain ⟨c9, h⟩ := h
  replace h := h _ rfl
  refine mk_6014_25 c8 rfl (cs_k hSG6 rfl) c9 rfl ⟨rfl, (cs_pI hSG6), h⟩
/-! 6015: alikeAhead ()I -/
theorem w_Ou_alikeAhead {G : mj_G} (hS : cs_S G) {d : Nat} {K : Int32 → mj_G → Prop}
    (h : Ou_alikeAhead_14 (d + 1) (mj_mn (mj_i G 1589 1) (mj_i G 1589 3)) (nI 0) G K) : Ou_alikeAhead (d + 1) G K := by
  refine mk_6015_0 (cs_k hS rfl) rfl (cs_k hS rfl) rfl ?_
  exact h
theorem w_Ou_alikeAhead_14 {G : mj_G} (hS : cs_S G) {d : Nat} (hd : 15 ≤ d) {x1 : Int32} {x2 : Int32} {K : Int32 → mj_G → Prop}
    (h : mm_br (x1 ≤ x2) (K x1 G) ((mj_k G (mj_r G 1589 0) = 20) ∧ mm_ix x2 (mj_l G (mj_r G 1589 0)) (fun n2 => (mj_k G (mj_r G 1589 2) = 20) ∧ mm_ix x2 (mj_l G (mj_r G 1589 2)) (fun n5 => mm_br ((q_12040 (mj_i G (mj_r G 1589 0) n2)) = (q_12040 (mj_i G (mj_r G 1589 2) n5))) (Ou_alikeAhead_14 (d + 1) x1 (x2 + nI 1) G K) (K x2 G))))) : Ou_alikeAhead_14 (d + 1) x1 x2 G K := by
  obtain ⟨e, rfl⟩ : ∃ e, d = e + 15 := ⟨d - 15, (Nat.sub_add_cancel hd).symm⟩
  refine mk_6015_14 (fun q => ?_) (fun q => ?_)
  · replace h := h.1 q
    refine mk_6015_48 ⟨_, rfl, hS, h⟩
  · replace h := h.2 q
    obtain ⟨c1, h⟩ := h
    obtain ⟨i3, h⟩ := h
    refine mk_6015_19 (cs_k hS rfl) rfl c1 i3 rfl ?_
    refine mc_6015_25 (q_12040_c _ _) (fun v G1 e => ?_)
    obtain ⟨rfl, rfl⟩ := e
    obtain ⟨c4, h⟩ := h
    obtain ⟨i6, h⟩ := h
    refine mk_6015_28 (cs_k hS rfl) rfl c4 i6 rfl ?_
    refine mc_6015_34 (q_12040_c _ _) (fun v G1 e => ?_)
    obtain ⟨rfl, rfl⟩ := e
    refine mk_6015_37 (fun q => ?_) (fun q => ?_)
    · replace h := h.1 q
      refine mk_6015_42 ?_
      exact h
    · replace h := h.2 q
      refine mk_6015_40 ⟨_, rfl, hS, h⟩
/-! 6016: alikeBehind ()I -/
theorem w_Ou_alikeBehind {G : mj_G} (hS : cs_S G) {d : Nat} {K : Int32 → mj_G → Prop}
    (h : Ou_alikeAhead d  G (fun v2 G1 => Ou_alikeBehind_19 (d + 1) ((mj_mn (mj_i G 1589 1) (mj_i G 1589 3)) - v2) (nI 0) G1 K)) : Ou_alikeBehind (d + 1) G K := by
  refine mk_6016_0 (cs_k hS rfl) rfl (cs_k hS rfl) rfl ?_
  refine mc_6016_12 (cs_k hS rfl) h (fun v2 G1 e => ?_)
  obtain ⟨hSG1, h⟩ := e
  refine mk_6016_15 ?_
  exact h
theorem w_Ou_alikeBehind_19 {G : mj_G} (hS : cs_S G) {d : Nat} (hd : 15 ≤ d) {x1 : Int32} {x2 : Int32} {K : Int32 → mj_G → Prop}
    (h : mm_br (x1 ≤ x2) (K x1 G) ((mj_k G (mj_r G 1589 0) = 20) ∧ mm_ix (((mj_i G 1589 1) - (nI 1)) - x2) (mj_l G (mj_r G 1589 0)) (fun n4 => (mj_k G (mj_r G 1589 2) = 20) ∧ mm_ix (((mj_i G 1589 3) - (nI 1)) - x2) (mj_l G (mj_r G 1589 2)) (fun n7 => mm_br ((q_12040 (mj_i G (mj_r G 1589 0) n4)) = (q_12040 (mj_i G (mj_r G 1589 2) n7))) (Ou_alikeBehind_19 (d + 1) x1 (x2 + nI 1) G K) (K x2 G))))) : Ou_alikeBehind_19 (d + 1) x1 x2 G K := by
  obtain ⟨e, rfl⟩ : ∃ e, d = e + 15 := ⟨d - 15, (Nat.sub_add_cancel hd).symm⟩
  refine mk_6016_19 (fun q => ?_) (fun q => ?_)
  · replace h := h.1 q
    refine mk_6016_67 ⟨_, rfl, hS, h⟩
  · replace h := h.2 q
    obtain ⟨c3, h⟩ := h
    obtain ⟨i5, h⟩ := h
    refine mk_6016_24 (cs_k hS rfl) rfl (cs_k hS rfl) rfl c3 i5 rfl ?_
    refine mc_6016_37 (q_12040_c _ _) (fun v G1 e => ?_)
    obtain ⟨rfl, rfl⟩ := e
    obtain ⟨c6, h⟩ := h
    obtain ⟨i8, h⟩ := h
    refine mk_6016_40 (cs_k hS rfl) rfl (cs_k hS rfl) rfl c6 i8 rfl ?_
    refine mc_6016_53 (q_12040_c _ _) (fun v G1 e => ?_)
    obtain ⟨rfl, rfl⟩ := e
    refine mk_6016_56 (fun q => ?_) (fun q => ?_)
    · replace h := h.1 q
      refine mk_6016_61 ?_
      exact h
    · replace h := h.2 q
      refine mk_6016_59 ⟨_, rfl, hS, h⟩
/-! 12001: type (C)I -/
theorem w_Tq_type {G : mj_G} (hS : cs_S G) {d : Nat} (h8 : 8 ≤ d) {x1 : Int32} {K : Int32 ⊕ Nat → mj_G → Prop}
    (h : mm_br (x1 < (nI 32)) (K (.inr 15) (mj_al G 16 6 (fun _ => 0))) (mm_br (x1 ≤ (nI 126)) (mm_br ((mj_i G 3 1) < (nI 80)) (mm_ix (mj_i G 3 1) 80 (fun n1 => (mj_c x1) ∧ ∀ G4, G4 = mj_pI G 4 n1 x1 → ∀ G5, G5 = mj_pI G4 3 1 ((mj_i G4 3 1) + (nI 1)) → K (.inl (mj_i G5 3 1)) G5)) (K (.inr 16) (mj_al G 17 6 (fun _ => 0)))) (K (.inr 15) (mj_al G 16 6 (fun _ => 0))))) : Tq_type d x1 G K := by
  refine mk_12001_0 (fun q => ?_) (fun q => ?_)
  · replace h := h.1 q
    refine mk_12001_12 h8 (cx_IT (cs_al hS) h)
  · replace h := h.2 q
    refine mk_12001_6 (fun q => ?_) (fun q => ?_)
    · replace h := h.1 q
      refine mk_12001_20 (cs_k hS rfl) rfl (fun q => ?_) (fun q => ?_)
      · replace h := h.1 q
        obtain ⟨i2, h⟩ := h
        obtain ⟨c3, h⟩ := h
        replace h := h _ rfl
        replace h := h _ rfl
        refine mk_12001_37 (cs_k hS rfl) (cs_r (v := 4) hS rfl) (cs_k hS rfl) rfl (cs_k hS rfl) (by decide) (mm_v (cs_l (N := 80) hS rfl) i2) c3 rfl (cs_k (cs_pI hS) rfl) rfl (cs_k (cs_pI hS) rfl) rfl (cs_k (cs_pI (cs_pI hS)) rfl) rfl (cx_I0 (cs_pI (cs_pI hS)) h)
      · replace h := h.2 q
        refine mk_12001_29 h8 (cx_IT (cs_al hS) h)
    · replace h := h.2 q
      refine mk_12001_12 h8 (cx_IT (cs_al hS) h)
/-! 12002: wipe ()I -/
theorem w_Tq_wipe {G : mj_G} (hS : cs_S G) {d : Nat} {K : Int32 → mj_G → Prop}
    (h : ∀ G1, G1 = mj_pI G 3 1 (nI 0) → K (mj_i G 3 1) G1) : Tq_wipe d G K := by
  replace h := h _ rfl
  refine mk_12002_0 (cs_k hS rfl) rfl (cs_k hS rfl) rfl ⟨_, rfl, (cs_pI hS), h⟩
/-! 12003: fault ()I -/
theorem w_Tq_fault {G : mj_G} (hS : cs_S G) {d : Nat} {K : Int32 → mj_G → Prop}
    (h : ∀ G1, G1 = mj_al G 8 6 (fun _ => 0) → Rd_init d (mj_n G) 4 (mj_i G1 3 1) (nI 0) G1 (fun G2 => (mj_k G2 (mj_n G) = 8) ∧ Rd_readBody d (mj_n G) (nI 0) ((Int32.ofInt (-1))) (nI 0) G2 (fun v5 G4 => (mj_k G4 (mj_n G) = 8) ∧ K (mj_i G4 (mj_n G) 5) G4))) : Tq_fault (d + 1) G K := by
  replace h := h _ rfl
  refine mk_12003_0 rfl rfl (cs_k (cs_al hS) rfl) (cs_r (v := 4) (cs_al hS) rfl) (cs_k (cs_al hS) rfl) rfl ?_
  refine mc_12003_13 mj_k_al h (fun G2 e => ?_)
  obtain ⟨hSG2, h⟩ := e
  refine mk_12003_16 ?_
  obtain ⟨c3, h⟩ := h
  refine mc_12003_21 c3 h (fun v5 G4 e => ?_)
  obtain ⟨hSG4, h⟩ := e
  obtain ⟨c6, h⟩ := h
  refine mk_12003_24 c6 rfl ⟨_, rfl, hSG4, h⟩
/-! 12004: template (I)I -/
theorem w_Tq_template {G : mj_G} (hS : cs_S G) {d : Nat} (h8 : 8 ≤ (d + 1)) {x1 : Int32} {K : Int32 ⊕ Nat → mj_G → Prop}
    (h : mm_br (x1 < (nI 0)) (K (.inr 17) (mj_al G 18 6 (fun _ => 0))) (mm_br (x1 < (nI 10)) (∀ G1, G1 = mj_al G 8 6 (fun _ => 0) → Rd_init d (mj_n G) 4 (mj_i G1 3 1) x1 G1 (fun G2 => (mj_k G2 (mj_n G) = 8) ∧ Rd_readBody d (mj_n G) (nI 0) ((Int32.ofInt (-1))) (nI 0) G2 (fun v5 G4 => (mj_k G4 (mj_n G) = 8) ∧ mm_br ((mj_i G4 (mj_n G) 5) = ((Int32.ofInt (-1)))) ((mj_k G4 (mj_r G4 (mj_n G) 3) = 11) ∧ ∀ G8, G8 = mj_pR G4 (mj_r G4 (mj_n G) 3) 0 v5 → mm_ix x1 10 (fun n9 => ((mj_r G8 (mj_n G) 3) = 0 ∨ mj_k G8 (mj_r G8 (mj_n G) 3) + 29 = mj_k G8 7) ∧ ∀ G12, G12 = mj_pR G8 7 n9 (mj_r G8 (mj_n G) 3) → Rn_forgetFragments d  G12 (fun G13 => ∀ G14, G14 = mj_pI G13 3 1 (nI 0) → (mj_k G14 (mj_n G) = 8) ∧ (mj_k G14 (mj_r G14 (mj_n G) 3) = 11) ∧ K (.inl (mj_i G14 (mj_r G14 (mj_n G) 3) 2)) G14))) (K (.inr 15) (mj_al G4 16 6 (fun _ => 0)))))) (K (.inr 17) (mj_al G 18 6 (fun _ => 0))))) : Tq_template (d + 1) x1 G K := by
  refine mk_12004_0 (fun q => ?_) (fun q => ?_)
  · replace h := h.1 q
    refine mk_12004_10 h8 (cx_IT (cs_al hS) h)
  · replace h := h.2 q
    refine mk_12004_4 (fun q => ?_) (fun q => ?_)
    · replace h := h.1 q
      replace h := h _ rfl
      refine mk_12004_18 rfl rfl (cs_k (cs_al hS) rfl) (cs_r (v := 4) (cs_al hS) rfl) (cs_k (cs_al hS) rfl) rfl ?_
      refine mc_12004_31 mj_k_al h (fun G2 e => ?_)
      obtain ⟨hSG2, h⟩ := e
      refine mk_12004_34 ?_
      obtain ⟨c3, h⟩ := h
      refine mc_12004_39 c3 h (fun v5 G4 e => ?_)
      obtain ⟨hSG4, h⟩ := e
      obtain ⟨c6, h⟩ := h
      refine mk_12004_42 c6 rfl (fun q => ?_) (fun q => ?_)
      · replace h := h.1 q
        obtain ⟨c7, h⟩ := h
        replace h := h _ rfl
        obtain ⟨i10, h⟩ := h
        obtain ⟨c11, h⟩ := h
        replace h := h _ rfl
        refine mk_12004_59 c6 rfl c7 rfl (cs_k (cs_pR hSG4 c7 rfl) rfl) (cs_r (v := 6) (cs_pR hSG4 c7 rfl) rfl) (cs_k (cs_pR hSG4 c7 rfl) rfl) (cs_r (v := 7) (cs_pR hSG4 c7 rfl) rfl) c6 rfl (cs_kg (cs_pR hSG4 c7 rfl) rfl) (mm_v (cs_l (N := 10) (cs_pR hSG4 c7 rfl) rfl) i10) c11 rfl (cs_k (cs_pRw (cs_pR hSG4 c7 rfl) (cs_kg (cs_pR hSG4 c7 rfl) rfl) (by decide)) rfl) (cs_r (v := 6) (cs_pRw (cs_pR hSG4 c7 rfl) (cs_kg (cs_pR hSG4 c7 rfl) rfl) (by decide)) rfl) ?_
        refine mc_12004_84 (cs_k (cs_pRw (cs_pR hSG4 c7 rfl) (cs_kg (cs_pR hSG4 c7 rfl) rfl) (by decide)) rfl) h (fun G13 e => ?_)
        obtain ⟨hSG13, h⟩ := e
        replace h := h _ rfl
        obtain ⟨c15, h⟩ := h
        obtain ⟨c16, h⟩ := h
        refine mk_12004_87 (cs_k hSG13 rfl) rfl c15 rfl c16 rfl (cx_I0 (cs_pI hSG13) h)
      · replace h := h.2 q
        refine mk_12004_51 h8 (cx_IT (cs_al hSG4) h)
    · replace h := h.2 q
      refine mk_12004_10 h8 (cx_IT (cs_al hS) h)
/-! 12005: message (II)I -/
set_option maxRecDepth 100000 in
theorem w_Tq_message {G : mj_G} (hS : cs_S G) {d : Nat} (h8 : 8 ≤ (d + 1)) {x1 : Int32} {x2 : Int32} {K : Int32 ⊕ Nat → mj_G → Prop}
    (h : mm_br (x1 < (nI 0)) (K (.inr 17) (mj_al G 18 6 (fun _ => 0))) (mm_br (x1 < (nI 10)) (mm_br (x2 < (nI 0)) (K (.inr 15) (mj_al G 16 6 (fun _ => 0))) (mm_br (x2 ≤ (nI 1)) (Tq_message_40 (d + 1) x1 x2 (nI 0) (nI 0) G K) (K (.inr 15) (mj_al G 16 6 (fun _ => 0))))) (K (.inr 17) (mj_al G 18 6 (fun _ => 0))))) : Tq_message (d + 1) x1 x2 G K := by
  refine mk_12005_0 (fun q => ?_) (fun q => ?_)
  · replace h := h.1 q
    refine mk_12005_10 h8 (cx_IT (cs_al hS) h)
  · replace h := h.2 q
    refine mk_12005_4 (fun q => ?_) (fun q => ?_)
    · replace h := h.1 q
      refine mk_12005_18 (fun q => ?_) (fun q => ?_)
      · replace h := h.1 q
        refine mk_12005_27 h8 (cx_IT (cs_al hS) h)
      · replace h := h.2 q
        refine mk_12005_22 (fun q => ?_) (fun q => ?_)
        · replace h := h.1 q
          refine mk_12005_35 ?_
          exact h
        · replace h := h.2 q
          refine mk_12005_27 h8 (cx_IT (cs_al hS) h)
    · replace h := h.2 q
      refine mk_12005_10 h8 (cx_IT (cs_al hS) h)
set_option maxRecDepth 100000 in
theorem w_Tq_message_40 {G : mj_G} (hS : cs_S G) {d : Nat} (h8 : 8 ≤ (d + 1)) {x1 : Int32} {x2 : Int32} {x3 : Int32} {x4 : Int32} {K : Int32 ⊕ Nat → mj_G → Prop}
    (h : mm_br ((mj_i G 3 1) ≤ x4) (mm_ix (((nI 2) * x1) + x2) 20 (fun n1 => Tq_copyOf d 4 (nI 0) (mj_i G 3 1) G (fun v4 G3 => (mj_k G3 (1674 + 2 * n1) = 12) ∧ Va_setText d (1674 + 2 * n1) v4 (mj_i G3 3 1) (nI 1) G3 (fun G6 => Rn_forgetFragments d  G6 (fun G7 => ∀ G8, G8 = mj_pI G7 3 1 (nI 0) → K (.inl x3) G8))))) (mm_ix x4 80 (fun n9 => mm_br ((mj_i G 4 n9) = (nI 35)) (Tq_message_40 (d + 1) x1 x2 (x3 + nI 1) (x4 + nI 1) G K) (Tq_message_40 (d + 1) x1 x2 x3 (x4 + nI 1) G K)))) : Tq_message_40 (d + 1) x1 x2 x3 x4 G K := by
  refine mk_12005_40 (cs_k hS rfl) rfl (fun q => ?_) (fun q => ?_)
  · replace h := h.1 q
    obtain ⟨i2, h⟩ := h
    refine mk_12005_70 (cs_k hS rfl) (cs_r (v := 6) hS rfl) (cs_k hS rfl) (cs_r (v := 8) hS rfl) (cs_kg hS rfl) (mm_v (cs_l (N := 20) hS rfl) i2) (cs_f8 hS (mm_lt i2)) (cs_k hS rfl) (cs_r (v := 4) hS rfl) (cs_k hS rfl) rfl ?_
    refine mc_12005_92 h (fun v4 G3 e => ?_)
    obtain ⟨hSG3, h⟩ := e
    refine mk_12005_95 (cs_k hSG3 rfl) rfl ?_
    obtain ⟨c5, h⟩ := h
    refine mc_12005_100 c5 h (fun G6 e => ?_)
    obtain ⟨hSG6, h⟩ := e
    refine mk_12005_103 (cs_k hSG6 rfl) (cs_r (v := 6) hSG6 rfl) ?_
    refine mc_12005_107 (cs_k hSG6 rfl) h (fun G7 e => ?_)
    obtain ⟨hSG7, h⟩ := e
    replace h := h _ rfl
    refine mk_12005_110 (cs_k hSG7 rfl) rfl (cx_I0 (cs_pI hSG7) h)
  · replace h := h.2 q
    obtain ⟨i10, h⟩ := h
    refine mk_12005_49 (cs_k hS rfl) (cs_r (v := 4) hS rfl) (cs_k hS rfl) (mm_v (cs_l (N := 80) hS rfl) i10) rfl (fun q => ?_) (fun q => ?_)
    · replace h := h.2 q
      refine mk_12005_64 ?_
      exact h
    · replace h := h.1 q
      refine mk_12005_61 ?_
      refine mk_12005_64 ?_
      exact h
/-! 12006: number (CI)V -/
theorem w_Tq_number {G : mj_G} (hS : cs_S G) {d : Nat} (hd : 15 ≤ d) (h8 : 8 ≤ (d + 1)) {x1 : Int32} {x2 : Int32} {K : Unit ⊕ Nat → mj_G → Prop}
    (h : mm_br (qb (q_12029 x1) = true) (∀ G1, G1 = mj_al G 12 8 (fun _ => 0) → Va_init d (mj_n G) G1 (fun G2 => (mj_k G2 (mj_n G) = 12) ∧ Va_setNumber d (mj_n G) x2 G2 (fun G4 => mm_ix (x1 - (nI 97)) 26 (fun n5 => ((mj_n G) = 0 ∨ mj_k G4 (mj_n G) + 29 = mj_k G4 12) ∧ ∀ G8, G8 = mj_pR G4 12 n5 (mj_n G) → K (.inl ()) G8)))) (K (.inr 15) (mj_al G 16 6 (fun _ => 0)))) : Tq_number (d + 1) x1 x2 G K := by
  obtain ⟨e, rfl⟩ : ∃ e, d = e + 15 := ⟨d - 15, (Nat.sub_add_cancel hd).symm⟩
  refine mk_12006_0 ?_
  refine mc_12006_1 (q_bc (q_12029_c _ _) (q_12029_b _)) (fun v G1 e => ?_)
  obtain ⟨rfl, rfl⟩ := e
  refine mk_12006_4 (fun q => ?_) (fun q => ?_)
  · replace h := h.1 (bI_n q)
    replace h := h _ rfl
    refine mk_12006_15 rfl rfl ?_
    refine mc_12006_19 mj_k_al h (fun G2 e => ?_)
    obtain ⟨hSG2, h⟩ := e
    refine mk_12006_22 ?_
    obtain ⟨c3, h⟩ := h
    refine mc_12006_25 c3 h (fun G4 e => ?_)
    obtain ⟨hSG4, h⟩ := e
    obtain ⟨i6, h⟩ := h
    obtain ⟨c7, h⟩ := h
    replace h := h _ rfl
    refine mk_12006_28 (cs_k hSG4 rfl) (cs_r (v := 6) hSG4 rfl) (cs_k hSG4 rfl) (cs_r (v := 11) hSG4 rfl) (cs_k hSG4 rfl) (cs_r (v := 12) hSG4 rfl) (cs_kg hSG4 rfl) (mm_v (cs_l (N := 26) hSG4 rfl) i6) c7 rfl (cx_V0 (cs_pRw hSG4 (cs_kg hSG4 rfl) (by decide)) h)
  · replace h := h.2 (bI_z q)
    refine mk_12006_7 h8 (cx_VT (cs_al hS) h)
/-! 12007: text (C)I -/
theorem w_Tq_text {G : mj_G} (hS : cs_S G) {d : Nat} (hd : 15 ≤ d) (h8 : 8 ≤ (d + 1)) {x1 : Int32} {K : Int32 ⊕ Nat → mj_G → Prop}
    (h : mm_br (qb (q_12029 x1) = true) (Tq_takeTyped d  G (fun v2 G1 => mm_ix (x1 - (nI 97)) 26 (fun n3 => (v2 = 0 ∨ mj_k G1 v2 + 29 = mj_k G1 12) ∧ ∀ G6, G6 = mj_pR G1 12 n3 v2 → (mj_k G6 v2 = 12) ∧ K (.inl (mj_i G6 v2 4)) G6))) (K (.inr 15) (mj_al G 16 6 (fun _ => 0)))) : Tq_text (d + 1) x1 G K := by
  obtain ⟨e, rfl⟩ : ∃ e, d = e + 15 := ⟨d - 15, (Nat.sub_add_cancel hd).symm⟩
  refine mk_12007_0 ?_
  refine mc_12007_1 (q_bc (q_12029_c _ _) (q_12029_b _)) (fun v G1 e => ?_)
  obtain ⟨rfl, rfl⟩ := e
  refine mk_12007_4 (fun q => ?_) (fun q => ?_)
  · replace h := h.1 (bI_n q)
    refine mk_12007_15 ?_
    refine mc_12007_16 (cs_k hS rfl) h (fun v2 G1 e => ?_)
    obtain ⟨hSG1, h⟩ := e
    obtain ⟨i4, h⟩ := h
    obtain ⟨c5, h⟩ := h
    replace h := h _ rfl
    obtain ⟨c7, h⟩ := h
    refine mk_12007_19 (cs_k hSG1 rfl) (cs_r (v := 6) hSG1 rfl) (cs_k hSG1 rfl) (cs_r (v := 11) hSG1 rfl) (cs_k hSG1 rfl) (cs_r (v := 12) hSG1 rfl) (cs_kg hSG1 rfl) (mm_v (cs_l (N := 26) hSG1 rfl) i4) c5 rfl c7 rfl (cx_I0 (cs_pRw hSG1 (cs_kg hSG1 rfl) (by decide)) h)
  · replace h := h.2 (bI_z q)
    refine mk_12007_7 h8 (cx_IT (cs_al hS) h)
/-! 12008: list (C)V -/
theorem w_Tq_list {G : mj_G} (hS : cs_S G) {d : Nat} (hd : 15 ≤ d) (h8 : 8 ≤ (d + 1)) {x1 : Int32} {K : Unit ⊕ Nat → mj_G → Prop}
    (h : mm_br (qb (q_12029 x1) = true) (∀ G1, G1 = mj_al G 12 8 (fun _ => 0) → Va_init d (mj_n G) G1 (fun G2 => ∀ G3, G3 = mj_al G2 41 0 (fun _ => 0) → (mj_k G3 (mj_n G) = 12) ∧ Va_setItems d (mj_n G) (mj_n G2) G3 (fun G5 => mm_ix (x1 - (nI 97)) 26 (fun n6 => ((mj_n G) = 0 ∨ mj_k G5 (mj_n G) + 29 = mj_k G5 12) ∧ ∀ G9, G9 = mj_pR G5 12 n6 (mj_n G) → K (.inl ()) G9)))) (K (.inr 15) (mj_al G 16 6 (fun _ => 0)))) : Tq_list (d + 1) x1 G K := by
  obtain ⟨e, rfl⟩ : ∃ e, d = e + 15 := ⟨d - 15, (Nat.sub_add_cancel hd).symm⟩
  refine mk_12008_0 ?_
  refine mc_12008_1 (q_bc (q_12029_c _ _) (q_12029_b _)) (fun v G1 e => ?_)
  obtain ⟨rfl, rfl⟩ := e
  refine mk_12008_4 (fun q => ?_) (fun q => ?_)
  · replace h := h.1 (bI_n q)
    replace h := h _ rfl
    refine mk_12008_15 rfl rfl ?_
    refine mc_12008_19 mj_k_al h (fun G2 e => ?_)
    obtain ⟨hSG2, h⟩ := e
    replace h := h _ rfl
    refine mk_12008_22 (by decide) (by decide) rfl rfl ?_
    obtain ⟨c4, h⟩ := h
    refine mc_12008_28 c4 h (fun G5 e => ?_)
    obtain ⟨hSG5, h⟩ := e
    obtain ⟨i7, h⟩ := h
    obtain ⟨c8, h⟩ := h
    replace h := h _ rfl
    refine mk_12008_31 (cs_k hSG5 rfl) (cs_r (v := 6) hSG5 rfl) (cs_k hSG5 rfl) (cs_r (v := 11) hSG5 rfl) (cs_k hSG5 rfl) (cs_r (v := 12) hSG5 rfl) (cs_kg hSG5 rfl) (mm_v (cs_l (N := 26) hSG5 rfl) i7) c8 rfl (cx_V0 (cs_pRw hSG5 (cs_kg hSG5 rfl) (by decide)) h)
  · replace h := h.2 (bI_z q)
    refine mk_12008_7 h8 (cx_VT (cs_al hS) h)
/-! 12009: add (CI)I -/
theorem w_Tq_add {G : mj_G} (hS : cs_S G) {d : Nat} (hd : 15 ≤ d) (h8 : 8 ≤ (d + 1)) {x1 : Int32} {x2 : Int32} {K : Int32 ⊕ Nat → mj_G → Prop}
    (h : mm_br (qb (q_12029 x1) = true) (Tq_hasRoom d (x1 - (nI 97)) G (fun v2 G1 => mm_br (v2 = true) (∀ G3, G3 = mj_al G1 12 8 (fun _ => 0) → Va_init d (mj_n G1) G3 (fun G4 => (mj_k G4 (mj_n G1) = 12) ∧ Va_setNumber d (mj_n G1) x2 G4 (fun G6 => Tq_append d (x1 - (nI 97)) (mj_n G1) G6 (fun v8 G7 => K (.inl v8) G7)))) (K (.inr 16) (mj_al G1 17 6 (fun _ => 0))))) (K (.inr 15) (mj_al G 16 6 (fun _ => 0)))) : Tq_add (d + 1) x1 x2 G K := by
  obtain ⟨e, rfl⟩ : ∃ e, d = e + 15 := ⟨d - 15, (Nat.sub_add_cancel hd).symm⟩
  refine mk_12009_0 ?_
  refine mc_12009_1 (q_bc (q_12029_c _ _) (q_12029_b _)) (fun v G1 e => ?_)
  obtain ⟨rfl, rfl⟩ := e
  refine mk_12009_4 (fun q => ?_) (fun q => ?_)
  · replace h := h.1 (bI_n q)
    refine mk_12009_15 ?_
    refine mc_12009_20 (cs_k hS rfl) (cc_z h) (fun v0 G1 e => ?_)
    obtain ⟨v2, rfl, hSG1, h⟩ := e
    refine mk_12009_23 (fun q => ?_) (fun q => ?_)
    · replace h := h.1 (bI_n q)
      replace h := h _ rfl
      refine mk_12009_34 rfl rfl ?_
      refine mc_12009_38 mj_k_al h (fun G4 e => ?_)
      obtain ⟨hSG4, h⟩ := e
      refine mk_12009_41 ?_
      obtain ⟨c5, h⟩ := h
      refine mc_12009_44 c5 h (fun G6 e => ?_)
      obtain ⟨hSG6, h⟩ := e
      refine mk_12009_47 ?_
      refine mc_12009_53 (cs_k hSG6 rfl) h (fun v8 G7 e => ?_)
      obtain ⟨hSG7, h⟩ := e
      refine mk_12009_56 (cx_I0 hSG7 h)
    · replace h := h.2 (bI_z q)
      refine mk_12009_26 h8 (cx_IT (cs_al hSG1) h)
  · replace h := h.2 (bI_z q)
    refine mk_12009_7 h8 (cx_IT (cs_al hS) h)
/-! 12010: addText (C)I -/
theorem w_Tq_addText {G : mj_G} (hS : cs_S G) {d : Nat} (hd : 15 ≤ d) (h8 : 8 ≤ (d + 1)) {x1 : Int32} {K : Int32 ⊕ Nat → mj_G → Prop}
    (h : mm_br (qb (q_12029 x1) = true) (Tq_hasRoom d (x1 - (nI 97)) G (fun v2 G1 => mm_br (v2 = true) (Tq_takeTyped d  G1 (fun v4 G3 => Tq_append d (x1 - (nI 97)) v4 G3 (fun v6 G5 => K (.inl v6) G5))) (K (.inr 16) (mj_al G1 17 6 (fun _ => 0))))) (K (.inr 15) (mj_al G 16 6 (fun _ => 0)))) : Tq_addText (d + 1) x1 G K := by
  obtain ⟨e, rfl⟩ : ∃ e, d = e + 15 := ⟨d - 15, (Nat.sub_add_cancel hd).symm⟩
  refine mk_12010_0 ?_
  refine mc_12010_1 (q_bc (q_12029_c _ _) (q_12029_b _)) (fun v G1 e => ?_)
  obtain ⟨rfl, rfl⟩ := e
  refine mk_12010_4 (fun q => ?_) (fun q => ?_)
  · replace h := h.1 (bI_n q)
    refine mk_12010_15 ?_
    refine mc_12010_20 (cs_k hS rfl) (cc_z h) (fun v0 G1 e => ?_)
    obtain ⟨v2, rfl, hSG1, h⟩ := e
    refine mk_12010_23 (fun q => ?_) (fun q => ?_)
    · replace h := h.1 (bI_n q)
      refine mk_12010_34 ?_
      refine mc_12010_40 (cs_k hSG1 rfl) h (fun v4 G3 e => ?_)
      obtain ⟨hSG3, h⟩ := e
      refine mc_12010_43 (cs_k hSG3 rfl) h (fun v6 G5 e => ?_)
      obtain ⟨hSG5, h⟩ := e
      refine mk_12010_46 (cx_I0 hSG5 h)
    · replace h := h.2 (bI_z q)
      refine mk_12010_26 h8 (cx_IT (cs_al hSG1) h)
  · replace h := h.2 (bI_z q)
    refine mk_12010_7 h8 (cx_IT (cs_al hS) h)
/-! 12011: clear (C)Z -/
theorem w_Tq_clear {G : mj_G} (hS : cs_S G) {d : Nat} (hd : 15 ≤ d) (h8 : 8 ≤ (d + 1)) {x1 : Int32} {K : Bool ⊕ Nat → mj_G → Prop}
    (h : mm_br (qb (q_12029 x1) = true) (mm_ix (x1 - (nI 97)) 26 (fun n1 => (mj_k G (mj_r G 12 n1) = 12) ∧ mm_br ((mj_i G (mj_r G 12 n1) 0) = (nI 1)) (∀ G4, G4 = mj_al G 12 8 (fun _ => 0) → Va_init d (mj_n G) G4 (fun G5 => mm_ix (x1 - (nI 97)) 26 (fun n6 => ((mj_n G) = 0 ∨ mj_k G5 (mj_n G) + 29 = mj_k G5 12) ∧ ∀ G9, G9 = mj_pR G5 12 n6 (mj_n G) → K (.inl false) G9))) (∀ G10, G10 = mj_al G 12 8 (fun _ => 0) → Va_init d (mj_n G) G10 (fun G11 => mm_ix (x1 - (nI 97)) 26 (fun n12 => ((mj_n G) = 0 ∨ mj_k G11 (mj_n G) + 29 = mj_k G11 12) ∧ ∀ G15, G15 = mj_pR G11 12 n12 (mj_n G) → K (.inl true) G15))))) (K (.inr 15) (mj_al G 16 6 (fun _ => 0)))) : Tq_clear (d + 1) x1 G K := by
  obtain ⟨e, rfl⟩ : ∃ e, d = e + 15 := ⟨d - 15, (Nat.sub_add_cancel hd).symm⟩
  refine mk_12011_0 ?_
  refine mc_12011_1 (q_bc (q_12029_c _ _) (q_12029_b _)) (fun v G1 e => ?_)
  obtain ⟨rfl, rfl⟩ := e
  refine mk_12011_4 (fun q => ?_) (fun q => ?_)
  · replace h := h.1 (bI_n q)
    obtain ⟨i2, h⟩ := h
    obtain ⟨c3, h⟩ := h
    refine mk_12011_15 (cs_k hS rfl) (cs_r (v := 6) hS rfl) (cs_k hS rfl) (cs_r (v := 11) hS rfl) (cs_k hS rfl) (cs_r (v := 12) hS rfl) (cs_kg hS rfl) (mm_v (cs_l (N := 26) hS rfl) i2) rfl c3 rfl (fun q => ?_) (fun q => ?_)
    · replace h := h.1 q
      refine mk_12011_41 ?_
      replace h := h _ rfl
      refine mk_12011_42 (cs_k hS rfl) (cs_r (v := 6) hS rfl) (cs_k hS rfl) (cs_r (v := 11) hS rfl) (cs_k hS rfl) (cs_r (v := 12) hS rfl) rfl rfl ?_
      refine mc_12011_61 mj_k_al h (fun G5 e => ?_)
      obtain ⟨hSG5, h⟩ := e
      obtain ⟨i7, h⟩ := h
      obtain ⟨c8, h⟩ := h
      replace h := h _ rfl
      refine mk_12011_64 (cs_kg hSG5 rfl) (mm_v (cs_l (N := 26) hSG5 rfl) i7) c8 rfl (bI_b false) (cx_Z0 (cs_pRw hSG5 (cs_kg hSG5 rfl) (by decide)) h)
    · replace h := h.2 q
      refine mk_12011_37 ?_
      replace h := h _ rfl
      refine mk_12011_42 (cs_k hS rfl) (cs_r (v := 6) hS rfl) (cs_k hS rfl) (cs_r (v := 11) hS rfl) (cs_k hS rfl) (cs_r (v := 12) hS rfl) rfl rfl ?_
      refine mc_12011_61 mj_k_al h (fun G11 e => ?_)
      obtain ⟨hSG11, h⟩ := e
      obtain ⟨i13, h⟩ := h
      obtain ⟨c14, h⟩ := h
      replace h := h _ rfl
      refine mk_12011_64 (cs_kg hSG11 rfl) (mm_v (cs_l (N := 26) hSG11 rfl) i13) c14 rfl (bI_b true) (cx_Z0 (cs_pRw hSG11 (cs_kg hSG11 rfl) (by decide)) h)
  · replace h := h.2 (bI_z q)
    refine mk_12011_7 h8 (cx_ZT (cs_al hS) h)
/-! 12012: takeTyped ()LTemplateQuarry$Value; -/
theorem w_Tq_takeTyped {G : mj_G} (hS : cs_S G) {d : Nat} {K : Nat → mj_G → Prop}
    (h : ∀ G1, G1 = mj_al G 12 8 (fun _ => 0) → Va_init d (mj_n G) G1 (fun G2 => Tq_copyOf d 4 (nI 0) (mj_mn (mj_i G 3 1) (nI 40)) G2 (fun v4 G3 => (mj_k G3 (mj_n G) = 12) ∧ Va_setText d (mj_n G) v4 (mj_mn (mj_i G 3 1) (nI 40)) (nI 0) G3 (fun G6 => ∀ G7, G7 = mj_pI G6 3 1 (nI 0) → K (mj_n G) G7)))) : Tq_takeTyped (d + 1) G K := by
  replace h := h _ rfl
  refine mk_12012_0 (cs_k hS rfl) rfl rfl rfl ?_
  refine mc_12012_14 mj_k_al h (fun G2 e => ?_)
  obtain ⟨hSG2, h⟩ := e
  refine mk_12012_17 (cs_k hSG2 rfl) (cs_r (v := 4) hSG2 rfl) ?_
  refine mc_12012_25 h (fun v4 G3 e => ?_)
  obtain ⟨hSG3, h⟩ := e
  refine mk_12012_28 ?_
  obtain ⟨c5, h⟩ := h
  refine mc_12012_30 c5 h (fun G6 e => ?_)
  obtain ⟨hSG6, h⟩ := e
  replace h := h _ rfl
  refine mk_12012_33 (cs_k hSG6 rfl) rfl ⟨_, rfl, (cs_pI hSG6), h⟩
/-! 12013: hasRoom (I)Z -/
theorem w_Tq_hasRoom {G : mj_G} (hS : cs_S G) {d : Nat} {x1 : Int32} {K : Bool → mj_G → Prop}
    (h : mm_ix x1 26 (fun n1 => (mj_k G (mj_r G 12 n1) = 12) ∧ mm_br ((mj_i G (mj_r G 12 n1) 0) = (nI 8)) ((20 ≤ mj_k G (mj_r G (mj_r G 12 n1) 5)) ∧ mm_br ((nI 8) ≤ (nI (mj_l G (mj_r G (mj_r G 12 n1) 5)))) (K false G) (K true G)) (K false G))) : Tq_hasRoom d x1 G K := by
  obtain ⟨i2, h⟩ := h
  obtain ⟨c3, h⟩ := h
  refine mk_12013_0 (cs_k hS rfl) (cs_r (v := 6) hS rfl) (cs_k hS rfl) (cs_r (v := 11) hS rfl) (cs_k hS rfl) (cs_r (v := 12) hS rfl) (cs_kg hS rfl) (mm_v (cs_l (N := 26) hS rfl) i2) rfl c3 rfl (fun q => ?_) (fun q => ?_)
  · replace h := h.2 q
    refine mk_12013_36 ?_
    refine mk_12013_37 (bI_b false) ⟨false, rfl, hS, h⟩
  · replace h := h.1 q
    obtain ⟨c4, h⟩ := h
    refine mk_12013_22 c3 rfl c4 rfl (fun q => ?_) (fun q => ?_)
    · replace h := h.1 q
      refine mk_12013_36 ?_
      refine mk_12013_37 (bI_b false) ⟨false, rfl, hS, h⟩
    · replace h := h.2 q
      refine mk_12013_32 ?_
      refine mk_12013_37 (bI_b true) ⟨true, rfl, hS, h⟩
/-! 12014: append (ILTemplateQuarry$Value;)I -/
theorem w_Tq_append {G : mj_G} (hS : cs_S G) {d : Nat} {x1 : Int32} {r2 : Nat} {K : Int32 → mj_G → Prop}
    (h : mm_ix x1 26 (fun n1 => (mj_k G (mj_r G 12 n1) = 12) ∧ (20 ≤ mj_k G (mj_r G (mj_r G 12 n1) 5)) ∧ mm_nw ((nI (mj_l G (mj_r G (mj_r G 12 n1) 5))) + (nI 1)) (fun n5 => ∀ G7, G7 = mj_al G 41 n5 (fun _ => 0) → Tq_append_28 (d + 1) x1 r2 (mj_r G (mj_r G 12 n1) 5) (mj_n G) (nI 0) G7 K))) : Tq_append (d + 1) x1 r2 G K := by
  obtain ⟨i2, h⟩ := h
  obtain ⟨c3, h⟩ := h
  obtain ⟨c4, h⟩ := h
  obtain ⟨i6, i62, h⟩ := h
  replace h := h _ rfl
  refine mk_12014_0 (cs_k hS rfl) (cs_r (v := 6) hS rfl) (cs_k hS rfl) (cs_r (v := 11) hS rfl) (cs_k hS rfl) (cs_r (v := 12) hS rfl) (cs_kg hS rfl) (mm_v (cs_l (N := 26) hS rfl) i2) rfl c3 rfl c4 rfl i6 i62 rfl rfl ?_
  exact h
theorem w_Tq_append_28 {G : mj_G} (hS : cs_S G) {d : Nat} {x1 : Int32} {r2 : Nat} {r3 : Nat} {r4 : Nat} {x5 : Int32} {K : Int32 → mj_G → Prop}
    (h : (20 ≤ mj_k G r3) ∧ mm_br ((nI (mj_l G r3)) ≤ x5) ((20 ≤ mj_k G r3) ∧ (30 ≤ mj_k G r4) ∧ mm_ix (nI (mj_l G r3)) (mj_l G r4) (fun n11 => (r2 = 0 ∨ mj_k G r2 + 29 = mj_k G r4) ∧ (cs_w r4) ∧ ∀ G15, G15 = mj_pR G r4 n11 r2 → ∀ G16, G16 = mj_al G15 12 8 (fun _ => 0) → Va_init d (mj_n G15) G16 (fun G17 => (mj_k G17 (mj_n G15) = 12) ∧ Va_setItems d (mj_n G15) r4 G17 (fun G19 => mm_ix x1 26 (fun n20 => ((mj_n G15) = 0 ∨ mj_k G19 (mj_n G15) + 29 = mj_k G19 12) ∧ ∀ G23, G23 = mj_pR G19 12 n20 (mj_n G15) → (20 ≤ mj_k G23 r4) ∧ K (nI (mj_l G23 r4)) G23))))) ((30 ≤ mj_k G r3) ∧ mm_ix x5 (mj_l G r3) (fun n26 => (30 ≤ mj_k G r4) ∧ mm_ix x5 (mj_l G r4) (fun n29 => ((mj_r G r3 n26) = 0 ∨ mj_k G (mj_r G r3 n26) + 29 = mj_k G r4) ∧ (cs_w r4) ∧ ∀ G33, G33 = mj_pR G r4 n29 (mj_r G r3 n26) → Tq_append_28 (d + 1) x1 r2 r3 r4 (x5 + nI 1) G33 K)))) : Tq_append_28 (d + 1) x1 r2 r3 r4 x5 G K := by
  obtain ⟨c8, h⟩ := h
  refine mk_12014_28 c8 rfl (fun q => ?_) (fun q => ?_)
  · replace h := h.1 q
    obtain ⟨c9, h⟩ := h
    obtain ⟨c10, h⟩ := h
    obtain ⟨i12, h⟩ := h
    obtain ⟨c13, h⟩ := h
    obtain ⟨c14, h⟩ := h
    replace h := h _ rfl
    replace h := h _ rfl
    refine mk_12014_50 c9 rfl c10 i12 c13 rfl rfl rfl ?_
    refine mc_12014_60 mj_k_al h (fun G17 e => ?_)
    obtain ⟨hSG17, h⟩ := e
    refine mk_12014_63 ?_
    obtain ⟨c18, h⟩ := h
    refine mc_12014_69 c18 h (fun G19 e => ?_)
    obtain ⟨hSG19, h⟩ := e
    obtain ⟨i21, h⟩ := h
    obtain ⟨c22, h⟩ := h
    replace h := h _ rfl
    obtain ⟨c24, h⟩ := h
    refine mk_12014_72 (cs_k hSG19 rfl) (cs_r (v := 6) hSG19 rfl) (cs_k hSG19 rfl) (cs_r (v := 11) hSG19 rfl) (cs_k hSG19 rfl) (cs_r (v := 12) hSG19 rfl) (cs_kg hSG19 rfl) (mm_v (cs_l (N := 26) hSG19 rfl) i21) c22 rfl c24 rfl ⟨_, rfl, (cs_pRw hSG19 (cs_kg hSG19 rfl) (by decide)), h⟩
  · replace h := h.2 q
    obtain ⟨c25, h⟩ := h
    obtain ⟨i27, h⟩ := h
    obtain ⟨c28, h⟩ := h
    obtain ⟨i30, h⟩ := h
    obtain ⟨c31, h⟩ := h
    obtain ⟨c32, h⟩ := h
    replace h := h _ rfl
    refine mk_12014_35 c25 i27 rfl c28 i30 c31 rfl ?_
    exact h
/-! 12015: budget (I)I -/
theorem w_Tq_budget {G : mj_G} (hS : cs_S G) {d : Nat} (h8 : 8 ≤ d) {x1 : Int32} {K : Int32 ⊕ Nat → mj_G → Prop}
    (h : mm_br (x1 < (nI 1)) (K (.inr 15) (mj_al G 16 6 (fun _ => 0))) (mm_br (x1 ≤ (nI 2000)) (∀ G1, G1 = mj_pI G 6 6 x1 → K (.inl (mj_i G 6 6)) G1) (K (.inr 15) (mj_al G 16 6 (fun _ => 0))))) : Tq_budget d x1 G K := by
  refine mk_12015_0 (fun q => ?_) (fun q => ?_)
  · replace h := h.1 q
    refine mk_12015_12 h8 (cx_IT (cs_al hS) h)
  · replace h := h.2 q
    refine mk_12015_5 (fun q => ?_) (fun q => ?_)
    · replace h := h.1 q
      replace h := h _ rfl
      refine mk_12015_20 (cs_k hS rfl) (cs_r (v := 6) hS rfl) (cs_k hS rfl) rfl (cs_k hS rfl) (cs_r (v := 6) hS rfl) (cs_k hS rfl) rfl (cx_I0 (cs_pI hS) h)
    · replace h := h.2 q
      refine mk_12015_12 h8 (cx_IT (cs_al hS) h)
/-! 12016: render (I)I -/
theorem w_Tq_render {G : mj_G} (hS : cs_S G) {d : Nat} (h8 : 8 ≤ (d + 1)) {x1 : Int32} {K : Int32 ⊕ Nat → mj_G → Prop}
    (h : mm_br (x1 < (nI 0)) (K (.inr 17) (mj_al G 18 6 (fun _ => 0))) (mm_br (x1 < (nI 10)) (Rn_run d x1 G (fun v2 G1 => K (.inl v2) G1)) (K (.inr 17) (mj_al G 18 6 (fun _ => 0))))) : Tq_render (d + 1) x1 G K := by
  refine mk_12016_0 (fun q => ?_) (fun q => ?_)
  · replace h := h.1 q
    refine mk_12016_10 h8 (cx_IT (cs_al hS) h)
  · replace h := h.2 q
    refine mk_12016_4 (fun q => ?_) (fun q => ?_)
    · replace h := h.1 q
      refine mk_12016_18 (cs_k hS rfl) (cs_r (v := 6) hS rfl) ?_
      refine mc_12016_23 (cs_k hS rfl) h (fun v2 G1 e => ?_)
      obtain ⟨hSG1, h⟩ := e
      refine mk_12016_26 (cx_I0 hSG1 h)
    · replace h := h.2 q
      refine mk_12016_10 h8 (cx_IT (cs_al hS) h)
/-! 12017: spent ()I -/
theorem w_Tq_spent {G : mj_G} (hS : cs_S G) {d : Nat} {K : Int32 → mj_G → Prop}
    (h : K (mj_i G 6 7) G) : Tq_spent d G K := by
  refine mk_12017_0 (cs_k hS rfl) (cs_r (v := 6) hS rfl) (cs_k hS rfl) rfl ⟨_, rfl, hS, h⟩
/-! 12018: hits ()I -/
theorem w_Tq_hits {G : mj_G} (hS : cs_S G) {d : Nat} {K : Int32 → mj_G → Prop}
    (h : K (mj_i G 6 8) G) : Tq_hits d G K := by
  refine mk_12018_0 (cs_k hS rfl) (cs_r (v := 6) hS rfl) (cs_k hS rfl) rfl ⟨_, rfl, hS, h⟩
/-! 12019: kept ()I -/
theorem w_Tq_kept {G : mj_G} (hS : cs_S G) {d : Nat} {K : Int32 → mj_G → Prop}
    (h : Tq_kept_4 d (nI 0) (nI 0) G K) : Tq_kept d G K := by
  refine mk_12019_0 ?_
  exact h
theorem w_Tq_kept_4 {G : mj_G} (hS : cs_S G) {d : Nat} {x1 : Int32} {x2 : Int32} {K : Int32 → mj_G → Prop}
    (h : mm_br ((nI 10) ≤ x2) (K x1 G) (mm_ix x2 10 (fun n1 => mm_br ((mj_r G (1597 + 8 * n1) 0) = 0) (Tq_kept_4 d x1 (x2 + nI 1) G K) (Tq_kept_4 d (x1 + nI 1) (x2 + nI 1) G K)))) : Tq_kept_4 d x1 x2 G K := by
  refine mk_12019_4 (fun q => ?_) (fun q => ?_)
  · replace h := h.1 q
    refine mk_12019_34 ⟨_, rfl, hS, h⟩
  · replace h := h.2 q
    obtain ⟨i2, h⟩ := h
    refine mk_12019_10 (cs_k hS rfl) (cs_r (v := 6) hS rfl) (cs_k hS rfl) (cs_r (v := 9) hS rfl) (cs_kg hS rfl) (mm_v (cs_l (N := 10) hS rfl) i2) (cs_f9 hS (mm_lt i2)) ((cs_g9 hS (mm_lt i2)).trans rfl) rfl (fun q => ?_) (fun q => ?_)
    · replace h := h.1 q
      refine mk_12019_28 ?_
      exact h
    · replace h := h.2 q
      refine mk_12019_25 ?_
      refine mk_12019_28 ?_
      exact h
/-! 12020: out (I)C -/
theorem w_Tq_out {G : mj_G} (hS : cs_S G) {d : Nat} (hd : 15 ≤ d) (h8 : 8 ≤ (d + 1)) {x1 : Int32} {K : Int32 ⊕ Nat → mj_G → Prop}
    (h : mm_br (x1 < (nI 0)) (K (.inr 17) (mj_al G 18 6 (fun _ => 0))) (mm_br (x1 < (mj_i G 1589 1)) ((mj_k G (mj_r G 1589 0) = 20) ∧ mm_ix x1 (mj_l G (mj_r G 1589 0)) (fun n2 => (mj_c (q_12040 (mj_i G (mj_r G 1589 0) n2))) ∧ K (.inl (q_12040 (mj_i G (mj_r G 1589 0) n2))) G)) (K (.inr 17) (mj_al G 18 6 (fun _ => 0))))) : Tq_out (d + 1) x1 G K := by
  obtain ⟨e, rfl⟩ : ∃ e, d = e + 15 := ⟨d - 15, (Nat.sub_add_cancel hd).symm⟩
  refine mk_12020_0 (fun q => ?_) (fun q => ?_)
  · replace h := h.1 q
    refine mk_12020_18 h8 (cx_IT (cs_al hS) h)
  · replace h := h.2 q
    refine mk_12020_4 (cs_k hS rfl) (cs_r (v := 6) hS rfl) (cs_k hS rfl) (cs_r (v := 1589) hS rfl) (cs_k hS rfl) rfl (fun q => ?_) (fun q => ?_)
    · replace h := h.1 q
      obtain ⟨c1, h⟩ := h
      obtain ⟨i3, h⟩ := h
      refine mk_12020_26 (cs_k hS rfl) (cs_r (v := 6) hS rfl) (cs_k hS rfl) (cs_r (v := 1589) hS rfl) (cs_k hS rfl) rfl c1 i3 rfl ?_
      refine mc_12020_38 (q_12040_c _ _) (fun v G1 e => ?_)
      obtain ⟨rfl, rfl⟩ := e
      obtain ⟨c4, h⟩ := h
      refine mk_12020_41 c4 (cx_I0 hS h)
    · replace h := h.2 q
      refine mk_12020_18 h8 (cx_IT (cs_al hS) h)
/-! 12021: outAnew (I)C -/
theorem w_Tq_outAnew {G : mj_G} (hS : cs_S G) {d : Nat} (h8 : 8 ≤ (d + 1)) {x1 : Int32} {K : Int32 ⊕ Nat → mj_G → Prop}
    (h : mm_br (x1 < (nI 0)) (K (.inr 17) (mj_al G 18 6 (fun _ => 0))) (mm_br (x1 < (mj_i G 1589 1)) (Tq_outAnew_30 (d + 1) x1 (nI 0) (nI 0) G K) (K (.inr 17) (mj_al G 18 6 (fun _ => 0))))) : Tq_outAnew (d + 1) x1 G K := by
  refine mk_12021_0 (fun q => ?_) (fun q => ?_)
  · replace h := h.1 q
    refine mk_12021_18 h8 (cx_IT (cs_al hS) h)
  · replace h := h.2 q
    refine mk_12021_4 (cs_k hS rfl) (cs_r (v := 6) hS rfl) (cs_k hS rfl) (cs_r (v := 1589) hS rfl) (cs_k hS rfl) rfl (fun q => ?_) (fun q => ?_)
    · replace h := h.1 q
      refine mk_12021_26 ?_
      exact h
    · replace h := h.2 q
      refine mk_12021_18 h8 (cx_IT (cs_al hS) h)
theorem w_Tq_outAnew_30 {G : mj_G} (hS : cs_S G) {d : Nat} (hd : 15 ≤ d) (h8 : 8 ≤ (d + 1)) {x1 : Int32} {x2 : Int32} {x3 : Int32} {K : Int32 ⊕ Nat → mj_G → Prop}
    (h : mm_br (x1 ≤ x3) ((mj_k G (mj_r G 1589 0) = 20) ∧ mm_ix x1 (mj_l G (mj_r G 1589 0)) (fun n2 => mm_br (qb (q_12043 (mj_i G (mj_r G 1589 0) n2)) = true) (Tq_escaped d (q_12041 (mj_i G (mj_r G 1589 0) n2)) x2 (q_12044 (mj_i G (mj_r G 1589 0) n2)) G (fun v6 G5 => (mj_c v6) ∧ K (.inl v6) G5)) ((mj_c (q_12041 (mj_i G (mj_r G 1589 0) n2))) ∧ K (.inl (q_12041 (mj_i G (mj_r G 1589 0) n2))) G))) ((mj_k G (mj_r G 1589 0) = 20) ∧ mm_ix x3 (mj_l G (mj_r G 1589 0)) (fun n9 => Tq_outAnew_30 (d + 1) x1 (q_12033 x2 (q_12040 (mj_i G (mj_r G 1589 0) n9))) (x3 + nI 1) G K))) : Tq_outAnew_30 (d + 1) x1 x2 x3 G K := by
  obtain ⟨e, rfl⟩ : ∃ e, d = e + 15 := ⟨d - 15, (Nat.sub_add_cancel hd).symm⟩
  refine mk_12021_30 (fun q => ?_) (fun q => ?_)
  · replace h := h.1 q
    obtain ⟨c1, h⟩ := h
    obtain ⟨i3, h⟩ := h
    refine mk_12021_61 (cs_k hS rfl) (cs_r (v := 6) hS rfl) (cs_k hS rfl) (cs_r (v := 1589) hS rfl) (cs_k hS rfl) rfl c1 i3 rfl ?_
    refine mc_12021_75 (q_bc (q_12043_c _ _) (q_12043_b _)) (fun v G1 e => ?_)
    obtain ⟨rfl, rfl⟩ := e
    refine mk_12021_78 (fun q => ?_) (fun q => ?_)
    · replace h := h.2 (bI_z q)
      refine mk_12021_94 ?_
      refine mc_12021_95 (q_12041_c _ _) (fun v G1 e => ?_)
      obtain ⟨rfl, rfl⟩ := e
      obtain ⟨c4, h⟩ := h
      refine mk_12021_98 c4 (cx_I0 hS h)
    · replace h := h.1 (bI_n q)
      refine mk_12021_81 ?_
      refine mc_12021_82 (q_12041_c _ _) (fun v G1 e => ?_)
      obtain ⟨rfl, rfl⟩ := e
      refine mk_12021_85 ?_
      refine mc_12021_87 (q_12044_c _ _) (fun v G1 e => ?_)
      obtain ⟨rfl, rfl⟩ := e
      refine mc_12021_90 h (fun v6 G5 e => ?_)
      obtain ⟨hSG5, h⟩ := e
      obtain ⟨c7, h⟩ := h
      refine mk_12021_93 c7 (cx_I0 hSG5 h)
  · replace h := h.2 q
    obtain ⟨c8, h⟩ := h
    obtain ⟨i10, h⟩ := h
    refine mk_12021_35 (cs_k hS rfl) (cs_r (v := 6) hS rfl) (cs_k hS rfl) (cs_r (v := 1589) hS rfl) (cs_k hS rfl) rfl c8 i10 rfl ?_
    refine mc_12021_48 (q_12040_c _ _) (fun v G1 e => ?_)
    obtain ⟨rfl, rfl⟩ := e
    refine mc_12021_51 (q_12033_c _ _ _) (fun v G1 e => ?_)
    obtain ⟨rfl, rfl⟩ := e
    refine mk_12021_54 ?_
    exact h
/-! 12022: source (I)I -/
theorem w_Tq_source {G : mj_G} (hS : cs_S G) {d : Nat} (hd : 15 ≤ d) (h8 : 8 ≤ (d + 1)) {x1 : Int32} {K : Int32 ⊕ Nat → mj_G → Prop}
    (h : mm_br (x1 < (nI 0)) (K (.inr 17) (mj_al G 18 6 (fun _ => 0))) (mm_br (x1 < (mj_i G 1589 1)) ((mj_k G (mj_r G 1589 0) = 20) ∧ mm_ix x1 (mj_l G (mj_r G 1589 0)) (fun n2 => K (.inl (q_12045 (mj_i G (mj_r G 1589 0) n2))) G)) (K (.inr 17) (mj_al G 18 6 (fun _ => 0))))) : Tq_source (d + 1) x1 G K := by
  obtain ⟨e, rfl⟩ : ∃ e, d = e + 15 := ⟨d - 15, (Nat.sub_add_cancel hd).symm⟩
  refine mk_12022_0 (fun q => ?_) (fun q => ?_)
  · replace h := h.1 q
    refine mk_12022_18 h8 (cx_IT (cs_al hS) h)
  · replace h := h.2 q
    refine mk_12022_4 (cs_k hS rfl) (cs_r (v := 6) hS rfl) (cs_k hS rfl) (cs_r (v := 1589) hS rfl) (cs_k hS rfl) rfl (fun q => ?_) (fun q => ?_)
    · replace h := h.1 q
      obtain ⟨c1, h⟩ := h
      obtain ⟨i3, h⟩ := h
      refine mk_12022_26 (cs_k hS rfl) (cs_r (v := 6) hS rfl) (cs_k hS rfl) (cs_r (v := 1589) hS rfl) (cs_k hS rfl) rfl c1 i3 rfl ?_
      refine mc_12022_38 (q_12045_c _ _) (fun v G1 e => ?_)
      obtain ⟨rfl, rfl⟩ := e
      refine mk_12022_41 (cx_I0 hS h)
    · replace h := h.2 q
      refine mk_12022_18 h8 (cx_IT (cs_al hS) h)
/-! 12023: context (I)I -/
theorem w_Tq_context {G : mj_G} (hS : cs_S G) {d : Nat} (h8 : 8 ≤ d) {x1 : Int32} {K : Int32 ⊕ Nat → mj_G → Prop}
    (h : mm_br (x1 < (nI 0)) (K (.inr 17) (mj_al G 18 6 (fun _ => 0))) (mm_br (x1 ≤ (mj_i G 1589 1)) (mm_ix x1 301 (fun n1 => K (.inl (mj_i G 1592 n1)) G)) (K (.inr 17) (mj_al G 18 6 (fun _ => 0))))) : Tq_context d x1 G K := by
  refine mk_12023_0 (fun q => ?_) (fun q => ?_)
  · replace h := h.1 q
    refine mk_12023_18 h8 (cx_IT (cs_al hS) h)
  · replace h := h.2 q
    refine mk_12023_4 (cs_k hS rfl) (cs_r (v := 6) hS rfl) (cs_k hS rfl) (cs_r (v := 1589) hS rfl) (cs_k hS rfl) rfl (fun q => ?_) (fun q => ?_)
    · replace h := h.1 q
      obtain ⟨i2, h⟩ := h
      refine mk_12023_26 (cs_k hS rfl) (cs_r (v := 6) hS rfl) (cs_k hS rfl) (cs_r (v := 1589) hS rfl) (cs_k hS rfl) (cs_r (v := 1592) hS rfl) (cs_k hS rfl) (mm_v (cs_l (N := 301) hS rfl) i2) rfl (cx_I0 hS h)
    · replace h := h.2 q
      refine mk_12023_18 h8 (cx_IT (cs_al hS) h)
/-! 12024: alike ()I -/
theorem w_Tq_alike {G : mj_G} (hS : cs_S G) {d : Nat} {K : Int32 → mj_G → Prop}
    (h : Ou_alikeAhead d  G (fun v2 G1 => K v2 G1)) : Tq_alike (d + 1) G K := by
  refine mk_12024_0 (cs_k hS rfl) (cs_r (v := 6) hS rfl) (cs_k hS rfl) (cs_r (v := 1589) hS rfl) ?_
  refine mc_12024_7 (cs_k hS rfl) h (fun v2 G1 e => ?_)
  obtain ⟨hSG1, h⟩ := e
  refine mk_12024_10 ⟨_, rfl, hSG1, h⟩
/-! 12025: alikeAtEnd ()I -/
theorem w_Tq_alikeAtEnd {G : mj_G} (hS : cs_S G) {d : Nat} {K : Int32 → mj_G → Prop}
    (h : Ou_alikeBehind d  G (fun v2 G1 => K v2 G1)) : Tq_alikeAtEnd (d + 1) G K := by
  refine mk_12025_0 (cs_k hS rfl) (cs_r (v := 6) hS rfl) (cs_k hS rfl) (cs_r (v := 1589) hS rfl) ?_
  refine mc_12025_7 (cs_k hS rfl) h (fun v2 G1 e => ?_)
  obtain ⟨hSG1, h⟩ := e
  refine mk_12025_10 ⟨_, rfl, hSG1, h⟩
/-! 12026: mayEnd (I)I -/
theorem w_Tq_mayEnd {G : mj_G} (hS : cs_S G) {d : Nat} (h8 : 8 ≤ (d + 1)) {x1 : Int32} {K : Int32 ⊕ Nat → mj_G → Prop}
    (h : mm_br (x1 < (nI 0)) (K (.inr 17) (mj_al G 18 6 (fun _ => 0))) (mm_br (x1 < (nI 10)) (mm_ix x1 10 (fun n1 => (mj_k G (mj_r G 7 n1) = 11) ∧ Fo_through d (mj_r G (mj_r G 7 n1) 0) (nI 1) (mj_i G (mj_r G 7 n1) 3) (nI 0) G (fun v5 G4 => K (.inl v5) G4))) (K (.inr 17) (mj_al G 18 6 (fun _ => 0))))) : Tq_mayEnd (d + 1) x1 G K := by
  refine mk_12026_0 (fun q => ?_) (fun q => ?_)
  · replace h := h.1 q
    refine mk_12026_10 h8 (cx_IT (cs_al hS) h)
  · replace h := h.2 q
    refine mk_12026_4 (fun q => ?_) (fun q => ?_)
    · replace h := h.1 q
      obtain ⟨i2, h⟩ := h
      obtain ⟨c3, h⟩ := h
      refine mk_12026_18 (cs_k hS rfl) (cs_r (v := 6) hS rfl) (cs_k hS rfl) (cs_r (v := 7) hS rfl) (cs_kg hS rfl) (mm_v (cs_l (N := 10) hS rfl) i2) rfl c3 rfl c3 rfl ?_
      refine mc_12026_38 h (fun v5 G4 e => ?_)
      obtain ⟨hSG4, h⟩ := e
      refine mk_12026_41 (cx_I0 hSG4 h)
    · replace h := h.2 q
      refine mk_12026_10 h8 (cx_IT (cs_al hS) h)
/-! 12027: shape (CI)I -/
theorem w_Tq_shape {G : mj_G} (hS : cs_S G) {d : Nat} (hd : 15 ≤ d) (h8 : 8 ≤ (d + 1)) {x1 : Int32} {x2 : Int32} {K : Int32 ⊕ Nat → mj_G → Prop}
    (h : mm_br (qb (q_12029 x1) = true) (mm_br (x2 < (nI 1)) (K (.inr 15) (mj_al G 16 6 (fun _ => 0))) (mm_br (x2 ≤ (nI 15)) (mm_ix (x1 - (nI 97)) 26 (fun n1 => mm_ix (x1 - (nI 97)) 26 (fun n3 => ∀ G5, G5 = mj_pI G 5 n3 x2 → K (.inl (mj_i G 5 n1)) G5))) (K (.inr 15) (mj_al G 16 6 (fun _ => 0))))) (K (.inr 15) (mj_al G 16 6 (fun _ => 0)))) : Tq_shape (d + 1) x1 x2 G K := by
  obtain ⟨e, rfl⟩ : ∃ e, d = e + 15 := ⟨d - 15, (Nat.sub_add_cancel hd).symm⟩
  refine mk_12027_0 ?_
  refine mc_12027_1 (q_bc (q_12029_c _ _) (q_12029_b _)) (fun v G1 e => ?_)
  obtain ⟨rfl, rfl⟩ := e
  refine mk_12027_4 (fun q => ?_) (fun q => ?_)
  · replace h := h.2 (bI_z q)
    refine mk_12027_18 h8 (cx_IT (cs_al hS) h)
  · replace h := h.1 (bI_n q)
    refine mk_12027_7 (fun q => ?_) (fun q => ?_)
    · replace h := h.1 q
      refine mk_12027_18 h8 (cx_IT (cs_al hS) h)
    · replace h := h.2 q
      refine mk_12027_12 (fun q => ?_) (fun q => ?_)
      · replace h := h.1 q
        obtain ⟨i2, h⟩ := h
        obtain ⟨i4, h⟩ := h
        replace h := h _ rfl
        refine mk_12027_26 (cs_k hS rfl) (cs_r (v := 5) hS rfl) (cs_k hS rfl) (mm_v (cs_l (N := 26) hS rfl) i2) rfl (cs_k hS rfl) (cs_r (v := 5) hS rfl) (cs_k hS rfl) (by decide) (mm_v (cs_l (N := 26) hS rfl) i4) rfl (cx_I0 (cs_pI hS) h)
      · replace h := h.2 q
        refine mk_12027_18 h8 (cx_IT (cs_al hS) h)
/-! 12028: check (I)I -/
theorem w_Tq_check {G : mj_G} (hS : cs_S G) {d : Nat} (h8 : 8 ≤ (d + 1)) {x1 : Int32} {K : Int32 ⊕ Nat → mj_G → Prop}
    (h : mm_br (x1 < (nI 0)) (K (.inr 17) (mj_al G 18 6 (fun _ => 0))) (mm_br (x1 < (nI 10)) (mm_ix x1 10 (fun n1 => (mj_k G (mj_r G 7 n1) = 11) ∧ Fo_firstFailing d (mj_r G (mj_r G 7 n1) 0) 5 (nI 0) G (fun v5 G4 => K (.inl v5) G4))) (K (.inr 17) (mj_al G 18 6 (fun _ => 0))))) : Tq_check (d + 1) x1 G K := by
  refine mk_12028_0 (fun q => ?_) (fun q => ?_)
  · replace h := h.1 q
    refine mk_12028_10 h8 (cx_IT (cs_al hS) h)
  · replace h := h.2 q
    refine mk_12028_4 (fun q => ?_) (fun q => ?_)
    · replace h := h.1 q
      obtain ⟨i2, h⟩ := h
      obtain ⟨c3, h⟩ := h
      refine mk_12028_18 (cs_k hS rfl) (cs_r (v := 6) hS rfl) (cs_k hS rfl) (cs_r (v := 7) hS rfl) (cs_kg hS rfl) (mm_v (cs_l (N := 10) hS rfl) i2) rfl c3 rfl (cs_k hS rfl) (cs_r (v := 5) hS rfl) ?_
      refine mc_12028_35 h (fun v5 G4 e => ?_)
      obtain ⟨hSG4, h⟩ := e
      refine mk_12028_38 (cx_I0 hSG4 h)
    · replace h := h.2 q
      refine mk_12028_10 h8 (cx_IT (cs_al hS) h)
/-! 12031: copyOf ([CII)[C -/
theorem w_Tq_copyOf {G : mj_G} (hS : cs_S G) {d : Nat} {r0 : Nat} {x1 : Int32} {x2 : Int32} {K : Nat → mj_G → Prop}
    (h : mm_br (x1 < (nI 0)) (K 2 G) (mm_br (x2 < x1) (K 2 G) ((20 ≤ mj_k G r0) ∧ mm_br (x2 ≤ (nI (mj_l G r0))) (mm_nw (x2 - x1) (fun n2 => ∀ G4, G4 = mj_al G 22 n2 (fun _ => 0) → (20 ≤ mj_k G4 (mj_n G)) ∧ mm_cpy G4 r0 x1 (mj_n G) (nI 0) (nI (mj_l G4 (mj_n G))) (fun n6 n7 n8 => ∀ G18, G18 = mj_cp G4 r0 n6 (mj_n G) n7 n8 → K (mj_n G) G18))) (K 2 G)))) : Tq_copyOf d r0 x1 x2 G K := by
  refine mk_12031_0 (fun q => ?_) (fun q => ?_)
  · replace h := h.1 q
    refine mk_12031_15 ⟨_, rfl, hS, h⟩
  · replace h := h.2 q
    refine mk_12031_4 (fun q => ?_) (fun q => ?_)
    · replace h := h.1 q
      refine mk_12031_15 ⟨_, rfl, hS, h⟩
    · replace h := h.2 q
      obtain ⟨c1, h⟩ := h
      refine mk_12031_9 c1 rfl (fun q => ?_) (fun q => ?_)
      · replace h := h.1 q
        obtain ⟨i3, i32, h⟩ := h
        replace h := h _ rfl
        obtain ⟨c5, h⟩ := h
        obtain ⟨c9, c10, c11, c12, c13, c14, c15, c16, c17, h⟩ := h
        replace h := h _ rfl
        refine mk_12031_19 i3 i32 rfl rfl c5 rfl c9 c10 c11 c12 c13 c14 c15 c16 c17 rfl ⟨_, rfl, (cs_cp (cs_al hS)), h⟩
      · replace h := h.2 q
        refine mk_12031_15 ⟨_, rfl, hS, h⟩
/-! 12032: writeDigits (I[CI)I -/
set_option maxRecDepth 100000 in
theorem w_Tq_writeDigits {G : mj_G} (hS : cs_S G) {d : Nat} {x0 : Int32} {r1 : Nat} {x2 : Int32} {K : Int32 → mj_G → Prop}
    (h : mm_br ((nI 0) ≤ x0) (mm_br ((nI 0) ≤ x0) (Tq_writeDigits_29 d x0 r1 x2 x0.toInt64 (nI 1) (lN 10) G K) (Tq_writeDigits_29 d x0 r1 x2 x0.toInt64 (nI 2) (lN 10) G K)) (mm_br ((nI 0) ≤ x0) (Tq_writeDigits_29 d x0 r1 x2 (-x0.toInt64) (nI 1) (lN 10) G K) (Tq_writeDigits_29 d x0 r1 x2 (-x0.toInt64) (nI 2) (lN 10) G K))) : Tq_writeDigits d x0 r1 x2 G K := by
  refine mk_12032_0 (fun q => ?_) (fun q => ?_)
  · replace h := h.1 q
    refine mk_12032_10 ?_
    refine mk_12032_12 (fun q => ?_) (fun q => ?_)
    · replace h := h.1 q
      refine mk_12032_21 ?_
      refine mk_12032_22 ?_
      exact h
    · replace h := h.2 q
      refine mk_12032_17 ?_
      refine mk_12032_22 ?_
      exact h
  · replace h := h.2 q
    refine mk_12032_4 ?_
    refine mk_12032_12 (fun q => ?_) (fun q => ?_)
    · replace h := h.1 q
      refine mk_12032_21 ?_
      refine mk_12032_22 ?_
      exact h
    · replace h := h.2 q
      refine mk_12032_17 ?_
      refine mk_12032_22 ?_
      exact h
set_option maxRecDepth 100000 in
theorem w_Tq_writeDigits_29 {G : mj_G} (hS : cs_S G) {d : Nat} {x0 : Int32} {r1 : Nat} {x2 : Int32} {y3 : Int64} {x5 : Int32} {y6 : Int64} {K : Int32 → mj_G → Prop}
    (h : mm_br ((nI 0) < (lg_cmp y6 y3)) (mm_br (x2 < (nI 0)) (K x2 G) ((20 ≤ mj_k G r1) ∧ mm_br (x2 ≤ ((nI (mj_l G r1)) - x5)) (mm_br ((nI 0) ≤ x0) (mm_br ((nI 0) ≤ x0) (Tq_writeDigits_95 d r1 x2 y3 x5 x2 ((x2 + x5) - (nI 1)) G K) (Tq_writeDigits_95 d r1 x2 y3 x5 (x2 + (nI 1)) ((x2 + x5) - (nI 1)) G K)) ((mj_k G r1 = 22) ∧ (3 ≤ r1) ∧ mm_ix x2 (mj_l G r1) (fun n4 => ∀ G6, G6 = mj_pI G r1 n4 (nI 45) → mm_br ((nI 0) ≤ x0) (Tq_writeDigits_95 d r1 x2 y3 x5 x2 ((x2 + x5) - (nI 1)) G6 K) (Tq_writeDigits_95 d r1 x2 y3 x5 (x2 + (nI 1)) ((x2 + x5) - (nI 1)) G6 K)))) (K x2 G))) (Tq_writeDigits_29 d x0 r1 x2 y3 (x5 + nI 1) (y6 * (lN 10)) G K)) : Tq_writeDigits_29 d x0 r1 x2 y3 x5 y6 G K := by
  refine mk_12032_29 (fun q => ?_) (fun q => ?_)
  · replace h := h.1 q
    refine mk_12032_50 (fun q => ?_) (fun q => ?_)
    · replace h := h.1 q
      refine mk_12032_63 ⟨_, rfl, hS, h⟩
    · replace h := h.2 q
      obtain ⟨c1, h⟩ := h
      refine mk_12032_54 c1 rfl (fun q => ?_) (fun q => ?_)
      · replace h := h.1 q
        refine mk_12032_65 (fun q => ?_) (fun q => ?_)
        · replace h := h.1 q
          refine mk_12032_74 (fun q => ?_) (fun q => ?_)
          · replace h := h.1 q
            refine mk_12032_84 ?_
            refine mk_12032_85 ?_
            exact h
          · replace h := h.2 q
            refine mk_12032_78 ?_
            refine mk_12032_85 ?_
            exact h
        · replace h := h.2 q
          obtain ⟨c2, h⟩ := h
          obtain ⟨c3, h⟩ := h
          obtain ⟨i5, h⟩ := h
          replace h := h _ rfl
          refine mk_12032_69 c2 c3 i5 ⟨by decide, by decide⟩ rfl ?_
          refine mk_12032_74 (fun q => ?_) (fun q => ?_)
          · replace h := h.1 q
            refine mk_12032_84 ?_
            refine mk_12032_85 ?_
            exact h
          · replace h := h.2 q
            refine mk_12032_78 ?_
            refine mk_12032_85 ?_
            exact h
      · replace h := h.2 q
        refine mk_12032_63 ⟨_, rfl, hS, h⟩
  · replace h := h.2 q
    refine mk_12032_36 ?_
    exact h
set_option maxRecDepth 100000 in
theorem w_Tq_writeDigits_95 {G : mj_G} (hS : cs_S G) {d : Nat} {r1 : Nat} {x2 : Int32} {y3 : Int64} {x5 : Int32} {x6 : Int32} {x7 : Int32} {K : Int32 → mj_G → Prop}
    (h : mm_br (x7 < x6) (K (x2 + x5) G) ((mj_k G r1 = 22) ∧ (3 ≤ r1) ∧ mm_ix x7 (mj_l G r1) (fun n9 => ∀ G11, G11 = mj_pI G r1 n9 (mm_ch (((lN 48) + (mm_reml y3 (lN 10))).toInt32)) → Tq_writeDigits_95 d r1 x2 (y3 / (lN 10)) x5 x6 (x7 + (Int32.ofInt (-1))) G11 K))) : Tq_writeDigits_95 d r1 x2 y3 x5 x6 x7 G K := by
  refine mk_12032_95 (fun q => ?_) (fun q => ?_)
  · replace h := h.1 q
    refine mk_12032_129 ⟨_, rfl, hS, h⟩
  · replace h := h.2 q
    obtain ⟨c7, h⟩ := h
    obtain ⟨c8, h⟩ := h
    obtain ⟨i10, h⟩ := h
    replace h := h _ rfl
    refine mk_12032_102 (by decide) rfl c7 c8 i10 (q_i2c_c _) rfl (by decide) ?_
    exact h
/-! 12035: escaped (CII)C -/
theorem w_Tq_escaped {G : mj_G} (hS : cs_S G) {d : Nat} (hd : 15 ≤ d) {x0 : Int32} {x1 : Int32} {x2 : Int32} {K : Int32 → mj_G → Prop}
    (h : mm_br (x1 = (nI 7)) (mm_br (x0 = (nI 39)) (K (nI 95) G) (mm_br (x0 = (nI 92)) (K (nI 95) G) (mm_br (x0 = (nI 60)) (K (nI 95) G) ((mj_c x0) ∧ K x0 G)))) (mm_br (x1 = (nI 0)) (mm_br ((q_12036 x0) = (nI 0)) ((mj_c x0) ∧ K x0 G) (mm_br (x2 = (nI 0)) (K (nI 38) G) (mm_br (x2 = (nI 1)) ((mj_c (q_12036 x0)) ∧ K (q_12036 x0) G) (K (nI 59) G)))) (mm_br (x1 = (nI 3)) (mm_br ((q_12036 x0) = (nI 0)) ((mj_c x0) ∧ K x0 G) (mm_br (x2 = (nI 0)) (K (nI 38) G) (mm_br (x2 = (nI 1)) ((mj_c (q_12036 x0)) ∧ K (q_12036 x0) G) (K (nI 59) G)))) (mm_br (x1 = (nI 5)) (mm_br ((q_12036 x0) = (nI 0)) ((mj_c x0) ∧ K x0 G) (mm_br (x2 = (nI 0)) (K (nI 38) G) (mm_br (x2 = (nI 1)) ((mj_c (q_12036 x0)) ∧ K (q_12036 x0) G) (K (nI 59) G)))) ((mj_c x0) ∧ K x0 G))))) : Tq_escaped (d + 1) x0 x1 x2 G K := by
  obtain ⟨e, rfl⟩ : ∃ e, d = e + 15 := ⟨d - 15, (Nat.sub_add_cancel hd).symm⟩
  refine mk_12035_0 (fun q => ?_) (fun q => ?_)
  · replace h := h.2 q
    refine mk_12035_31 (fun q => ?_) (fun q => ?_)
    · replace h := h.1 q
      refine mk_12035_45 ?_
      refine mc_12035_46 (q_12036_c _ _) (fun v G1 e => ?_)
      obtain ⟨rfl, rfl⟩ := e
      refine mk_12035_49 ?_
      refine mk_12035_53 (fun q => ?_) (fun q => ?_)
      · replace h := h.2 q
        refine mk_12035_62 (fun q => ?_) (fun q => ?_)
        · replace h := h.2 q
          refine mk_12035_71 (fun q => ?_) (fun q => ?_)
          · replace h := h.2 q
            refine mk_12035_80 ?_
            refine mk_12035_82 (by unfold mj_c; decide) ⟨_, rfl, hS, h⟩
          · replace h := h.1 q
            refine mk_12035_76 ?_
            obtain ⟨c1, h⟩ := h
            refine mk_12035_82 c1 ⟨_, rfl, hS, h⟩
        · replace h := h.1 q
          refine mk_12035_66 ?_
          refine mk_12035_82 (by unfold mj_c; decide) ⟨_, rfl, hS, h⟩
      · replace h := h.1 q
        refine mk_12035_58 ?_
        obtain ⟨c2, h⟩ := h
        refine mk_12035_82 c2 ⟨_, rfl, hS, h⟩
    · replace h := h.2 q
      refine mk_12035_35 (fun q => ?_) (fun q => ?_)
      · replace h := h.1 q
        refine mk_12035_45 ?_
        refine mc_12035_46 (q_12036_c _ _) (fun v G1 e => ?_)
        obtain ⟨rfl, rfl⟩ := e
        refine mk_12035_49 ?_
        refine mk_12035_53 (fun q => ?_) (fun q => ?_)
        · replace h := h.2 q
          refine mk_12035_62 (fun q => ?_) (fun q => ?_)
          · replace h := h.2 q
            refine mk_12035_71 (fun q => ?_) (fun q => ?_)
            · replace h := h.2 q
              refine mk_12035_80 ?_
              refine mk_12035_82 (by unfold mj_c; decide) ⟨_, rfl, hS, h⟩
            · replace h := h.1 q
              refine mk_12035_76 ?_
              obtain ⟨c3, h⟩ := h
              refine mk_12035_82 c3 ⟨_, rfl, hS, h⟩
          · replace h := h.1 q
            refine mk_12035_66 ?_
            refine mk_12035_82 (by unfold mj_c; decide) ⟨_, rfl, hS, h⟩
        · replace h := h.1 q
          refine mk_12035_58 ?_
          obtain ⟨c4, h⟩ := h
          refine mk_12035_82 c4 ⟨_, rfl, hS, h⟩
      · replace h := h.2 q
        refine mk_12035_40 (fun q => ?_) (fun q => ?_)
        · replace h := h.2 q
          refine mk_12035_52 ?_
          refine mk_12035_53 (fun q => absurd q (by decide)) (fun _ => ?_)
          refine mk_12035_58 ?_
          obtain ⟨c5, h⟩ := h
          refine mk_12035_82 c5 ⟨_, rfl, hS, h⟩
        · replace h := h.1 q
          refine mk_12035_45 ?_
          refine mc_12035_46 (q_12036_c _ _) (fun v G1 e => ?_)
          obtain ⟨rfl, rfl⟩ := e
          refine mk_12035_49 ?_
          refine mk_12035_53 (fun q => ?_) (fun q => ?_)
          · replace h := h.2 q
            refine mk_12035_62 (fun q => ?_) (fun q => ?_)
            · replace h := h.2 q
              refine mk_12035_71 (fun q => ?_) (fun q => ?_)
              · replace h := h.2 q
                refine mk_12035_80 ?_
                refine mk_12035_82 (by unfold mj_c; decide) ⟨_, rfl, hS, h⟩
              · replace h := h.1 q
                refine mk_12035_76 ?_
                obtain ⟨c6, h⟩ := h
                refine mk_12035_82 c6 ⟨_, rfl, hS, h⟩
            · replace h := h.1 q
              refine mk_12035_66 ?_
              refine mk_12035_82 (by unfold mj_c; decide) ⟨_, rfl, hS, h⟩
          · replace h := h.1 q
            refine mk_12035_58 ?_
            obtain ⟨c7, h⟩ := h
            refine mk_12035_82 c7 ⟨_, rfl, hS, h⟩
  · replace h := h.1 q
    refine mk_12035_6 (fun q => ?_) (fun q => ?_)
    · replace h := h.1 q
      refine mk_12035_24 ?_
      refine mk_12035_30 (by unfold mj_c; decide) ⟨_, rfl, hS, h⟩
    · replace h := h.2 q
      refine mk_12035_12 (fun q => ?_) (fun q => ?_)
      · replace h := h.1 q
        refine mk_12035_24 ?_
        refine mk_12035_30 (by unfold mj_c; decide) ⟨_, rfl, hS, h⟩
      · replace h := h.2 q
        refine mk_12035_18 (fun q => ?_) (fun q => ?_)
        · replace h := h.2 q
          refine mk_12035_29 ?_
          obtain ⟨c8, h⟩ := h
          refine mk_12035_30 c8 ⟨_, rfl, hS, h⟩
        · replace h := h.1 q
          refine mk_12035_24 ?_
          refine mk_12035_30 (by unfold mj_c; decide) ⟨_, rfl, hS, h⟩
