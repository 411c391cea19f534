/-! LAWS OF THE CLASS, 2 -/
/-! 1001: found ()LTemplateQuarry$Value; -/
theorem w_Fi_found {G : mj_G} (hS : cs_S G) {d : Nat} {K : Nat → mj_G → Prop}
    (h : mm_ix (nI 0) 40 (fun n1 => K (1509 + 2 * n1) G)) : Fi_found d G K := by
  obtain ⟨i2, h⟩ := h
  refine mk_1001_0 (cs_k hS rfl) (cs_r (v := 1507) hS rfl) (cs_kg hS rfl) (mm_v (cs_l (N := 40) hS rfl) i2) (cs_f1507 hS (mm_lt i2)) ⟨_, rfl, hS, h⟩
/-! 1002: find (LTemplateQuarry$Expression;III)I -/
set_option maxRecDepth 100000 in
theorem w_Fi_find {G : mj_G} (hS : cs_S G) {d : Nat} {r1 : Nat} {x2 : Int32} {x3 : Int32} {x4 : Int32} {K : Int32 → mj_G → Prop}
    (h : mm_br (r1 = 0) (K ((Int32.ofInt (-8))) G) (mm_br ((nI 40) ≤ x3) (K ((Int32.ofInt (-8))) G) (mm_br (x4 < (nI 90)) (mm_ix x3 40 (fun n1 => (mj_k G r1 = 1) ∧ mm_br ((mj_i G r1 0) = nI 1) (Va_setNumber d (1509 + 2 * n1) (mj_i G r1 1) G (fun G4 => K (nI 0) G4)) (mm_br ((mj_i G r1 0) = nI 2) ((20 ≤ mj_k G (mj_r G r1 3)) ∧ Va_setText d (1509 + 2 * n1) (mj_r G r1 3) (nI (mj_l G (mj_r G r1 3))) (nI 1) G (fun G6 => K (nI 0) G6)) (mm_br ((mj_i G r1 0) = nI 3) (St_read d x2 (mj_i G r1 1) G (fun v8 G7 => (mj_k G7 (1509 + 2 * n1) = 12) ∧ Va_refer d (1509 + 2 * n1) v8 G7 (fun G10 => K (nI 0) G10))) (mm_br ((mj_i G r1 0) = nI 4) (St_read d x2 (mj_i G r1 1) G (fun v12 G11 => (mj_k G11 r1 = 1) ∧ Fi_findItem d (1509 + 2 * n1) v12 (mj_i G11 r1 2) G11 (fun v15 G14 => K v15 G14))) (Fi_findFromParts d r1 x2 x3 x4 G (fun v17 G16 => K v17 G16))))))) (K ((Int32.ofInt (-8))) G)))) : Fi_find (d + 1) r1 x2 x3 x4 G K := by
  refine mk_1002_0 (fun q => ?_) (fun q => ?_)
  · replace h := h.1 q
    refine mk_1002_17 ⟨_, rfl, hS, h⟩
  · replace h := h.2 q
    refine mk_1002_4 (fun q => ?_) (fun q => ?_)
    · replace h := h.1 q
      refine mk_1002_17 ⟨_, rfl, hS, h⟩
    · replace h := h.2 q
      refine mk_1002_10 (fun q => ?_) (fun q => ?_)
      · replace h := h.1 q
        obtain ⟨i2, h⟩ := h
        obtain ⟨c3, h⟩ := h
        refine mk_1002_20 (cs_k hS rfl) (cs_r (v := 1507) hS rfl) (cs_kg hS rfl) (mm_v (cs_l (N := 40) hS rfl) i2) (cs_f1507 hS (mm_lt i2)) c3 rfl (fun q => ?_) (fun q => ?_) (fun q => ?_) (fun q => ?_) (fun n1 n2 n3 n4 => ?_)
        · replace h := h.1 q
          refine mk_1002_64 c3 rfl ?_
          refine mc_1002_70 ((cs_g1507 hS (mm_lt i2)).trans rfl) h (fun G4 e => ?_)
          obtain ⟨hSG4, h⟩ := e
          refine mk_1002_73 ⟨_, rfl, hSG4, h⟩
        · replace h := (h.2 (fun e => absurd (e.symm.trans q) (by decide))).1 q
          obtain ⟨c5, h⟩ := h
          refine mk_1002_75 c3 rfl c3 rfl c5 rfl ?_
          refine mc_1002_87 ((cs_g1507 hS (mm_lt i2)).trans rfl) h (fun G6 e => ?_)
          obtain ⟨hSG6, h⟩ := e
          refine mk_1002_90 ⟨_, rfl, hSG6, h⟩
        · replace h := ((h.2 (fun e => absurd (e.symm.trans q) (by decide))).2 (fun e => absurd (e.symm.trans q) (by decide))).1 q
          refine mk_1002_92 (cs_k hS rfl) (cs_r (v := 11) hS rfl) c3 rfl ?_
          refine mc_1002_103 (cs_k hS rfl) h (fun v8 G7 e => ?_)
          obtain ⟨hSG7, h⟩ := e
          obtain ⟨c9, h⟩ := h
          refine mc_1002_106 c9 h (fun G10 e => ?_)
          obtain ⟨hSG10, h⟩ := e
          refine mk_1002_109 ⟨_, rfl, hSG10, h⟩
        · replace h := (((h.2 (fun e => absurd (e.symm.trans q) (by decide))).2 (fun e => absurd (e.symm.trans q) (by decide))).2 (fun e => absurd (e.symm.trans q) (by decide))).1 q
          refine mk_1002_111 (cs_k hS rfl) (cs_r (v := 11) hS rfl) c3 rfl ?_
          refine mc_1002_122 (cs_k hS rfl) h (fun v12 G11 e => ?_)
          obtain ⟨hSG11, h⟩ := e
          obtain ⟨c13, h⟩ := h
          refine mk_1002_125 c13 rfl ?_
          refine mc_1002_129 h (fun v15 G14 e => ?_)
          obtain ⟨hSG14, h⟩ := e
          refine mk_1002_132 ⟨_, rfl, hSG14, h⟩
        · replace h := ((((h.2 n1).2 n2).2 n3).2 n4)
          refine mk_1002_133 ?_
          refine mc_1002_139 (cs_k hS rfl) h (fun v17 G16 e => ?_)
          obtain ⟨hSG16, h⟩ := e
          refine mk_1002_142 ⟨_, rfl, hSG16, h⟩
      · replace h := h.2 q
        refine mk_1002_17 ⟨_, rfl, hS, h⟩
/-! 1003: findFromParts (LTemplateQuarry$Expression;III)I -/
set_option maxRecDepth 100000 in
theorem w_Fi_findFromParts {G : mj_G} (hS : cs_S G) {d : Nat} {r1 : Nat} {x2 : Int32} {x3 : Int32} {x4 : Int32} {K : Int32 → mj_G → Prop}
    (h : (mj_k G r1 = 1) ∧ Fi_find d (mj_r G r1 4) x2 x3 (x4 + (nI 1)) G (fun v3 G2 => mm_ix x3 40 (fun n4 => mm_br (v3 = (nI 0)) ((mj_k G2 r1 = 1) ∧ Fi_isEnough d (mj_i G2 r1 0) (1509 + 2 * n4) G2 (fun v8 G7 => mm_br (v8 = true) (K v3 G7) ((mj_k G7 r1 = 1) ∧ mm_br ((mj_i G7 r1 0) = nI 33) ((mj_k G7 (1509 + 2 * n4) = 12) ∧ Va_isTrue d (1509 + 2 * n4) G7 (fun v12 G11 => mm_br (v12 = true) ((mj_k G11 (1509 + 2 * n4) = 12) ∧ Va_setNumber d (1509 + 2 * n4) (nI 0) G11 (fun G16 => K (nI 0) G16)) ((mj_k G11 (1509 + 2 * n4) = 12) ∧ Va_setNumber d (1509 + 2 * n4) (nI 1) G11 (fun G14 => K (nI 0) G14)))) (mm_br ((mj_i G7 r1 0) = nI 63) (Fi_find d (mj_r G7 r1 5) x2 x3 (x4 + (nI 1)) G7 (fun v18 G17 => K v18 G17)) (mm_br ((mj_i G7 r1 0) = nI 100) (Fi_find d (mj_r G7 r1 5) x2 x3 (x4 + (nI 1)) G7 (fun v20 G19 => K v20 G19)) (mm_br ((mj_i G7 r1 0) = nI 106) (Fi_joinItems d (1509 + 2 * n4) G7 (fun v22 G21 => K v22 G21)) (mm_br ((mj_i G7 r1 0) = nI 108) (Fi_filter d (mj_i G7 r1 0) (1509 + 2 * n4) G7 (fun v24 G23 => K v24 G23)) (mm_br ((mj_i G7 r1 0) = nI 110) (Fi_filter d (mj_i G7 r1 0) (1509 + 2 * n4) G7 (fun v26 G25 => K v26 G25)) (mm_br ((mj_i G7 r1 0) = nI 114) (Fi_filter d (mj_i G7 r1 0) (1509 + 2 * n4) G7 (fun v28 G27 => K v28 G27)) (mm_br ((mj_i G7 r1 0) = nI 117) (Fi_filter d (mj_i G7 r1 0) (1509 + 2 * n4) G7 (fun v30 G29 => K v30 G29)) (Fi_find d (mj_r G7 r1 5) x2 (x3 + (nI 1)) (x4 + (nI 1)) G7 (fun v32 G31 => mm_br (v32 = (nI 0)) ((mj_k G31 r1 = 1) ∧ mm_ix (x3 + (nI 1)) 40 (fun n34 => Fi_operate d (mj_i G31 r1 0) (1509 + 2 * n4) (1509 + 2 * n34) G31 (fun v37 G36 => K v37 G36))) (K v32 G31))))))))))))) (K v3 G2)))) : Fi_findFromParts (d + 1) r1 x2 x3 x4 G K := by
  obtain ⟨c1, h⟩ := h
  refine mk_1003_0 c1 rfl ?_
  refine mc_1003_11 (cs_k hS rfl) h (fun v3 G2 e => ?_)
  obtain ⟨hSG2, h⟩ := e
  obtain ⟨i5, h⟩ := h
  refine mk_1003_14 (cs_k hSG2 rfl) (cs_r (v := 1507) hSG2 rfl) (cs_kg hSG2 rfl) (mm_v (cs_l (N := 40) hSG2 rfl) i5) (cs_f1507 hSG2 (mm_lt i5)) (fun q => ?_) (fun q => ?_)
  · replace h := h.2 q
    refine mk_1003_41 ⟨_, rfl, hSG2, h⟩
  · replace h := h.1 q
    obtain ⟨c6, h⟩ := h
    refine mk_1003_29 c6 rfl ?_
    refine mc_1003_35 (cc_z h) (fun v0 G7 e => ?_)
    obtain ⟨v8, rfl, hSG7, h⟩ := e
    refine mk_1003_38 (fun q => ?_) (fun q => ?_)
    · replace h := h.2 (bI_z q)
      obtain ⟨c9, h⟩ := h
      refine mk_1003_44 c9 rfl (fun q => ?_) (fun q => ?_) (fun q => ?_) (fun q => ?_) (fun q => ?_) (fun q => ?_) (fun q => ?_) (fun q => ?_) (fun n1 n2 n3 n4 n5 n6 n7 n8 => ?_)
      · replace h := h.1 q
        refine mk_1003_139 ?_
        obtain ⟨c10, h⟩ := h
        refine mc_1003_143 c10 (cc_z h) (fun v0 G11 e => ?_)
        obtain ⟨v12, rfl, hSG11, h⟩ := e
        refine mk_1003_146 (fun q => ?_) (fun q => ?_)
        · replace h := h.2 (bI_z q)
          refine mk_1003_153 ?_
          obtain ⟨c13, h⟩ := h
          refine mc_1003_154 c13 h (fun G14 e => ?_)
          obtain ⟨hSG14, h⟩ := e
          refine mk_1003_157 ⟨_, rfl, hSG14, h⟩
        · replace h := h.1 (bI_n q)
          refine mk_1003_149 ?_
          obtain ⟨c15, h⟩ := h
          refine mc_1003_154 c15 h (fun G16 e => ?_)
          obtain ⟨hSG16, h⟩ := e
          refine mk_1003_157 ⟨_, rfl, hSG16, h⟩
      · replace h := (h.2 (fun e => absurd (e.symm.trans q) (by decide))).1 q
        refine mk_1003_124 c9 rfl ?_
        refine mc_1003_135 (cs_k hSG7 rfl) h (fun v18 G17 e => ?_)
        obtain ⟨hSG17, h⟩ := e
        refine mk_1003_138 ⟨_, rfl, hSG17, h⟩
      · replace h := ((h.2 (fun e => absurd (e.symm.trans q) (by decide))).2 (fun e => absurd (e.symm.trans q) (by decide))).1 q
        refine mk_1003_124 c9 rfl ?_
        refine mc_1003_135 (cs_k hSG7 rfl) h (fun v20 G19 e => ?_)
        obtain ⟨hSG19, h⟩ := e
        refine mk_1003_138 ⟨_, rfl, hSG19, h⟩
      · replace h := (((h.2 (fun e => absurd (e.symm.trans q) (by decide))).2 (fun e => absurd (e.symm.trans q) (by decide))).2 (fun e => absurd (e.symm.trans q) (by decide))).1 q
        refine mk_1003_159 ?_
        refine mc_1003_162 (cs_k hSG7 rfl) h (fun v22 G21 e => ?_)
        obtain ⟨hSG21, h⟩ := e
        refine mk_1003_165 ⟨_, rfl, hSG21, h⟩
      · replace h := ((((h.2 (fun e => absurd (e.symm.trans q) (by decide))).2 (fun e => absurd (e.symm.trans q) (by decide))).2 (fun e => absurd (e.symm.trans q) (by decide))).2 (fun e => absurd (e.symm.trans q) (by decide))).1 q
        refine mk_1003_166 c9 rfl ?_
        refine mc_1003_172 h (fun v24 G23 e => ?_)
        obtain ⟨hSG23, h⟩ := e
        refine mk_1003_175 ⟨_, rfl, hSG23, h⟩
      · replace h := (((((h.2 (fun e => absurd (e.symm.trans q) (by decide))).2 (fun e => absurd (e.symm.trans q) (by decide))).2 (fun e => absurd (e.symm.trans q) (by decide))).2 (fun e => absurd (e.symm.trans q) (by decide))).2 (fun e => absurd (e.symm.trans q) (by decide))).1 q
        refine mk_1003_166 c9 rfl ?_
        refine mc_1003_172 h (fun v26 G25 e => ?_)
        obtain ⟨hSG25, h⟩ := e
        refine mk_1003_175 ⟨_, rfl, hSG25, h⟩
      · replace h := ((((((h.2 (fun e => absurd (e.symm.trans q) (by decide))).2 (fun e => absurd (e.symm.trans q) (by decide))).2 (fun e => absurd (e.symm.trans q) (by decide))).2 (fun e => absurd (e.symm.trans q) (by decide))).2 (fun e => absurd (e.symm.trans q) (by decide))).2 (fun e => absurd (e.symm.trans q) (by decide))).1 q
        refine mk_1003_166 c9 rfl ?_
        refine mc_1003_172 h (fun v28 G27 e => ?_)
        obtain ⟨hSG27, h⟩ := e
        refine mk_1003_175 ⟨_, rfl, hSG27, h⟩
      · replace h := (((((((h.2 (fun e => absurd (e.symm.trans q) (by decide))).2 (fun e => absurd (e.symm.trans q) (by decide))).2 (fun e => absurd (e.symm.trans q) (by decide))).2 (fun e => absurd (e.symm.trans q) (by decide))).2 (fun e => absurd (e.symm.trans q) (by decide))).2 (fun e => absurd (e.symm.trans q) (by decide))).2 (fun e => absurd (e.symm.trans q) (by decide))).1 q
        refine mk_1003_166 c9 rfl ?_
        refine mc_1003_172 h (fun v30 G29 e => ?_)
        obtain ⟨hSG29, h⟩ := e
        refine mk_1003_175 ⟨_, rfl, hSG29, h⟩
      · replace h := ((((((((h.2 n1).2 n2).2 n3).2 n4).2 n5).2 n6).2 n7).2 n8)
        refine mk_1003_176 c9 rfl ?_
        refine mc_1003_189 (cs_k hSG7 rfl) h (fun v32 G31 e => ?_)
        obtain ⟨hSG31, h⟩ := e
        refine mk_1003_192 (fun q => ?_) (fun q => ?_)
        · replace h := h.1 q
          obtain ⟨c33, h⟩ := h
          obtain ⟨i35, h⟩ := h
          refine mk_1003_204 c33 rfl (cs_k hSG31 rfl) (cs_r (v := 1507) hSG31 rfl) (cs_kg hSG31 rfl) (mm_v (cs_l (N := 40) hSG31 rfl) i35) (cs_f1507 hSG31 (mm_lt i35)) ?_
          refine mc_1003_218 h (fun v37 G36 e => ?_)
          obtain ⟨hSG36, h⟩ := e
          refine mk_1003_221 ⟨_, rfl, hSG36, h⟩
        · replace h := h.2 q
          refine mk_1003_199 ?_
          refine mk_1003_221 ⟨_, rfl, hSG31, h⟩
    · replace h := h.1 (bI_n q)
      refine mk_1003_41 ⟨_, rfl, hSG7, h⟩
/-! 1004: isEnough (ILTemplateQuarry$Value;)Z -/
theorem w_Fi_isEnough {G : mj_G} (hS : cs_S G) {d : Nat} {x0 : Int32} {r1 : Nat} {K : Bool → mj_G → Prop}
    (h : mm_br (x0 = nI 38) ((mj_k G r1 = 12) ∧ Va_isTrue d r1 G (fun v3 G2 => mm_br (v3 = true) (K false G2) ((mj_k G2 r1 = 12) ∧ Va_setNumber d r1 (nI 0) G2 (fun G5 => K true G5)))) (mm_br (x0 = nI 63) ((mj_k G r1 = 12) ∧ Va_isTrue d r1 G (fun v8 G7 => K v8 G7)) (mm_br (x0 = nI 100) ((mj_k G r1 = 12) ∧ mm_br ((mj_i G r1 0) = (nI 1)) (K false G) (K true G)) (K false G)))) : Fi_isEnough (d + 1) x0 r1 G K := by
  refine mk_1004_0 (fun q => ?_) (fun q => ?_) (fun q => ?_) (fun n1 n2 n3 => ?_)
  · replace h := h.1 q
    refine mk_1004_55 ?_
    obtain ⟨c1, h⟩ := h
    refine mc_1004_56 c1 (cc_z h) (fun v0 G2 e => ?_)
    obtain ⟨v3, rfl, hSG2, h⟩ := e
    refine mk_1004_59 (fun q => ?_) (fun q => ?_)
    · replace h := h.2 (bI_z q)
      refine mk_1004_64 ?_
      obtain ⟨c4, h⟩ := h
      refine mc_1004_66 c4 h (fun G5 e => ?_)
      obtain ⟨hSG5, h⟩ := e
      refine mk_1004_69 (bI_b true) ⟨true, rfl, hSG5, h⟩
    · replace h := h.1 (bI_n q)
      refine mk_1004_62 (bI_b false) ⟨false, rfl, hSG2, h⟩
  · replace h := (h.2 (fun e => absurd (e.symm.trans q) (by decide))).1 q
    refine mk_1004_50 ?_
    obtain ⟨c6, h⟩ := h
    refine mc_1004_51 c6 (cc_z h) (fun v0 G7 e => ?_)
    obtain ⟨v8, rfl, hSG7, h⟩ := e
    refine mk_1004_54 (bI_b v8) ⟨v8, rfl, hSG7, h⟩
  · replace h := ((h.2 (fun e => absurd (e.symm.trans q) (by decide))).2 (fun e => absurd (e.symm.trans q) (by decide))).1 q
    obtain ⟨c9, h⟩ := h
    refine mk_1004_36 c9 rfl (fun q => ?_) (fun q => ?_)
    · replace h := h.1 q
      refine mk_1004_48 ?_
      refine mk_1004_49 (bI_b false) ⟨false, rfl, hS, h⟩
    · replace h := h.2 q
      refine mk_1004_44 ?_
      refine mk_1004_49 (bI_b true) ⟨true, rfl, hS, h⟩
  · replace h := (((h.2 n1).2 n2).2 n3)
    refine mk_1004_71 (bI_b false) ⟨false, rfl, hS, h⟩
/-! 1005: findItem (LTemplateQuarry$Value;LTemplateQuarry$Value;I)I -/
theorem w_Fi_findItem {G : mj_G} (hS : cs_S G) {d : Nat} {r0 : Nat} {r1 : Nat} {x2 : Int32} {K : Int32 → mj_G → Prop}
    (h : (mj_k G r1 = 12) ∧ mm_br ((mj_i G r1 0) = (nI 8)) (mm_br (x2 < (nI 0)) (K ((Int32.ofInt (-4))) G) ((20 ≤ mj_k G (mj_r G r1 5)) ∧ mm_br (x2 < (nI (mj_l G (mj_r G r1 5)))) ((30 ≤ mj_k G (mj_r G r1 5)) ∧ mm_ix x2 (mj_l G (mj_r G r1 5)) (fun n4 => (mj_k G r0 = 12) ∧ Va_refer d r0 (mj_r G (mj_r G r1 5) n4) G (fun G7 => K (nI 0) G7))) (K ((Int32.ofInt (-4))) G))) (K ((Int32.ofInt (-3))) G)) : Fi_findItem (d + 1) r0 r1 x2 G K := by
  obtain ⟨c1, h⟩ := h
  refine mk_1005_0 c1 rfl (fun q => ?_) (fun q => ?_)
  · replace h := h.1 q
    refine mk_1005_12 (fun q => ?_) (fun q => ?_)
    · replace h := h.1 q
      refine mk_1005_25 ⟨_, rfl, hS, h⟩
    · replace h := h.2 q
      obtain ⟨c2, h⟩ := h
      refine mk_1005_16 c1 rfl c2 rfl (fun q => ?_) (fun q => ?_)
      · replace h := h.1 q
        obtain ⟨c3, h⟩ := h
        obtain ⟨i5, h⟩ := h
        refine mk_1005_28 c1 rfl c3 i5 rfl ?_
        obtain ⟨c6, h⟩ := h
        refine mc_1005_35 c6 h (fun G7 e => ?_)
        obtain ⟨hSG7, h⟩ := e
        refine mk_1005_38 ⟨_, rfl, hSG7, h⟩
      · replace h := h.2 q
        refine mk_1005_25 ⟨_, rfl, hS, h⟩
  · replace h := h.2 q
    refine mk_1005_9 ⟨_, rfl, hS, h⟩
/-! 1006: filter (ILTemplateQuarry$Value;)I -/
theorem w_Fi_filter {G : mj_G} (hS : cs_S G) {d : Nat} {x0 : Int32} {r1 : Nat} {K : Int32 → mj_G → Prop}
    (h : mm_br (x0 = (nI 108)) ((mj_k G r1 = 12) ∧ mm_br ((mj_i G r1 0) = (nI 8)) ((20 ≤ mj_k G (mj_r G r1 5)) ∧ Va_setNumber d r1 (nI (mj_l G (mj_r G r1 5))) G (fun G3 => K (nI 0) G3)) (Fi_filter_26 (d + 1) x0 r1 G K)) (Fi_filter_26 (d + 1) x0 r1 G K)) : Fi_filter (d + 1) x0 r1 G K := by
  refine mk_1006_0 (fun q => ?_) (fun q => ?_)
  · replace h := h.2 q
    exact h
  · replace h := h.1 q
    obtain ⟨c1, h⟩ := h
    refine mk_1006_6 c1 rfl (fun q => ?_) (fun q => ?_)
    · replace h := h.2 q
      exact h
    · replace h := h.1 q
      obtain ⟨c2, h⟩ := h
      refine mk_1006_15 c1 rfl c2 rfl ?_
      refine mc_1006_21 c1 h (fun G3 e => ?_)
      obtain ⟨hSG3, h⟩ := e
      refine mk_1006_24 ⟨_, rfl, hSG3, h⟩
theorem w_Fi_filter_26 {G : mj_G} (hS : cs_S G) {d : Nat} {x0 : Int32} {r1 : Nat} {K : Int32 → mj_G → Prop}
    (h : (mj_k G r1 = 12) ∧ mm_br ((mj_i G r1 0) = (nI 4)) (mm_br (x0 = nI 108) (Va_setNumber d r1 (mj_i G r1 4) G (fun G5 => K (nI 0) G5)) (mm_br (x0 = nI 114) (∀ G6, G6 = mj_pI G r1 2 (nI 1) → K (nI 0) G6) (mm_br (x0 = nI 117) (Fi_raise d r1 G (fun G7 => K (nI 0) G7)) (Fi_toNumber d r1 G (fun G8 => K (nI 0) G8))))) (K ((Int32.ofInt (-3))) G)) : Fi_filter_26 (d + 1) x0 r1 G K := by
  obtain ⟨c4, h⟩ := h
  refine mk_1006_26 c4 rfl (fun q => ?_) (fun q => ?_)
  · replace h := h.1 q
    refine mk_1006_37 (fun q => ?_) (fun q => ?_) (fun q => ?_) (fun n1 n2 n3 => ?_)
    · replace h := h.1 q
      refine mk_1006_78 c4 rfl ?_
      refine mc_1006_83 c4 h (fun G5 e => ?_)
      obtain ⟨hSG5, h⟩ := e
      refine mk_1006_86 ⟨_, rfl, hSG5, h⟩
    · replace h := (h.2 (fun e => absurd (e.symm.trans q) (by decide))).1 q
      replace h := h _ rfl
      refine mk_1006_88 c4 (bI_b true) rfl ⟨_, rfl, (cs_pI hS), h⟩
    · replace h := ((h.2 (fun e => absurd (e.symm.trans q) (by decide))).2 (fun e => absurd (e.symm.trans q) (by decide))).1 q
      refine mk_1006_72 ?_
      refine mc_1006_73 h (fun G7 e => ?_)
      obtain ⟨hSG7, h⟩ := e
      refine mk_1006_76 ⟨_, rfl, hSG7, h⟩
    · replace h := (((h.2 n1).2 n2).2 n3)
      refine mk_1006_95 ?_
      refine mc_1006_96 h (fun G8 e => ?_)
      obtain ⟨hSG8, h⟩ := e
      refine mk_1006_99 ⟨_, rfl, hSG8, h⟩
  · replace h := h.2 q
    refine mk_1006_34 ⟨_, rfl, hS, h⟩
/-! 1007: raise (LTemplateQuarry$Value;)V -/
theorem w_Fi_raise {G : mj_G} (hS : cs_S G) {d : Nat} {r0 : Nat} {K : mj_G → Prop}
    (h : (mj_k G r0 = 12) ∧ Va_ownRow d r0 G (fun v3 G2 => Fi_raise_7 (d + 1) r0 v3 (nI 0) G2 K)) : Fi_raise (d + 1) r0 G K := by
  refine mk_1007_0 ?_
  obtain ⟨c1, h⟩ := h
  refine mc_1007_1 c1 h (fun v3 G2 e => ?_)
  obtain ⟨hSG2, h⟩ := e
  refine mk_1007_4 ?_
  exact h
theorem w_Fi_raise_7 {G : mj_G} (hS : cs_S G) {d : Nat} (hd : 15 ≤ d) {r0 : Nat} {r1 : Nat} {x2 : Int32} {K : mj_G → Prop}
    (h : (mj_k G r0 = 12) ∧ mm_br ((mj_i G r0 4) ≤ x2) (Va_setText d r0 r1 (mj_i G r0 4) (mj_i G r0 2) G (fun G5 => K G5)) ((20 ≤ mj_k G r1) ∧ mm_br ((nI (mj_l G r1)) ≤ x2) (Va_setText d r0 r1 (mj_i G r0 4) (mj_i G r0 2) G (fun G7 => K G7)) ((mj_k G (mj_r G r0 3) = 22) ∧ mm_ix x2 (mj_l G (mj_r G r0 3)) (fun n9 => mm_br (qb (q_12029 (mj_i G (mj_r G r0 3) n9)) = true) ((mj_k G r1 = 22) ∧ (3 ≤ r1) ∧ mm_ix x2 (mj_l G r1) (fun n19 => ∀ G21, G21 = mj_pI G r1 n19 (mm_ch (((mj_i G (mj_r G r0 3) n9) - (nI 97)) + (nI 65))) → Fi_raise_7 (d + 1) r0 r1 (x2 + nI 1) G21 K)) ((mj_k G r1 = 22) ∧ (3 ≤ r1) ∧ mm_ix x2 (mj_l G r1) (fun n13 => (mj_c (mj_i G (mj_r G r0 3) n9)) ∧ ∀ G16, G16 = mj_pI G r1 n13 (mj_i G (mj_r G r0 3) n9) → Fi_raise_7 (d + 1) r0 r1 (x2 + nI 1) G16 K)))))) : Fi_raise_7 (d + 1) r0 r1 x2 G K := by
  obtain ⟨e, rfl⟩ : ∃ e, d = e + 15 := ⟨d - 15, (Nat.sub_add_cancel hd).symm⟩
  obtain ⟨c4, h⟩ := h
  refine mk_1007_7 c4 rfl (fun q => ?_) (fun q => ?_)
  · replace h := h.1 q
    refine mk_1007_56 c4 rfl c4 rfl ?_
    refine mc_1007_66 c4 h (fun G5 e => ?_)
    obtain ⟨hSG5, h⟩ := e
    refine mk_1007_69 ⟨rfl, hSG5, h⟩
  · replace h := h.2 q
    obtain ⟨c6, h⟩ := h
    refine mk_1007_15 c6 rfl (fun q => ?_) (fun q => ?_)
    · replace h := h.1 q
      refine mk_1007_56 c4 rfl c4 rfl ?_
      refine mc_1007_66 c4 h (fun G7 e => ?_)
      obtain ⟨hSG7, h⟩ := e
      refine mk_1007_69 ⟨rfl, hSG7, h⟩
    · replace h := h.2 q
      obtain ⟨c8, h⟩ := h
      obtain ⟨i10, h⟩ := h
      refine mk_1007_21 c4 rfl c8 i10 rfl ?_
      refine mc_1007_31 (q_bc (q_12029_c _ _) (q_12029_b _)) (fun v G1 e => ?_)
      obtain ⟨rfl, rfl⟩ := e
      refine mk_1007_34 (fun q => ?_) (fun q => ?_)
      · replace h := h.2 (bI_z q)
        refine mk_1007_48 ?_
        obtain ⟨c11, h⟩ := h
        obtain ⟨c12, h⟩ := h
        obtain ⟨i14, h⟩ := h
        obtain ⟨c15, h⟩ := h
        replace h := h _ rfl
        refine mk_1007_49 c11 c12 i14 c15 rfl ?_
        exact h
      · replace h := h.1 (bI_n q)
        refine mk_1007_37 rfl ?_
        obtain ⟨c17, h⟩ := h
        obtain ⟨c18, h⟩ := h
        obtain ⟨i20, h⟩ := h
        replace h := h _ rfl
        refine mk_1007_49 c17 c18 i20 (q_i2c_c _) rfl ?_
        exact h
/-! 1008: toNumber (LTemplateQuarry$Value;)V -/
set_option maxRecDepth 100000 in
theorem w_Fi_toNumber {G : mj_G} (hS : cs_S G) {d : Nat} {r0 : Nat} {K : mj_G → Prop}
    (h : (mj_k G r0 = 12) ∧ mm_br ((mj_i G r0 4) ≤ (nI 0)) (mm_br (((mj_i G r0 4) - (nI 0)) < (nI 1)) (Fi_toNumber_54 (d + 1) r0 (nI 0) (nI 0) (nI 0) (nI 0) G K) (mm_br ((nI 9) < ((mj_i G r0 4) - (nI 0))) (Fi_toNumber_54 (d + 1) r0 (nI 0) (nI 0) (nI 0) (nI 0) G K) (Fi_toNumber_54 (d + 1) r0 (nI 0) (nI 0) (nI 1) (nI 0) G K))) ((mj_k G (mj_r G r0 3) = 22) ∧ mm_ix (nI 0) (mj_l G (mj_r G r0 3)) (fun n3 => mm_br ((mj_i G (mj_r G r0 3) n3) = (nI 45)) (mm_br (((mj_i G r0 4) - (nI 1)) < (nI 1)) (Fi_toNumber_54 (d + 1) r0 (nI 1) (nI 0) (nI 0) (nI 1) G K) (mm_br ((nI 9) < ((mj_i G r0 4) - (nI 1))) (Fi_toNumber_54 (d + 1) r0 (nI 1) (nI 0) (nI 0) (nI 1) G K) (Fi_toNumber_54 (d + 1) r0 (nI 1) (nI 0) (nI 1) (nI 1) G K))) (mm_br (((mj_i G r0 4) - (nI 0)) < (nI 1)) (Fi_toNumber_54 (d + 1) r0 (nI 0) (nI 0) (nI 0) (nI 0) G K) (mm_br ((nI 9) < ((mj_i G r0 4) - (nI 0))) (Fi_toNumber_54 (d + 1) r0 (nI 0) (nI 0) (nI 0) (nI 0) G K) (Fi_toNumber_54 (d + 1) r0 (nI 0) (nI 0) (nI 1) (nI 0) G K)))))) : Fi_toNumber (d + 1) r0 G K := by
  obtain ⟨c1, h⟩ := h
  refine mk_1008_0 c1 rfl (fun q => ?_) (fun q => ?_)
  · replace h := h.1 q
    refine mk_1008_22 ?_
    refine mk_1008_23 c1 rfl (fun q => ?_) (fun q => ?_)
    · replace h := h.1 q
      refine mk_1008_48 ?_
      refine mk_1008_49 ?_
      exact h
    · replace h := h.2 q
      refine mk_1008_38 (fun q => ?_) (fun q => ?_)
      · replace h := h.1 q
        refine mk_1008_48 ?_
        refine mk_1008_49 ?_
        exact h
      · replace h := h.2 q
        refine mk_1008_44 ?_
        refine mk_1008_49 ?_
        exact h
  · replace h := h.2 q
    obtain ⟨c2, h⟩ := h
    obtain ⟨i4, h⟩ := h
    refine mk_1008_7 c1 rfl c2 i4 rfl (fun q => ?_) (fun q => ?_)
    · replace h := h.2 q
      refine mk_1008_22 ?_
      refine mk_1008_23 c1 rfl (fun q => ?_) (fun q => ?_)
      · replace h := h.1 q
        refine mk_1008_48 ?_
        refine mk_1008_49 ?_
        exact h
      · replace h := h.2 q
        refine mk_1008_38 (fun q => ?_) (fun q => ?_)
        · replace h := h.1 q
          refine mk_1008_48 ?_
          refine mk_1008_49 ?_
          exact h
        · replace h := h.2 q
          refine mk_1008_44 ?_
          refine mk_1008_49 ?_
          exact h
    · replace h := h.1 q
      refine mk_1008_18 ?_
      refine mk_1008_23 c1 rfl (fun q => ?_) (fun q => ?_)
      · replace h := h.1 q
        refine mk_1008_48 ?_
        refine mk_1008_49 ?_
        exact h
      · replace h := h.2 q
        refine mk_1008_38 (fun q => ?_) (fun q => ?_)
        · replace h := h.1 q
          refine mk_1008_48 ?_
          refine mk_1008_49 ?_
          exact h
        · replace h := h.2 q
          refine mk_1008_44 ?_
          refine mk_1008_49 ?_
          exact h
set_option maxRecDepth 100000 in
theorem w_Fi_toNumber_54 {G : mj_G} (hS : cs_S G) {d : Nat} (hd : 15 ≤ d) {r0 : Nat} {x1 : Int32} {x3 : Int32} {x4 : Int32} {x5 : Int32} {K : mj_G → Prop}
    (h : mm_br (x4 = (nI 0)) (mm_br (x4 = (nI 0)) ((mj_k G r0 = 12) ∧ Va_setNothing d r0 G (fun G6 => K G6)) (mm_br (x1 = (nI 1)) ((mj_k G r0 = 12) ∧ Va_setNumber d r0 (-x3) G (fun G10 => K G10)) ((mj_k G r0 = 12) ∧ Va_setNumber d r0 x3 G (fun G8 => K G8)))) ((mj_k G r0 = 12) ∧ mm_br ((mj_i G r0 4) ≤ x5) (mm_br (x4 = (nI 0)) (Va_setNothing d r0 G (fun G12 => K G12)) (mm_br (x1 = (nI 1)) (Va_setNumber d r0 (-x3) G (fun G14 => K G14)) (Va_setNumber d r0 x3 G (fun G13 => K G13)))) ((mj_k G (mj_r G r0 3) = 22) ∧ mm_ix x5 (mj_l G (mj_r G r0 3)) (fun n16 => Fi_toNumber_54 (d + 1) r0 x1 ((((nI 10) * x3) + (mj_i G (mj_r G r0 3) n16)) - (nI 48)) (bI (qb (q_12030 (mj_i G (mj_r G r0 3) n16)))) (x5 + nI 1) G K)))) : Fi_toNumber_54 (d + 1) r0 x1 x3 x4 x5 G K := by
  obtain ⟨e, rfl⟩ : ∃ e, d = e + 15 := ⟨d - 15, (Nat.sub_add_cancel hd).symm⟩
  refine mk_1008_54 (fun q => ?_) (fun q => ?_)
  · replace h := h.1 q
    refine mk_1008_101 (fun q => ?_) (fun q => ?_)
    · replace h := h.1 q
      refine mk_1008_124 ?_
      obtain ⟨c5, h⟩ := h
      refine mc_1008_125 c5 h (fun G6 e => ?_)
      obtain ⟨hSG6, h⟩ := e
      refine mk_1008_128 ⟨rfl, hSG6, h⟩
    · replace h := h.2 q
      refine mk_1008_106 (fun q => ?_) (fun q => ?_)
      · replace h := h.2 q
        refine mk_1008_117 ?_
        obtain ⟨c7, h⟩ := h
        refine mc_1008_118 c7 h (fun G8 e => ?_)
        obtain ⟨hSG8, h⟩ := e
        refine mk_1008_121 ?_
        refine mk_1008_128 ⟨rfl, hSG8, h⟩
      · replace h := h.1 q
        refine mk_1008_112 ?_
        obtain ⟨c9, h⟩ := h
        refine mc_1008_118 c9 h (fun G10 e => ?_)
        obtain ⟨hSG10, h⟩ := e
        refine mk_1008_121 ?_
        refine mk_1008_128 ⟨rfl, hSG10, h⟩
  · replace h := h.2 q
    obtain ⟨c11, h⟩ := h
    refine mk_1008_59 c11 rfl (fun q => ?_) (fun q => ?_)
    · replace h := h.1 q
      refine mk_1008_101 (fun q => ?_) (fun q => ?_)
      · replace h := h.1 q
        refine mk_1008_124 ?_
        refine mc_1008_125 c11 h (fun G12 e => ?_)
        obtain ⟨hSG12, h⟩ := e
        refine mk_1008_128 ⟨rfl, hSG12, h⟩
      · replace h := h.2 q
        refine mk_1008_106 (fun q => ?_) (fun q => ?_)
        · replace h := h.2 q
          refine mk_1008_117 ?_
          refine mc_1008_118 c11 h (fun G13 e => ?_)
          obtain ⟨hSG13, h⟩ := e
          refine mk_1008_121 ?_
          refine mk_1008_128 ⟨rfl, hSG13, h⟩
        · replace h := h.1 q
          refine mk_1008_112 ?_
          refine mc_1008_118 c11 h (fun G14 e => ?_)
          obtain ⟨hSG14, h⟩ := e
          refine mk_1008_121 ?_
          refine mk_1008_128 ⟨rfl, hSG14, h⟩
    · replace h := h.2 q
      obtain ⟨c15, h⟩ := h
      obtain ⟨i17, h⟩ := h
      refine mk_1008_68 c11 rfl c15 i17 rfl ?_
      refine mc_1008_79 (q_bc (q_12030_c _ _) (q_12030_b _)) (fun v G1 e => ?_)
      obtain ⟨rfl, rfl⟩ := e
      refine mk_1008_82 rfl ?_
      exact h
/-! 1009: joinItems (LTemplateQuarry$Value;)I -/
set_option maxRecDepth 100000 in
theorem w_Fi_joinItems {G : mj_G} (hS : cs_S G) {d : Nat} {r1 : Nat} {K : Int32 → mj_G → Prop}
    (h : (mj_k G r1 = 12) ∧ mm_br ((mj_i G r1 0) = (nI 8)) (Fi_joinItems_19 (d + 1) r1 (nI 0) (nI 1) (nI 0) G K) (K ((Int32.ofInt (-3))) G)) : Fi_joinItems (d + 1) r1 G K := by
  obtain ⟨c1, h⟩ := h
  refine mk_1009_0 c1 rfl (fun q => ?_) (fun q => ?_)
  · replace h := h.1 q
    refine mk_1009_12 ?_
    exact h
  · replace h := h.2 q
    refine mk_1009_9 ⟨_, rfl, hS, h⟩
set_option maxRecDepth 100000 in
theorem w_Fi_joinItems_19 {G : mj_G} (hS : cs_S G) {d : Nat} {r1 : Nat} {x2 : Int32} {x3 : Int32} {x4 : Int32} {K : Int32 → mj_G → Prop}
    (h : (mj_k G r1 = 12) ∧ (20 ≤ mj_k G (mj_r G r1 5)) ∧ mm_br ((nI (mj_l G (mj_r G r1 5))) ≤ x4) (Va_ownRow d r1 G (fun v5 G4 => (20 ≤ mj_k G4 v5) ∧ mm_br (x2 ≤ (nI (mj_l G4 v5))) (mm_cpy G4 1508 (nI 0) v5 (nI 0) x2 (fun n7 n8 n9 => ∀ G19, G19 = mj_cp G4 1508 n7 v5 n8 n9 → (mj_k G19 r1 = 12) ∧ Va_setText d r1 v5 x2 x3 G19 (fun G21 => K (nI 0) G21))) (K ((Int32.ofInt (-10))) G4))) (mm_br ((nI 8) ≤ x4) (Va_ownRow d r1 G (fun v23 G22 => (20 ≤ mj_k G22 v23) ∧ mm_br (x2 ≤ (nI (mj_l G22 v23))) (mm_cpy G22 1508 (nI 0) v23 (nI 0) x2 (fun n25 n26 n27 => ∀ G37, G37 = mj_cp G22 1508 n25 v23 n26 n27 → (mj_k G37 r1 = 12) ∧ Va_setText d r1 v23 x2 x3 G37 (fun G39 => K (nI 0) G39))) (K ((Int32.ofInt (-10))) G22))) ((30 ≤ mj_k G (mj_r G r1 5)) ∧ mm_ix x4 (mj_l G (mj_r G r1 5)) (fun n41 => mm_br (x4 ≤ (nI 0)) ((mj_k G (mj_r G (mj_r G r1 5) n41) = 12) ∧ mm_br ((mj_i G (mj_r G (mj_r G r1 5) n41) 0) = (nI 4)) (mm_cpy G (mj_r G (mj_r G (mj_r G r1 5) n41) 3) (nI 0) 1508 x2 (mj_i G (mj_r G (mj_r G r1 5) n41) 4) (fun n46 n47 n48 => ∀ G58, G58 = mj_cp G (mj_r G (mj_r G (mj_r G r1 5) n41) 3) n46 1508 n47 n48 → mm_br (x3 = (nI 0)) (Fi_joinItems_19 (d + 1) r1 (x2 + (mj_i G58 (mj_r G (mj_r G r1 5) n41) 4)) (nI 0) (x4 + nI 1) G58 K) (mm_br ((mj_i G58 (mj_r G (mj_r G r1 5) n41) 2) = (nI 0)) (Fi_joinItems_19 (d + 1) r1 (x2 + (mj_i G58 (mj_r G (mj_r G r1 5) n41) 4)) (nI 0) (x4 + nI 1) G58 K) (Fi_joinItems_19 (d + 1) r1 (x2 + (mj_i G58 (mj_r G (mj_r G r1 5) n41) 4)) (nI 1) (x4 + nI 1) G58 K)))) (Tq_writeDigits d (mj_i G (mj_r G (mj_r G r1 5) n41) 1) 1508 x2 G (fun v45 G44 => Fi_joinItems_19 (d + 1) r1 v45 x3 (x4 + nI 1) G44 K))) (mm_ix x2 328 (fun n59 => ∀ G61, G61 = mj_pI G 1508 n59 (nI 44) → (mj_k G61 (mj_r G (mj_r G r1 5) n41) = 12) ∧ mm_br ((mj_i G61 (mj_r G (mj_r G r1 5) n41) 0) = (nI 4)) (mm_cpy G61 (mj_r G61 (mj_r G (mj_r G r1 5) n41) 3) (nI 0) 1508 (x2 + nI 1) (mj_i G61 (mj_r G (mj_r G r1 5) n41) 4) (fun n65 n66 n67 => ∀ G77, G77 = mj_cp G61 (mj_r G61 (mj_r G (mj_r G r1 5) n41) 3) n65 1508 n66 n67 → mm_br (x3 = (nI 0)) (Fi_joinItems_19 (d + 1) r1 ((x2 + nI 1) + (mj_i G77 (mj_r G (mj_r G r1 5) n41) 4)) (nI 0) (x4 + nI 1) G77 K) (mm_br ((mj_i G77 (mj_r G (mj_r G r1 5) n41) 2) = (nI 0)) (Fi_joinItems_19 (d + 1) r1 ((x2 + nI 1) + (mj_i G77 (mj_r G (mj_r G r1 5) n41) 4)) (nI 0) (x4 + nI 1) G77 K) (Fi_joinItems_19 (d + 1) r1 ((x2 + nI 1) + (mj_i G77 (mj_r G (mj_r G r1 5) n41) 4)) (nI 1) (x4 + nI 1) G77 K)))) (Tq_writeDigits d (mj_i G61 (mj_r G (mj_r G r1 5) n41) 1) 1508 (x2 + nI 1) G61 (fun v64 G63 => Fi_joinItems_19 (d + 1) r1 v64 x3 (x4 + nI 1) G63 K)))))))) : Fi_joinItems_19 (d + 1) r1 x2 x3 x4 G K := by
  obtain ⟨c2, h⟩ := h
  obtain ⟨c3, h⟩ := h
  refine mk_1009_19 c2 rfl c3 rfl (fun q => ?_) (fun q => ?_)
  · replace h := h.1 q
    refine mk_1009_138 ?_
    refine mc_1009_139 c2 h (fun v5 G4 e => ?_)
    obtain ⟨hSG4, h⟩ := e
    obtain ⟨c6, h⟩ := h
    refine mk_1009_142 c6 rfl (fun q => ?_) (fun q => ?_)
    · replace h := h.1 q
      obtain ⟨c10, c11, c12, c13, c14, c15, c16, c17, c18, h⟩ := h
      replace h := h _ rfl
      refine mk_1009_154 (cs_k hSG4 rfl) (cs_r (v := 1508) hSG4 rfl) c10 c11 c12 c13 c14 c15 c16 c17 c18 rfl ?_
      obtain ⟨c20, h⟩ := h
      refine mc_1009_171 c20 h (fun G21 e => ?_)
      obtain ⟨hSG21, h⟩ := e
      refine mk_1009_174 ⟨_, rfl, hSG21, h⟩
    · replace h := h.2 q
      refine mk_1009_151 ⟨_, rfl, hSG4, h⟩
  · replace h := h.2 q
    refine mk_1009_29 (fun q => ?_) (fun q => ?_)
    · replace h := h.1 q
      refine mk_1009_138 ?_
      refine mc_1009_139 c2 h (fun v23 G22 e => ?_)
      obtain ⟨hSG22, h⟩ := e
      obtain ⟨c24, h⟩ := h
      refine mk_1009_142 c24 rfl (fun q => ?_) (fun q => ?_)
      · replace h := h.1 q
        obtain ⟨c28, c29, c30, c31, c32, c33, c34, c35, c36, h⟩ := h
        replace h := h _ rfl
        refine mk_1009_154 (cs_k hSG22 rfl) (cs_r (v := 1508) hSG22 rfl) c28 c29 c30 c31 c32 c33 c34 c35 c36 rfl ?_
        obtain ⟨c38, h⟩ := h
        refine mc_1009_171 c38 h (fun G39 e => ?_)
        obtain ⟨hSG39, h⟩ := e
        refine mk_1009_174 ⟨_, rfl, hSG39, h⟩
      · replace h := h.2 q
        refine mk_1009_151 ⟨_, rfl, hSG22, h⟩
    · replace h := h.2 q
      obtain ⟨c40, h⟩ := h
      obtain ⟨i42, h⟩ := h
      refine mk_1009_36 c2 rfl c40 i42 rfl (fun q => ?_) (fun q => ?_)
      · replace h := h.1 q
        obtain ⟨c43, h⟩ := h
        refine mk_1009_61 c43 rfl (fun q => ?_) (fun q => ?_)
        · replace h := h.2 q
          refine mk_1009_118 c43 rfl (cs_k hS rfl) (cs_r (v := 1508) hS rfl) ?_
          refine mc_1009_128 h (fun v45 G44 e => ?_)
          obtain ⟨hSG44, h⟩ := e
          refine mk_1009_131 ?_
          refine mk_1009_132 ?_
          exact h
        · replace h := h.1 q
          obtain ⟨c49, c50, c51, c52, c53, c54, c55, c56, c57, h⟩ := h
          replace h := h _ rfl
          refine mk_1009_70 c43 rfl (cs_k hS rfl) (cs_r (v := 1508) hS rfl) c43 rfl c49 c50 c51 c52 c53 c54 c55 c56 c57 rfl c43 rfl (fun q => ?_) (fun q => ?_)
          · replace h := h.1 q
            refine mk_1009_113 ?_
            refine mk_1009_114 ?_
            refine mk_1009_132 ?_
            exact h
          · replace h := h.2 q
            refine mk_1009_101 c43 rfl (fun q => ?_) (fun q => ?_)
            · replace h := h.1 q
              refine mk_1009_113 ?_
              refine mk_1009_114 ?_
              refine mk_1009_132 ?_
              exact h
            · replace h := h.2 q
              refine mk_1009_109 ?_
              refine mk_1009_114 ?_
              refine mk_1009_132 ?_
              exact h
      · replace h := h.2 q
        obtain ⟨i60, h⟩ := h
        replace h := h _ rfl
        refine mk_1009_50 (cs_k hS rfl) (cs_r (v := 1508) hS rfl) (cs_k hS rfl) (by decide) (mm_v (cs_l (N := 328) hS rfl) i60) (by unfold mj_c; decide) rfl ?_
        obtain ⟨c62, h⟩ := h
        refine mk_1009_61 c62 rfl (fun q => ?_) (fun q => ?_)
        · replace h := h.2 q
          refine mk_1009_118 c62 rfl (cs_k (cs_pI hS) rfl) (cs_r (v := 1508) (cs_pI hS) rfl) ?_
          refine mc_1009_128 h (fun v64 G63 e => ?_)
          obtain ⟨hSG63, h⟩ := e
          refine mk_1009_131 ?_
          refine mk_1009_132 ?_
          exact h
        · replace h := h.1 q
          obtain ⟨c68, c69, c70, c71, c72, c73, c74, c75, c76, h⟩ := h
          replace h := h _ rfl
          refine mk_1009_70 c62 rfl (cs_k (cs_pI hS) rfl) (cs_r (v := 1508) (cs_pI hS) rfl) c62 rfl c68 c69 c70 c71 c72 c73 c74 c75 c76 rfl c62 rfl (fun q => ?_) (fun q => ?_)
          · replace h := h.1 q
            refine mk_1009_113 ?_
            refine mk_1009_114 ?_
            refine mk_1009_132 ?_
            exact h
          · replace h := h.2 q
            refine mk_1009_101 c62 rfl (fun q => ?_) (fun q => ?_)
            · replace h := h.1 q
              refine mk_1009_113 ?_
              refine mk_1009_114 ?_
              refine mk_1009_132 ?_
              exact h
            · replace h := h.2 q
              refine mk_1009_109 ?_
              refine mk_1009_114 ?_
              refine mk_1009_132 ?_
              exact h
/-! 1010: operate (ILTemplateQuarry$Value;LTemplateQuarry$Value;)I -/
set_option maxRecDepth 100000 in
theorem w_Fi_operate {G : mj_G} (hS : cs_S G) {d : Nat} {x0 : Int32} {r1 : Nat} {r2 : Nat} {K : Int32 → mj_G → Prop}
    (h : mm_br (x0 = (nI 38)) ((mj_k G r2 = 12) ∧ Va_isTrue d r2 G (fun v14 G13 => mm_br (v14 = true) ((mj_k G13 r1 = 12) ∧ Va_setNumber d r1 (nI 1) G13 (fun G18 => K (nI 0) G18)) ((mj_k G13 r1 = 12) ∧ Va_setNumber d r1 (nI 0) G13 (fun G16 => K (nI 0) G16)))) (mm_br (x0 = (nI 61)) ((mj_k G r1 = 12) ∧ Va_isLike d r1 r2 G (fun v7 G6 => mm_br (v7 = true) ((mj_k G6 r1 = 12) ∧ Va_setNumber d r1 (nI 1) G6 (fun G11 => K (nI 0) G11)) ((mj_k G6 r1 = 12) ∧ Va_setNumber d r1 (nI 0) G6 (fun G9 => K (nI 0) G9)))) ((mj_k G r1 = 12) ∧ mm_br ((mj_i G r1 0) = (nI 2)) ((mj_k G r2 = 12) ∧ mm_br ((mj_i G r2 0) = (nI 2)) (Fi_calculate d x0 r1 r2 G (fun v4 G3 => K v4 G3)) (Fi_operate_72 (d + 1) x0 r1 r2 G K)) (Fi_operate_72 (d + 1) x0 r1 r2 G K)))) : Fi_operate (d + 1) x0 r1 r2 G K := by
  refine mk_1010_0 (fun q => ?_) (fun q => ?_)
  · replace h := h.2 q
    refine mk_1010_24 (fun q => ?_) (fun q => ?_)
    · replace h := h.2 q
      obtain ⟨c1, h⟩ := h
      refine mk_1010_49 c1 rfl (fun q => ?_) (fun q => ?_)
      · replace h := h.2 q
        exact h
      · replace h := h.1 q
        obtain ⟨c2, h⟩ := h
        refine mk_1010_57 c2 rfl (fun q => ?_) (fun q => ?_)
        · replace h := h.2 q
          exact h
        · replace h := h.1 q
          refine mk_1010_65 ?_
          refine mc_1010_68 h (fun v4 G3 e => ?_)
          obtain ⟨hSG3, h⟩ := e
          refine mk_1010_71 ⟨_, rfl, hSG3, h⟩
    · replace h := h.1 q
      refine mk_1010_30 ?_
      obtain ⟨c5, h⟩ := h
      refine mc_1010_33 c5 (cc_z h) (fun v0 G6 e => ?_)
      obtain ⟨v7, rfl, hSG6, h⟩ := e
      refine mk_1010_36 (fun q => ?_) (fun q => ?_)
      · replace h := h.2 (bI_z q)
        refine mk_1010_43 ?_
        obtain ⟨c8, h⟩ := h
        refine mc_1010_44 c8 h (fun G9 e => ?_)
        obtain ⟨hSG9, h⟩ := e
        refine mk_1010_47 ⟨_, rfl, hSG9, h⟩
      · replace h := h.1 (bI_n q)
        refine mk_1010_39 ?_
        obtain ⟨c10, h⟩ := h
        refine mc_1010_44 c10 h (fun G11 e => ?_)
        obtain ⟨hSG11, h⟩ := e
        refine mk_1010_47 ⟨_, rfl, hSG11, h⟩
  · replace h := h.1 q
    refine mk_1010_6 ?_
    obtain ⟨c12, h⟩ := h
    refine mc_1010_8 c12 (cc_z h) (fun v0 G13 e => ?_)
    obtain ⟨v14, rfl, hSG13, h⟩ := e
    refine mk_1010_11 (fun q => ?_) (fun q => ?_)
    · replace h := h.2 (bI_z q)
      refine mk_1010_18 ?_
      obtain ⟨c15, h⟩ := h
      refine mc_1010_19 c15 h (fun G16 e => ?_)
      obtain ⟨hSG16, h⟩ := e
      refine mk_1010_22 ⟨_, rfl, hSG16, h⟩
    · replace h := h.1 (bI_n q)
      refine mk_1010_14 ?_
      obtain ⟨c17, h⟩ := h
      refine mc_1010_19 c17 h (fun G18 e => ?_)
      obtain ⟨hSG18, h⟩ := e
      refine mk_1010_22 ⟨_, rfl, hSG18, h⟩
set_option maxRecDepth 100000 in
theorem w_Fi_operate_72 {G : mj_G} (hS : cs_S G) {d : Nat} {x0 : Int32} {r1 : Nat} {r2 : Nat} {K : Int32 → mj_G → Prop}
    (h : (mj_k G r1 = 12) ∧ mm_br ((mj_i G r1 0) = (nI 4)) ((mj_k G r2 = 12) ∧ mm_br ((mj_i G r2 0) = (nI 4)) (mm_br (x0 = (nI 43)) (Fi_joinTexts d r1 r2 G (fun v28 G27 => K v28 G27)) (mm_br (x0 = (nI 60)) (Va_isTextBefore d r1 r2 G (fun v22 G21 => mm_br (v22 = true) ((mj_k G21 r1 = 12) ∧ Va_setNumber d r1 (nI 1) G21 (fun G26 => K (nI 0) G26)) ((mj_k G21 r1 = 12) ∧ Va_setNumber d r1 (nI 0) G21 (fun G24 => K (nI 0) G24)))) (K ((Int32.ofInt (-3))) G))) (K ((Int32.ofInt (-3))) G)) (K ((Int32.ofInt (-3))) G)) : Fi_operate_72 (d + 1) x0 r1 r2 G K := by
  obtain ⟨c19, h⟩ := h
  refine mk_1010_72 c19 rfl (fun q => ?_) (fun q => ?_)
  · replace h := h.2 q
    refine mk_1010_88 ⟨_, rfl, hS, h⟩
  · replace h := h.1 q
    obtain ⟨c20, h⟩ := h
    refine mk_1010_80 c20 rfl (fun q => ?_) (fun q => ?_)
    · replace h := h.1 q
      refine mk_1010_91 (fun q => ?_) (fun q => ?_)
      · replace h := h.2 q
        refine mk_1010_103 (fun q => ?_) (fun q => ?_)
        · replace h := h.1 q
          refine mk_1010_112 ?_
          refine mc_1010_115 c19 (cc_z h) (fun v0 G21 e => ?_)
          obtain ⟨v22, rfl, hSG21, h⟩ := e
          refine mk_1010_118 (fun q => ?_) (fun q => ?_)
          · replace h := h.2 (bI_z q)
            refine mk_1010_125 ?_
            obtain ⟨c23, h⟩ := h
            refine mc_1010_126 c23 h (fun G24 e => ?_)
            obtain ⟨hSG24, h⟩ := e
            refine mk_1010_129 ⟨_, rfl, hSG24, h⟩
          · replace h := h.1 (bI_n q)
            refine mk_1010_121 ?_
            obtain ⟨c25, h⟩ := h
            refine mc_1010_126 c25 h (fun G26 e => ?_)
            obtain ⟨hSG26, h⟩ := e
            refine mk_1010_129 ⟨_, rfl, hSG26, h⟩
        · replace h := h.2 q
          refine mk_1010_109 ⟨_, rfl, hS, h⟩
      · replace h := h.1 q
        refine mk_1010_97 ?_
        refine mc_1010_99 h (fun v28 G27 e => ?_)
        obtain ⟨hSG27, h⟩ := e
        refine mk_1010_102 ⟨_, rfl, hSG27, h⟩
    · replace h := h.2 q
      refine mk_1010_88 ⟨_, rfl, hS, h⟩
/-! 1011: calculate (ILTemplateQuarry$Value;LTemplateQuarry$Value;)I -/
theorem w_Fi_calculate {G : mj_G} (hS : cs_S G) {d : Nat} {x0 : Int32} {r1 : Nat} {r2 : Nat} {K : Int32 → mj_G → Prop}
    (h : (mj_k G r1 = 12) ∧ (mj_k G r2 = 12) ∧ mm_br (x0 = (nI 43)) (mm_br ((lg_cmp (((mj_i G r1 1).toInt64) + ((mj_i G r2 1).toInt64)) (((((mj_i G r1 1).toInt64) + ((mj_i G r2 1).toInt64)).toInt32).toInt64)) = (nI 0)) (Va_setNumber d r1 ((((mj_i G r1 1).toInt64) + ((mj_i G r2 1).toInt64)).toInt32) G (fun G7 => K (nI 0) G7)) (K ((Int32.ofInt (-5))) G)) (mm_br (x0 = (nI 45)) (mm_br ((lg_cmp (((mj_i G r1 1).toInt64) - ((mj_i G r2 1).toInt64)) (((((mj_i G r1 1).toInt64) - ((mj_i G r2 1).toInt64)).toInt32).toInt64)) = (nI 0)) (Va_setNumber d r1 ((((mj_i G r1 1).toInt64) - ((mj_i G r2 1).toInt64)).toInt32) G (fun G6 => K (nI 0) G6)) (K ((Int32.ofInt (-5))) G)) (mm_br (x0 = (nI 42)) (mm_br ((lg_cmp (((mj_i G r1 1).toInt64) * ((mj_i G r2 1).toInt64)) (((((mj_i G r1 1).toInt64) * ((mj_i G r2 1).toInt64)).toInt32).toInt64)) = (nI 0)) (Va_setNumber d r1 ((((mj_i G r1 1).toInt64) * ((mj_i G r2 1).toInt64)).toInt32) G (fun G5 => K (nI 0) G5)) (K ((Int32.ofInt (-5))) G)) (mm_br ((nI 0) ≤ (lg_cmp ((mj_i G r1 1).toInt64) ((mj_i G r2 1).toInt64))) (mm_br ((lg_cmp (lN 0) (((lN 0).toInt32).toInt64)) = (nI 0)) (Va_setNumber d r1 ((lN 0).toInt32) G (fun G3 => K (nI 0) G3)) (K ((Int32.ofInt (-5))) G)) (mm_br ((lg_cmp (lN 1) (((lN 1).toInt32).toInt64)) = (nI 0)) (Va_setNumber d r1 ((lN 1).toInt32) G (fun G4 => K (nI 0) G4)) (K ((Int32.ofInt (-5))) G)))))) : Fi_calculate (d + 1) x0 r1 r2 G K := by
  obtain ⟨c1, h⟩ := h
  obtain ⟨c2, h⟩ := h
  refine mk_1011_0 c1 rfl c2 rfl (fun q => ?_) (fun q => ?_)
  · replace h := h.2 q
    refine mk_1011_26 (fun q => ?_) (fun q => ?_)
    · replace h := h.2 q
      refine mk_1011_39 (fun q => ?_) (fun q => ?_)
      · replace h := h.2 q
        refine mk_1011_52 (fun q => ?_) (fun q => ?_)
        · replace h := h.1 q
          refine mk_1011_63 ?_
          refine mk_1011_64 (fun q => ?_) (fun q => ?_)
          · replace h := h.1 q
            refine mk_1011_79 ?_
            refine mc_1011_83 c1 h (fun G3 e => ?_)
            obtain ⟨hSG3, h⟩ := e
            refine mk_1011_86 ⟨_, rfl, hSG3, h⟩
          · replace h := h.2 q
            refine mk_1011_76 ⟨_, rfl, hS, h⟩
        · replace h := h.2 q
          refine mk_1011_59 ?_
          refine mk_1011_64 (fun q => ?_) (fun q => ?_)
          · replace h := h.1 q
            refine mk_1011_79 ?_
            refine mc_1011_83 c1 h (fun G4 e => ?_)
            obtain ⟨hSG4, h⟩ := e
            refine mk_1011_86 ⟨_, rfl, hSG4, h⟩
          · replace h := h.2 q
            refine mk_1011_76 ⟨_, rfl, hS, h⟩
      · replace h := h.1 q
        refine mk_1011_45 ?_
        refine mk_1011_64 (fun q => ?_) (fun q => ?_)
        · replace h := h.1 q
          refine mk_1011_79 ?_
          refine mc_1011_83 c1 h (fun G5 e => ?_)
          obtain ⟨hSG5, h⟩ := e
          refine mk_1011_86 ⟨_, rfl, hSG5, h⟩
        · replace h := h.2 q
          refine mk_1011_76 ⟨_, rfl, hS, h⟩
    · replace h := h.1 q
      refine mk_1011_32 ?_
      refine mk_1011_64 (fun q => ?_) (fun q => ?_)
      · replace h := h.1 q
        refine mk_1011_79 ?_
        refine mc_1011_83 c1 h (fun G6 e => ?_)
        obtain ⟨hSG6, h⟩ := e
        refine mk_1011_86 ⟨_, rfl, hSG6, h⟩
      · replace h := h.2 q
        refine mk_1011_76 ⟨_, rfl, hS, h⟩
  · replace h := h.1 q
    refine mk_1011_19 ?_
    refine mk_1011_64 (fun q => ?_) (fun q => ?_)
    · replace h := h.1 q
      refine mk_1011_79 ?_
      refine mc_1011_83 c1 h (fun G7 e => ?_)
      obtain ⟨hSG7, h⟩ := e
      refine mk_1011_86 ⟨_, rfl, hSG7, h⟩
    · replace h := h.2 q
      refine mk_1011_76 ⟨_, rfl, hS, h⟩
/-! 1012: joinTexts (LTemplateQuarry$Value;LTemplateQuarry$Value;)I -/
theorem w_Fi_joinTexts {G : mj_G} (hS : cs_S G) {d : Nat} {r0 : Nat} {r1 : Nat} {K : Int32 → mj_G → Prop}
    (h : (mj_k G r0 = 12) ∧ Va_ownRow d r0 G (fun v3 G2 => (mj_k G2 r0 = 12) ∧ (mj_k G2 r1 = 12) ∧ (20 ≤ mj_k G2 v3) ∧ mm_br (((mj_i G2 r0 4) + (mj_i G2 r1 4)) ≤ (nI (mj_l G2 v3))) (mm_cpy G2 (mj_r G2 r0 3) (nI 0) v3 (nI 0) (mj_i G2 r0 4) (fun n7 n8 n9 => ∀ G19, G19 = mj_cp G2 (mj_r G2 r0 3) n7 v3 n8 n9 → mm_cpy G19 (mj_r G19 r1 3) (nI 0) v3 (mj_i G19 r0 4) (mj_i G19 r1 4) (fun n20 n21 n22 => ∀ G32, G32 = mj_cp G19 (mj_r G19 r1 3) n20 v3 n21 n22 → mm_br ((mj_i G32 r0 2) = (nI 0)) (Va_setText d r0 v3 ((mj_i G2 r0 4) + (mj_i G2 r1 4)) (nI 0) G32 (fun G33 => K (nI 0) G33)) (mm_br ((mj_i G32 r1 2) = (nI 0)) (Va_setText d r0 v3 ((mj_i G2 r0 4) + (mj_i G2 r1 4)) (nI 0) G32 (fun G34 => K (nI 0) G34)) (Va_setText d r0 v3 ((mj_i G2 r0 4) + (mj_i G2 r1 4)) (nI 1) G32 (fun G35 => K (nI 0) G35)))))) (K ((Int32.ofInt (-10))) G2))) : Fi_joinTexts (d + 1) r0 r1 G K := by
  refine mk_1012_0 ?_
  obtain ⟨c1, h⟩ := h
  refine mc_1012_1 c1 h (fun v3 G2 e => ?_)
  obtain ⟨hSG2, h⟩ := e
  obtain ⟨c4, h⟩ := h
  obtain ⟨c5, h⟩ := h
  obtain ⟨c6, h⟩ := h
  refine mk_1012_4 c4 rfl c5 rfl c6 rfl (fun q => ?_) (fun q => ?_)
  · replace h := h.1 q
    obtain ⟨c10, c11, c12, c13, c14, c15, c16, c17, c18, h⟩ := h
    replace h := h _ rfl
    obtain ⟨c23, c24, c25, c26, c27, c28, c29, c30, c31, h⟩ := h
    replace h := h _ rfl
    refine mk_1012_24 c4 rfl c4 rfl c10 c11 c12 c13 c14 c15 c16 c17 c18 rfl c5 rfl c4 rfl c5 rfl c23 c24 c25 c26 c27 c28 c29 c30 c31 rfl c4 rfl (fun q => ?_) (fun q => ?_)
    · replace h := h.1 q
      refine mk_1012_76 ?_
      refine mc_1012_77 c4 h (fun G33 e => ?_)
      obtain ⟨hSG33, h⟩ := e
      refine mk_1012_80 ⟨_, rfl, hSG33, h⟩
    · replace h := h.2 q
      refine mk_1012_65 c5 rfl (fun q => ?_) (fun q => ?_)
      · replace h := h.1 q
        refine mk_1012_76 ?_
        refine mc_1012_77 c4 h (fun G34 e => ?_)
        obtain ⟨hSG34, h⟩ := e
        refine mk_1012_80 ⟨_, rfl, hSG34, h⟩
      · replace h := h.2 q
        refine mk_1012_72 ?_
        refine mc_1012_77 c4 h (fun G35 e => ?_)
        obtain ⟨hSG35, h⟩ := e
        refine mk_1012_80 ⟨_, rfl, hSG35, h⟩
  · replace h := h.2 q
    refine mk_1012_21 ⟨_, rfl, hSG2, h⟩
/-! 3001: keep (LTemplateQuarry$Frame;LTemplateQuarry$Frame;LTemplateQuarry$Output;LTemplateQuarry$Stack;)V -/
set_option maxRecDepth 100000 in
theorem w_Fg_keep {G : mj_G} (hS : cs_S G) {d : Nat} {r0 : Nat} {r1 : Nat} {r2 : Nat} {K : mj_G → Prop}
    (h : (mj_k G r1 = 5) ∧ (mj_k G r0 = 4) ∧ ∀ G3, G3 = mj_pR G r0 0 (mj_r G r1 1) → (mj_k G3 r2 = 5) ∧ ∀ G5, G5 = mj_pI G3 r0 2 (mj_i G3 r2 9) → (20 ≤ mj_k G5 (mj_r G5 r0 1)) ∧ mm_cpy G5 (mj_r G5 r2 8) (nI 0) (mj_r G5 r0 1) (nI 0) (nI (mj_l G5 (mj_r G5 r0 1))) (fun n7 n8 n9 => ∀ G19, G19 = mj_cp G5 (mj_r G5 r2 8) n7 (mj_r G5 r0 1) n8 n9 → mm_ix (mj_i G19 r1 15) 301 (fun n20 => ∀ G22, G22 = mj_pI G19 r0 3 (mj_i G19 1592 n20) → (mj_b (mj_i G22 r1 16)) ∧ ∀ G24, G24 = mj_pI G22 r0 4 (mj_i G22 r1 16) → ∀ G25, G25 = mj_pI G24 r0 6 (mj_mx (nI 0) ((mj_i G24 1589 1) - (mj_i G24 r1 15))) → mm_cpy G25 (mj_r G25 1589 0) ((mj_i G25 1589 1) - (mj_i G25 r0 6)) (mj_r G25 r0 5) (nI 0) (mj_i G25 r0 6) (fun n26 n27 n28 => ∀ G38, G38 = mj_cp G25 (mj_r G25 1589 0) n26 (mj_r G25 r0 5) n27 n28 → ∀ G39, G39 = mj_pI G38 r0 7 (mj_i G38 r1 19) → ∀ G40, G40 = mj_pI G39 r0 8 (mj_i G39 r1 20) → Fg_keepValues d (mj_r G40 r0 9) (mj_i G40 r0 7) (mj_i G40 r1 4) G40 (fun G41 => (mj_k G41 r0 = 4) ∧ Fg_keepValues d (mj_r G41 r0 10) (mj_i G41 r0 8) ((Int32.ofInt (-1))) G41 (fun G43 => K G43)))))) : Fg_keep (d + 1) r0 r1 r2 G K := by
  obtain ⟨c1, h⟩ := h
  obtain ⟨c2, h⟩ := h
  replace h := h _ rfl
  obtain ⟨c4, h⟩ := h
  replace h := h _ rfl
  obtain ⟨c6, h⟩ := h
  obtain ⟨c10, c11, c12, c13, c14, c15, c16, c17, c18, h⟩ := h
  replace h := h _ rfl
  obtain ⟨i21, h⟩ := h
  replace h := h _ rfl
  obtain ⟨c23, h⟩ := h
  replace h := h _ rfl
  replace h := h _ rfl
  obtain ⟨c29, c30, c31, c32, c33, c34, c35, c36, c37, h⟩ := h
  replace h := h _ rfl
  replace h := h _ rfl
  replace h := h _ rfl
  refine mk_3001_0 c1 rfl c2 rfl c4 rfl c2 rfl c4 rfl c2 rfl c2 rfl c6 rfl c10 c11 c12 c13 c14 c15 c16 c17 c18 rfl (cs_k (cs_cp (cs_pI (cs_pR hS c2 rfl))) rfl) (cs_r (v := 1592) (cs_cp (cs_pI (cs_pR hS c2 rfl))) rfl) c1 rfl (cs_k (cs_cp (cs_pI (cs_pR hS c2 rfl))) rfl) (mm_v (cs_l (N := 301) (cs_cp (cs_pI (cs_pR hS c2 rfl))) rfl) i21) rfl c2 rfl c1 rfl c2 c23 rfl (cs_k (cs_pI (cs_pI (cs_cp (cs_pI (cs_pR hS c2 rfl))))) rfl) rfl c1 rfl c2 rfl (cs_k (cs_pI (cs_pI (cs_pI (cs_cp (cs_pI (cs_pR hS c2 rfl)))))) rfl) rfl (cs_k (cs_pI (cs_pI (cs_pI (cs_cp (cs_pI (cs_pR hS c2 rfl)))))) rfl) rfl c2 rfl c2 rfl c2 rfl c29 c30 c31 c32 c33 c34 c35 c36 c37 rfl c1 rfl c2 rfl c1 rfl c2 rfl c2 rfl c2 rfl c1 rfl ?_
  refine mc_3001_127 h (fun G41 e => ?_)
  obtain ⟨hSG41, h⟩ := e
  obtain ⟨c42, h⟩ := h
  refine mk_3001_130 c42 rfl c42 rfl ?_
  refine mc_3001_141 h (fun G43 e => ?_)
  obtain ⟨hSG43, h⟩ := e
  refine mk_3001_144 ⟨rfl, hSG43, h⟩
/-! 3002: keepValues ([LTemplateQuarry$Value;ILTemplateQuarry$Stack;I)V -/
theorem w_Fg_keepValues {G : mj_G} (hS : cs_S G) {d : Nat} {r0 : Nat} {x1 : Int32} {x3 : Int32} {K : mj_G → Prop}
    (h : Fg_keepValues_3 (d + 1) r0 x1 x3 (nI 0) G K) : Fg_keepValues (d + 1) r0 x1 x3 G K := by
  refine mk_3002_0 ?_
  exact h
theorem w_Fg_keepValues_3 {G : mj_G} (hS : cs_S G) {d : Nat} {r0 : Nat} {x1 : Int32} {x3 : Int32} {x4 : Int32} {K : mj_G → Prop}
    (h : mm_br ((nI 26) ≤ x4) (K G) (mm_br (((mm_shr x1 x4) &&& (nI 1)) = (nI 0)) (Fg_keepValues_3 (d + 1) r0 x1 x3 (x4 + nI 1) G K) ((30 ≤ mj_k G r0) ∧ mm_ix x4 (mj_l G r0) (fun n2 => mm_br ((mj_r G r0 n2) = 0) (∀ G11, G11 = mj_al G 12 8 (fun _ => 0) → Va_init d (mj_n G) G11 (fun G12 => (30 ≤ mj_k G12 r0) ∧ mm_ix x4 (mj_l G12 r0) (fun n14 => ((mj_n G) = 0 ∨ mj_k G12 (mj_n G) + 29 = mj_k G12 r0) ∧ (cs_w r0) ∧ ∀ G18, G18 = mj_pR G12 r0 n14 (mj_n G) → (30 ≤ mj_k G18 r0) ∧ mm_ix x4 (mj_l G18 r0) (fun n20 => St_valueFrom d x3 x4 G18 (fun v23 G22 => (mj_k G22 (mj_r G18 r0 n20) = 12) ∧ Va_keep d (mj_r G18 r0 n20) v23 G22 (fun G25 => Fg_keepValues_3 (d + 1) r0 x1 x3 (x4 + nI 1) G25 K)))))) ((30 ≤ mj_k G r0) ∧ mm_ix x4 (mj_l G r0) (fun n5 => St_valueFrom d x3 x4 G (fun v8 G7 => (mj_k G7 (mj_r G r0 n5) = 12) ∧ Va_keep d (mj_r G r0 n5) v8 G7 (fun G10 => Fg_keepValues_3 (d + 1) r0 x1 x3 (x4 + nI 1) G10 K)))))))) : Fg_keepValues_3 (d + 1) r0 x1 x3 x4 G K := by
  refine mk_3002_3 (fun q => ?_) (fun q => ?_)
  · replace h := h.1 q
    refine mk_3002_57 ⟨rfl, hS, h⟩
  · replace h := h.2 q
    refine mk_3002_10 (fun q => ?_) (fun q => ?_)
    · replace h := h.1 q
      refine mk_3002_51 ?_
      exact h
    · replace h := h.2 q
      obtain ⟨c1, h⟩ := h
      obtain ⟨i3, h⟩ := h
      refine mk_3002_19 c1 i3 rfl (fun q => ?_) (fun q => ?_)
      · replace h := h.2 q
        obtain ⟨c4, h⟩ := h
        obtain ⟨i6, h⟩ := h
        refine mk_3002_37 c4 i6 rfl ?_
        refine mc_3002_45 (cs_k hS rfl) h (fun v8 G7 e => ?_)
        obtain ⟨hSG7, h⟩ := e
        obtain ⟨c9, h⟩ := h
        refine mc_3002_48 c9 h (fun G10 e => ?_)
        obtain ⟨hSG10, h⟩ := e
        refine mk_3002_51 ?_
        exact h
      · replace h := h.1 q
        replace h := h _ rfl
        refine mk_3002_26 rfl rfl ?_
        refine mc_3002_33 mj_k_al h (fun G12 e => ?_)
        obtain ⟨hSG12, h⟩ := e
        obtain ⟨c13, h⟩ := h
        obtain ⟨i15, h⟩ := h
        obtain ⟨c16, h⟩ := h
        obtain ⟨c17, h⟩ := h
        replace h := h _ rfl
        refine mk_3002_36 c13 i15 c16 rfl ?_
        obtain ⟨c19, h⟩ := h
        obtain ⟨i21, h⟩ := h
        refine mk_3002_37 c19 i21 rfl ?_
        refine mc_3002_45 (cs_k (cs_pRw hSG12 c13 c17) rfl) h (fun v23 G22 e => ?_)
        obtain ⟨hSG22, h⟩ := e
        obtain ⟨c24, h⟩ := h
        refine mc_3002_48 c24 h (fun G25 e => ?_)
        obtain ⟨hSG25, h⟩ := e
        refine mk_3002_51 ?_
        exact h
/-! 3003: fits (LTemplateQuarry$Node;LTemplateQuarry$Frame;LTemplateQuarry$Output;LTemplateQuarry$Stack;I)Z -/
theorem w_Fg_fits {G : mj_G} (hS : cs_S G) {d : Nat} {r0 : Nat} {r1 : Nat} {r2 : Nat} {x5 : Int32} {K : Bool → mj_G → Prop}
    (h : (mj_k G r0 = 4) ∧ ((mj_r G r0 0) ≠ 1) ∧ ((mj_r G r0 0) ≠ 2) ∧ (r1 ≠ 1) ∧ (r1 ≠ 2) ∧ mm_br ((mj_r G r0 0) = r1) (Fg_hasLine d r0 r2 G (fun v7 G6 => mm_br (v7 = true) ((mj_k G6 r0 = 4) ∧ mm_ix (mj_i G6 1589 1) 301 (fun n9 => mm_br ((mj_i G6 r0 3) = (mj_i G6 1592 n9)) (mm_br ((mj_i G6 r0 4) = (mj_i G6 1589 5)) (Fg_hasValues d (mj_r G6 r0 9) (mj_i G6 r0 7) x5 G6 (fun v12 G11 => mm_br (v12 = true) ((mj_k G11 r0 = 4) ∧ Fg_hasValues d (mj_r G11 r0 10) (mj_i G11 r0 8) ((Int32.ofInt (-1))) G11 (fun v15 G14 => mm_br (v15 = true) (K true G14) (K false G14))) (K false G11))) (K false G6)) (K false G6))) (K false G6))) (K false G)) : Fg_fits (d + 1) r0 r1 r2 x5 G K := by
  obtain ⟨c1, h⟩ := h
  obtain ⟨c2, h⟩ := h
  obtain ⟨c3, h⟩ := h
  obtain ⟨c4, h⟩ := h
  obtain ⟨c5, h⟩ := h
  refine mk_3003_0 c1 rfl c2 c3 c4 c5 (fun q => ?_) (fun q => ?_)
  · replace h := h.2 q
    refine mk_3003_82 ?_
    refine mk_3003_83 (bI_b false) ⟨false, rfl, hS, h⟩
  · replace h := h.1 q
    refine mk_3003_8 ?_
    refine mc_3003_10 c1 (cc_z h) (fun v0 G6 e => ?_)
    obtain ⟨v7, rfl, hSG6, h⟩ := e
    refine mk_3003_13 (fun q => ?_) (fun q => ?_)
    · replace h := h.2 (bI_z q)
      refine mk_3003_82 ?_
      refine mk_3003_83 (bI_b false) ⟨false, rfl, hSG6, h⟩
    · replace h := h.1 (bI_n q)
      obtain ⟨c8, h⟩ := h
      obtain ⟨i10, h⟩ := h
      refine mk_3003_16 c8 rfl (cs_k hSG6 rfl) (cs_r (v := 1592) hSG6 rfl) (cs_k hSG6 rfl) rfl (cs_k hSG6 rfl) (mm_v (cs_l (N := 301) hSG6 rfl) i10) rfl (fun q => ?_) (fun q => ?_)
      · replace h := h.2 q
        refine mk_3003_82 ?_
        refine mk_3003_83 (bI_b false) ⟨false, rfl, hSG6, h⟩
      · replace h := h.1 q
        refine mk_3003_32 c8 rfl (cs_k hSG6 rfl) rfl (fun q => ?_) (fun q => ?_)
        · replace h := h.2 q
          refine mk_3003_82 ?_
          refine mk_3003_83 (bI_b false) ⟨false, rfl, hSG6, h⟩
        · replace h := h.1 q
          refine mk_3003_43 c8 rfl c8 rfl ?_
          refine mc_3003_55 (cc_z h) (fun v0 G11 e => ?_)
          obtain ⟨v12, rfl, hSG11, h⟩ := e
          refine mk_3003_58 (fun q => ?_) (fun q => ?_)
          · replace h := h.2 (bI_z q)
            refine mk_3003_82 ?_
            refine mk_3003_83 (bI_b false) ⟨false, rfl, hSG11, h⟩
          · replace h := h.1 (bI_n q)
            obtain ⟨c13, h⟩ := h
            refine mk_3003_61 c13 rfl c13 rfl ?_
            refine mc_3003_72 (cc_z h) (fun v0 G14 e => ?_)
            obtain ⟨v15, rfl, hSG14, h⟩ := e
            refine mk_3003_75 (fun q => ?_) (fun q => ?_)
            · replace h := h.2 (bI_z q)
              refine mk_3003_82 ?_
              refine mk_3003_83 (bI_b false) ⟨false, rfl, hSG14, h⟩
            · replace h := h.1 (bI_n q)
              refine mk_3003_78 ?_
              refine mk_3003_83 (bI_b true) ⟨true, rfl, hSG14, h⟩
/-! 3004: hasLine (LTemplateQuarry$Frame;)Z -/
theorem w_Fg_hasLine {G : mj_G} (hS : cs_S G) {d : Nat} {r0 : Nat} {r1 : Nat} {K : Bool → mj_G → Prop}
    (h : (mj_k G r0 = 4) ∧ (mj_k G r1 = 5) ∧ mm_br ((mj_i G r0 2) = (mj_i G r1 9)) (Fg_hasLine_15 d r0 r1 (nI 0) G K) (K false G)) : Fg_hasLine d r0 r1 G K := by
  obtain ⟨c1, h⟩ := h
  obtain ⟨c2, h⟩ := h
  refine mk_3004_0 c1 rfl c2 rfl (fun q => ?_) (fun q => ?_)
  · replace h := h.1 q
    refine mk_3004_13 ?_
    exact h
  · replace h := h.2 q
    refine mk_3004_11 (bI_b false) ⟨false, rfl, hS, h⟩
theorem w_Fg_hasLine_15 {G : mj_G} (hS : cs_S G) {d : Nat} {r0 : Nat} {r1 : Nat} {x2 : Int32} {K : Bool → mj_G → Prop}
    (h : (mj_k G r0 = 4) ∧ mm_br ((mj_i G r0 2) ≤ x2) (K true G) ((20 ≤ mj_k G (mj_r G r0 1)) ∧ mm_br ((nI (mj_l G (mj_r G r0 1))) ≤ x2) (K true G) ((mj_k G (mj_r G r0 1) = 20) ∧ mm_ix x2 (mj_l G (mj_r G r0 1)) (fun n6 => (mj_k G r1 = 5) ∧ (mj_k G (mj_r G r1 8) = 20) ∧ mm_ix x2 (mj_l G (mj_r G r1 8)) (fun n10 => mm_br ((mj_i G (mj_r G r0 1) n6) = (mj_i G (mj_r G r1 8) n10)) (Fg_hasLine_15 d r0 r1 (x2 + nI 1) G K) (K false G)))))) : Fg_hasLine_15 d r0 r1 x2 G K := by
  obtain ⟨c3, h⟩ := h
  refine mk_3004_15 c3 rfl (fun q => ?_) (fun q => ?_)
  · replace h := h.1 q
    refine mk_3004_55 (bI_b true) ⟨true, rfl, hS, h⟩
  · replace h := h.2 q
    obtain ⟨c4, h⟩ := h
    refine mk_3004_23 c3 rfl c4 rfl (fun q => ?_) (fun q => ?_)
    · replace h := h.1 q
      refine mk_3004_55 (bI_b true) ⟨true, rfl, hS, h⟩
    · replace h := h.2 q
      obtain ⟨c5, h⟩ := h
      obtain ⟨i7, h⟩ := h
      obtain ⟨c8, h⟩ := h
      obtain ⟨c9, h⟩ := h
      obtain ⟨i11, h⟩ := h
      refine mk_3004_32 c3 rfl c5 i7 rfl c8 rfl c9 i11 rfl (fun q => ?_) (fun q => ?_)
      · replace h := h.1 q
        refine mk_3004_49 ?_
        exact h
      · replace h := h.2 q
        refine mk_3004_47 (bI_b false) ⟨false, rfl, hS, h⟩
/-! 3005: hasValues ([LTemplateQuarry$Value;ILTemplateQuarry$Stack;I)Z -/
theorem w_Fg_hasValues {G : mj_G} (hS : cs_S G) {d : Nat} {r0 : Nat} {x1 : Int32} {x3 : Int32} {K : Bool → mj_G → Prop}
    (h : Fg_hasValues_3 (d + 1) r0 x1 x3 (nI 0) G K) : Fg_hasValues (d + 1) r0 x1 x3 G K := by
  refine mk_3005_0 ?_
  exact h
theorem w_Fg_hasValues_3 {G : mj_G} (hS : cs_S G) {d : Nat} {r0 : Nat} {x1 : Int32} {x3 : Int32} {x4 : Int32} {K : Bool → mj_G → Prop}
    (h : mm_br ((nI 26) ≤ x4) (K true G) ((30 ≤ mj_k G r0) ∧ mm_ix x4 (mj_l G r0) (fun n2 => mm_br (((mm_shr x1 x4) &&& (nI 1)) = (nI 0)) (Fg_hasValues_3 (d + 1) r0 x1 x3 (x4 + nI 1) G K) (mm_br ((mj_r G r0 n2) = 0) (Fg_hasValues_3 (d + 1) r0 x1 x3 (x4 + nI 1) G K) (St_valueFrom d x3 x4 G (fun v5 G4 => (mj_k G4 (mj_r G r0 n2) = 12) ∧ Va_isLike d (mj_r G r0 n2) v5 G4 (fun v8 G7 => mm_br (v8 = true) ((mj_k G7 (mj_r G r0 n2) = 12) ∧ Va_isSafeLike d (mj_r G r0 n2) v5 G7 (fun v11 G10 => mm_br (v11 = true) (Fg_hasValues_3 (d + 1) r0 x1 x3 (x4 + nI 1) G10 K) (K false G10))) (K false G7)))))))) : Fg_hasValues_3 (d + 1) r0 x1 x3 x4 G K := by
  refine mk_3005_3 (fun q => ?_) (fun q => ?_)
  · replace h := h.1 q
    refine mk_3005_67 (bI_b true) ⟨true, rfl, hS, h⟩
  · replace h := h.2 q
    obtain ⟨c1, h⟩ := h
    obtain ⟨i3, h⟩ := h
    refine mk_3005_10 c1 i3 rfl (fun q => ?_) (fun q => ?_)
    · replace h := h.1 q
      refine mk_3005_61 ?_
      exact h
    · replace h := h.2 q
      refine mk_3005_25 (fun q => ?_) (fun q => ?_)
      · replace h := h.1 q
        refine mk_3005_61 ?_
        exact h
      · replace h := h.2 q
        refine mk_3005_30 ?_
        refine mc_3005_34 (cs_k hS rfl) h (fun v5 G4 e => ?_)
        obtain ⟨hSG4, h⟩ := e
        refine mk_3005_37 ?_
        obtain ⟨c6, h⟩ := h
        refine mc_3005_43 c6 (cc_z h) (fun v0 G7 e => ?_)
        obtain ⟨v8, rfl, hSG7, h⟩ := e
        refine mk_3005_46 (fun q => ?_) (fun q => ?_)
        · replace h := h.2 (bI_z q)
          refine mk_3005_59 (bI_b false) ⟨false, rfl, hSG7, h⟩
        · replace h := h.1 (bI_n q)
          refine mk_3005_49 ?_
          obtain ⟨c9, h⟩ := h
          refine mc_3005_53 c9 (cc_z h) (fun v0 G10 e => ?_)
          obtain ⟨v11, rfl, hSG10, h⟩ := e
          refine mk_3005_56 (fun q => ?_) (fun q => ?_)
          · replace h := h.1 (bI_n q)
            refine mk_3005_61 ?_
            exact h
          · replace h := h.2 (bI_z q)
            refine mk_3005_59 (bI_b false) ⟨false, rfl, hSG10, h⟩
/-! 9001: begin ()V -/
theorem w_St_begin {G : mj_G} (hS : cs_S G) {d : Nat} {K : mj_G → Prop}
    (h : mm_ix (nI 0) 200 (fun n1 => ∀ G3, G3 = mj_pI G (707 + 4 * n1) 0 (nI 1) → ∀ G4, G4 = mj_pR G3 (707 + 4 * n1) 2 0 → ∀ G5, G5 = mj_pI G4 (707 + 4 * n1) 3 (nI 0) → ∀ G6, G6 = mj_pI G5 (707 + 4 * n1) 4 ((Int32.ofInt (-1))) → ∀ G7, G7 = mj_pI G6 (707 + 4 * n1) 5 (nI 0) → ∀ G8, G8 = mj_pI G7 (707 + 4 * n1) 6 (nI 0) → ∀ G9, G9 = mj_pI G8 (707 + 4 * n1) 7 (nI 0) → ∀ G10, G10 = mj_pI G9 (707 + 4 * n1) 10 ((Int32.ofInt (-1))) → ∀ G11, G11 = mj_pI G10 (707 + 4 * n1) 11 ((Int32.ofInt (-1))) → ∀ G12, G12 = mj_pI G11 (707 + 4 * n1) 12 (nI 0) → ∀ G13, G13 = mj_pI G12 11 4 (nI 0) → ∀ G14, G14 = mj_pI G13 11 2 (nI 0) → K G14)) : St_begin d G K := by
  obtain ⟨i2, h⟩ := h
  replace h := h _ rfl
  replace h := h _ rfl
  replace h := h _ rfl
  replace h := h _ rfl
  replace h := h _ rfl
  replace h := h _ rfl
  replace h := h _ rfl
  replace h := h _ rfl
  replace h := h _ rfl
  replace h := h _ rfl
  replace h := h _ rfl
  replace h := h _ rfl
  refine mk_9001_0 (cs_k hS rfl) (cs_r (v := 14) hS rfl) (cs_kg hS rfl) (mm_v (cs_l (N := 200) hS rfl) i2) (cs_f14 hS (mm_lt i2)) ((cs_g14 hS (mm_lt i2)).trans rfl) rfl ((cs_g14 hS (mm_lt i2)).trans rfl) rfl ((cs_g14 hS (mm_lt i2)).trans rfl) rfl ((cs_g14 hS (mm_lt i2)).trans rfl) rfl ((cs_g14 hS (mm_lt i2)).trans rfl) rfl ((cs_g14 hS (mm_lt i2)).trans rfl) rfl ((cs_g14 hS (mm_lt i2)).trans rfl) rfl ((cs_g14 hS (mm_lt i2)).trans rfl) rfl ((cs_g14 hS (mm_lt i2)).trans rfl) rfl ((cs_g14 hS (mm_lt i2)).trans rfl) rfl (cs_k (cs_pI (cs_pI (cs_pI (cs_pI (cs_pI (cs_pI (cs_pI (cs_pI (cs_pR (cs_pI hS) ((cs_g14 hS (mm_lt i2)).trans rfl) rfl))))))))) rfl) rfl (cs_k (cs_pI (cs_pI (cs_pI (cs_pI (cs_pI (cs_pI (cs_pI (cs_pI (cs_pI (cs_pR (cs_pI hS) ((cs_g14 hS (mm_lt i2)).trans rfl) rfl)))))))))) rfl) rfl ⟨rfl, (cs_pI (cs_pI (cs_pI (cs_pI (cs_pI (cs_pI (cs_pI (cs_pI (cs_pI (cs_pI (cs_pR (cs_pI hS) ((cs_g14 hS (mm_lt i2)).trans rfl) rfl))))))))))), h⟩
/-! 9002: push (ILTemplateQuarry$Node;LTemplateQuarry$Node;)LTemplateQuarry$Frame; -/
theorem w_St_push {G : mj_G} (hS : cs_S G) {d : Nat} {x1 : Int32} {r2 : Nat} {r3 : Nat} {K : Nat → mj_G → Prop}
    (h : mm_br ((mj_i G 11 4) < (nI 0)) (K 0 G) (mm_br ((mj_i G 11 4) < (nI 199)) (mm_ix (mj_i G 11 4) 200 (fun n1 => mm_ix ((mj_i G 11 4) + (nI 1)) 200 (fun n3 => ∀ G5, G5 = mj_pI G (707 + 4 * n3) 3 (mj_i G (707 + 4 * n1) 3) → ∀ G6, G6 = mj_pI G5 (707 + 4 * n3) 7 (mj_i G5 (707 + 4 * n1) 7) → ∀ G7, G7 = mj_pI G6 (707 + 4 * n3) 10 (mj_i G6 (707 + 4 * n1) 10) → ∀ G8, G8 = mj_pI G7 (707 + 4 * n3) 11 (mj_i G7 (707 + 4 * n1) 11) → ∀ G9, G9 = mj_pI G8 (707 + 4 * n3) 12 (mj_i G8 (707 + 4 * n1) 12) → ∀ G10, G10 = mj_pI G9 (707 + 4 * n3) 0 x1 → ∀ G11, G11 = mj_pR G10 (707 + 4 * n3) 1 r2 → ∀ G12, G12 = mj_pR G11 (707 + 4 * n3) 2 r3 → ∀ G13, G13 = mj_pI G12 11 4 ((mj_i G12 11 4) + (nI 1)) → K (707 + 4 * n3) G13))) (K 0 G))) : St_push d x1 r2 r3 G K := by
  refine mk_9002_0 (cs_k hS rfl) rfl (fun q => ?_) (fun q => ?_)
  · replace h := h.1 q
    refine mk_9002_17 ⟨_, rfl, hS, h⟩
  · replace h := h.2 q
    refine mk_9002_7 (cs_k hS rfl) rfl (fun q => ?_) (fun q => ?_)
    · replace h := h.1 q
      obtain ⟨i2, h⟩ := h
      obtain ⟨i4, h⟩ := h
      replace h := h _ rfl
      replace h := h _ rfl
      replace h := h _ rfl
      replace h := h _ rfl
      replace h := h _ rfl
      replace h := h _ rfl
      replace h := h _ rfl
      replace h := h _ rfl
      replace h := h _ rfl
      refine mk_9002_19 (cs_k hS rfl) (cs_r (v := 14) hS rfl) (cs_k hS rfl) rfl (cs_kg hS rfl) (mm_v (cs_l (N := 200) hS rfl) i2) (cs_f14 hS (mm_lt i2)) (cs_k hS rfl) (cs_r (v := 14) hS rfl) (cs_k hS rfl) rfl (cs_kg hS rfl) (mm_v (cs_l (N := 200) hS rfl) i4) (cs_f14 hS (mm_lt i4)) ((cs_g14 hS (mm_lt i2)).trans rfl) rfl ((cs_g14 hS (mm_lt i4)).trans rfl) rfl ((cs_g14 hS (mm_lt i2)).trans rfl) rfl ((cs_g14 hS (mm_lt i4)).trans rfl) rfl ((cs_g14 hS (mm_lt i2)).trans rfl) rfl ((cs_g14 hS (mm_lt i4)).trans rfl) rfl ((cs_g14 hS (mm_lt i2)).trans rfl) rfl ((cs_g14 hS (mm_lt i4)).trans rfl) rfl ((cs_g14 hS (mm_lt i2)).trans rfl) rfl ((cs_g14 hS (mm_lt i4)).trans rfl) rfl ((cs_g14 hS (mm_lt i4)).trans rfl) rfl ((cs_g14 hS (mm_lt i4)).trans rfl) rfl ((cs_g14 hS (mm_lt i4)).trans rfl) rfl (cs_k (cs_pR (cs_pR (cs_pI (cs_pI (cs_pI (cs_pI (cs_pI (cs_pI hS)))))) ((cs_g14 hS (mm_lt i4)).trans rfl) rfl) ((cs_g14 hS (mm_lt i4)).trans rfl) rfl) rfl) rfl (cs_k (cs_pR (cs_pR (cs_pI (cs_pI (cs_pI (cs_pI (cs_pI (cs_pI hS)))))) ((cs_g14 hS (mm_lt i4)).trans rfl) rfl) ((cs_g14 hS (mm_lt i4)).trans rfl) rfl) rfl) rfl ⟨_, rfl, (cs_pI (cs_pR (cs_pR (cs_pI (cs_pI (cs_pI (cs_pI (cs_pI (cs_pI hS)))))) ((cs_g14 hS (mm_lt i4)).trans rfl) rfl) ((cs_g14 hS (mm_lt i4)).trans rfl) rfl)), h⟩
    · replace h := h.2 q
      refine mk_9002_17 ⟨_, rfl, hS, h⟩
/-! 9003: pushScope (ILTemplateQuarry$Node;LTemplateQuarry$Node;)LTemplateQuarry$Frame; -/
theorem w_St_pushScope {G : mj_G} (hS : cs_S G) {d : Nat} {x1 : Int32} {r2 : Nat} {r3 : Nat} {K : Nat → mj_G → Prop}
    (h : St_push d x1 r2 r3 G (fun v2 G1 => mm_br (v2 = 0) (K v2 G1) ((mj_k G1 v2 = 5) ∧ ∀ G4, G4 = mj_pI G1 v2 4 (mj_i G1 v2 3) → ∀ G5, G5 = mj_pI G4 v2 3 (mj_i G4 11 4) → ∀ G6, G6 = mj_pI G5 v2 5 (mj_i G5 11 2) → ∀ G7, G7 = mj_pI G6 v2 6 (nI 0) → K v2 G7))) : St_pushScope (d + 1) x1 r2 r3 G K := by
  refine mk_9003_0 ?_
  refine mc_9003_4 (cs_k hS rfl) h (fun v2 G1 e => ?_)
  obtain ⟨hSG1, h⟩ := e
  refine mk_9003_7 (fun q => ?_) (fun q => ?_)
  · replace h := h.1 q
    refine mk_9003_48 ⟨_, rfl, hSG1, h⟩
  · replace h := h.2 q
    obtain ⟨c3, h⟩ := h
    replace h := h _ rfl
    replace h := h _ rfl
    replace h := h _ rfl
    replace h := h _ rfl
    refine mk_9003_14 c3 rfl c3 rfl (cs_k (cs_pI hSG1) rfl) rfl c3 rfl (cs_k (cs_pI (cs_pI hSG1)) rfl) rfl c3 rfl c3 rfl ?_
    refine mk_9003_48 ⟨_, rfl, (cs_pI (cs_pI (cs_pI (cs_pI hSG1)))), h⟩
/-! 9004: open (LTemplateQuarry$Node;LTemplateQuarry$Node;)LTemplateQuarry$Frame; -/
theorem w_St_open {G : mj_G} (hS : cs_S G) {d : Nat} {r1 : Nat} {r2 : Nat} {K : Nat → mj_G → Prop}
    (h : mm_br ((mj_i G 11 4) < (nI 0)) (K 0 G) (mm_ix (mj_i G 11 4) 200 (fun n1 => mm_br ((mj_i G (707 + 4 * n1) 12) < (nI 12)) ((mj_k G r1 = 6) ∧ St_pushScope d (mj_i G r1 0) r1 r2 G (fun v5 G4 => mm_br (v5 = 0) (K v5 G4) ((mj_k G4 v5 = 5) ∧ ∀ G7, G7 = mj_pI G4 v5 12 ((mj_i G4 v5 12) + (nI 1)) → K v5 G7))) (K 0 G)))) : St_open (d + 1) r1 r2 G K := by
  refine mk_9004_0 (cs_k hS rfl) rfl (fun q => ?_) (fun q => ?_)
  · replace h := h.1 q
    refine mk_9004_24 ⟨_, rfl, hS, h⟩
  · replace h := h.2 q
    obtain ⟨i2, h⟩ := h
    refine mk_9004_7 (cs_k hS rfl) (cs_r (v := 14) hS rfl) (cs_k hS rfl) rfl (cs_kg hS rfl) (mm_v (cs_l (N := 200) hS rfl) i2) (cs_f14 hS (mm_lt i2)) ((cs_g14 hS (mm_lt i2)).trans rfl) rfl (fun q => ?_) (fun q => ?_)
    · replace h := h.1 q
      obtain ⟨c3, h⟩ := h
      refine mk_9004_26 c3 rfl ?_
      refine mc_9004_33 (cs_k hS rfl) h (fun v5 G4 e => ?_)
      obtain ⟨hSG4, h⟩ := e
      refine mk_9004_36 (fun q => ?_) (fun q => ?_)
      · replace h := h.1 q
        refine mk_9004_51 ⟨_, rfl, hSG4, h⟩
      · replace h := h.2 q
        obtain ⟨c6, h⟩ := h
        replace h := h _ rfl
        refine mk_9004_41 c6 rfl c6 rfl ?_
        refine mk_9004_51 ⟨_, rfl, (cs_pI hSG4), h⟩
    · replace h := h.2 q
      refine mk_9004_24 ⟨_, rfl, hS, h⟩
/-! 9005: cut (I)V -/
theorem w_St_cut {G : mj_G} (hS : cs_S G) {d : Nat} {x1 : Int32} {K : mj_G → Prop}
    (h : St_cut_5 d x1 (mj_i G 11 4) G K) : St_cut d x1 G K := by
  refine mk_9005_0 (cs_k hS rfl) rfl ?_
  exact h
theorem w_St_cut_5 {G : mj_G} (hS : cs_S G) {d : Nat} {x1 : Int32} {x2 : Int32} {K : mj_G → Prop}
    (h : mm_br (x2 < x1) (∀ G1, G1 = mj_pI G 11 4 (x1 - (nI 1)) → K G1) (mm_br (x2 < (nI 0)) (∀ G2, G2 = mj_pI G 11 4 (x1 - (nI 1)) → K G2) (mm_ix x2 200 (fun n3 => mm_br ((mj_i G (707 + 4 * n3) 3) = x2) (mm_ix x2 200 (fun n5 => ∀ G7, G7 = mj_pI G 11 2 (mj_i G (707 + 4 * n5) 5) → St_cut_5 d x1 (x2 + (Int32.ofInt (-1))) G7 K)) (St_cut_5 d x1 (x2 + (Int32.ofInt (-1))) G K))))) : St_cut_5 d x1 x2 G K := by
  refine mk_9005_5 (fun q => ?_) (fun q => ?_)
  · replace h := h.1 q
    replace h := h _ rfl
    refine mk_9005_46 (cs_k hS rfl) rfl ⟨rfl, (cs_pI hS), h⟩
  · replace h := h.2 q
    refine mk_9005_10 (fun q => ?_) (fun q => ?_)
    · replace h := h.1 q
      replace h := h _ rfl
      refine mk_9005_46 (cs_k hS rfl) rfl ⟨rfl, (cs_pI hS), h⟩
    · replace h := h.2 q
      obtain ⟨i4, h⟩ := h
      refine mk_9005_14 (cs_k hS rfl) (cs_r (v := 14) hS rfl) (cs_kg hS rfl) (mm_v (cs_l (N := 200) hS rfl) i4) (cs_f14 hS (mm_lt i4)) ((cs_g14 hS (mm_lt i4)).trans rfl) rfl (fun q => ?_) (fun q => ?_)
      · replace h := h.2 q
        refine mk_9005_40 ?_
        exact h
      · replace h := h.1 q
        obtain ⟨i6, h⟩ := h
        replace h := h _ rfl
        refine mk_9005_27 (cs_k hS rfl) (cs_r (v := 14) hS rfl) (cs_kg hS rfl) (mm_v (cs_l (N := 200) hS rfl) i6) (cs_f14 hS (mm_lt i6)) ((cs_g14 hS (mm_lt i6)).trans rfl) rfl (cs_k hS rfl) rfl ?_
        refine mk_9005_40 ?_
        exact h
/-! 9006: scope ()I -/
theorem w_St_scope {G : mj_G} (hS : cs_S G) {d : Nat} {K : Int32 → mj_G → Prop}
    (h : mm_br ((mj_i G 11 4) < (nI 0)) (K ((Int32.ofInt (-1))) G) (mm_ix (mj_i G 11 4) 200 (fun n1 => K (mj_i G (707 + 4 * n1) 3) G))) : St_scope d G K := by
  refine mk_9006_0 (cs_k hS rfl) rfl (fun q => ?_) (fun q => ?_)
  · replace h := h.1 q
    refine mk_9006_22 ?_
    refine mk_9006_23 ⟨_, rfl, hS, h⟩
  · replace h := h.2 q
    obtain ⟨i2, h⟩ := h
    refine mk_9006_7 (cs_k hS rfl) (cs_r (v := 14) hS rfl) (cs_k hS rfl) rfl (cs_kg hS rfl) (mm_v (cs_l (N := 200) hS rfl) i2) (cs_f14 hS (mm_lt i2)) ((cs_g14 hS (mm_lt i2)).trans rfl) rfl ?_
    refine mk_9006_23 ⟨_, rfl, hS, h⟩
/-! 9007: set (ILTemplateQuarry$Value;)Z -/
theorem w_St_set {G : mj_G} (hS : cs_S G) {d : Nat} {x1 : Int32} {r2 : Nat} {K : Bool → mj_G → Prop}
    (h : mm_br ((nI 0) ≤ (mj_i G 11 4)) (mm_ix (mj_i G 11 4) 200 (fun n1 => mm_ix (mj_i G (707 + 4 * n1) 3) 200 (fun n3 => St_placeIn d (707 + 4 * n3) x1 G (fun v6 G5 => mm_br (v6 = ((Int32.ofInt (-1)))) (mm_br ((mj_i G5 11 2) < (nI 320)) (mm_ix (mj_i G5 11 2) 320 (fun n10 => ∀ G12, G12 = mj_pI G5 (67 + 2 * n10) 6 x1 → ∀ G13, G13 = mj_pI G12 11 2 ((mj_i G12 11 2) + (nI 1)) → (mj_k G13 (707 + 4 * n3) = 5) ∧ ∀ G15, G15 = mj_pI G13 (707 + 4 * n3) 6 ((mj_i G13 (707 + 4 * n3) 6) + (nI 1)) → mm_ix (mj_i G5 11 2) 320 (fun n16 => Va_keep d (67 + 2 * n16) r2 G15 (fun G18 => K true G18)))) (K false G5)) (mm_ix v6 320 (fun n7 => Va_keep d (67 + 2 * n7) r2 G5 (fun G9 => K true G9))))))) (K false G)) : St_set (d + 1) x1 r2 G K := by
  refine mk_9007_0 (cs_k hS rfl) rfl (fun q => ?_) (fun q => ?_)
  · replace h := h.1 q
    obtain ⟨i2, h⟩ := h
    obtain ⟨i4, h⟩ := h
    refine mk_9007_9 (cs_k hS rfl) (cs_r (v := 14) hS rfl) (cs_k hS rfl) (cs_r (v := 14) hS rfl) (cs_k hS rfl) rfl (cs_kg hS rfl) (mm_v (cs_l (N := 200) hS rfl) i2) (cs_f14 hS (mm_lt i2)) ((cs_g14 hS (mm_lt i2)).trans rfl) rfl (cs_kg hS rfl) (mm_v (cs_l (N := 200) hS rfl) i4) (cs_f14 hS (mm_lt i4)) ?_
    refine mc_9007_30 (cs_k hS rfl) h (fun v6 G5 e => ?_)
    obtain ⟨hSG5, h⟩ := e
    refine mk_9007_33 (fun q => ?_) (fun q => ?_)
    · replace h := h.2 q
      obtain ⟨i8, h⟩ := h
      refine mk_9007_90 (cs_k hSG5 rfl) (cs_r (v := 13) hSG5 rfl) (cs_kg hSG5 rfl) (mm_v (cs_l (N := 320) hSG5 rfl) i8) (cs_f13 hSG5 (mm_lt i8)) ?_
      refine mc_9007_98 ((cs_g13 hSG5 (mm_lt i8)).trans rfl) h (fun G9 e => ?_)
      obtain ⟨hSG9, h⟩ := e
      refine mk_9007_101 (bI_b true) ⟨true, rfl, hSG9, h⟩
    · replace h := h.1 q
      refine mk_9007_41 (cs_k hSG5 rfl) rfl (fun q => ?_) (fun q => ?_)
      · replace h := h.1 q
        obtain ⟨i11, h⟩ := h
        replace h := h _ rfl
        replace h := h _ rfl
        obtain ⟨c14, h⟩ := h
        replace h := h _ rfl
        refine mk_9007_53 (cs_k hSG5 rfl) rfl (cs_k hSG5 rfl) (cs_r (v := 13) hSG5 rfl) (cs_kg hSG5 rfl) (mm_v (cs_l (N := 320) hSG5 rfl) i11) (cs_f13 hSG5 (mm_lt i11)) ((cs_g13 hSG5 (mm_lt i11)).trans rfl) rfl (cs_k (cs_pI hSG5) rfl) rfl (cs_k (cs_pI hSG5) rfl) rfl c14 rfl c14 rfl ?_
        obtain ⟨i17, h⟩ := h
        refine mk_9007_90 (cs_k (cs_pI (cs_pI (cs_pI hSG5))) rfl) (cs_r (v := 13) (cs_pI (cs_pI (cs_pI hSG5))) rfl) (cs_kg (cs_pI (cs_pI (cs_pI hSG5))) rfl) (mm_v (cs_l (N := 320) (cs_pI (cs_pI (cs_pI hSG5))) rfl) i17) (cs_f13 (cs_pI (cs_pI (cs_pI hSG5))) (mm_lt i17)) ?_
        refine mc_9007_98 (cs_g13 (cs_pI (cs_pI (cs_pI hSG5))) (mm_lt i17)) h (fun G18 e => ?_)
        obtain ⟨hSG18, h⟩ := e
        refine mk_9007_101 (bI_b true) ⟨true, rfl, hSG18, h⟩
      · replace h := h.2 q
        refine mk_9007_51 (bI_b false) ⟨false, rfl, hSG5, h⟩
  · replace h := h.2 q
    refine mk_9007_7 (bI_b false) ⟨false, rfl, hS, h⟩
/-! 9008: placeIn (LTemplateQuarry$Frame;I)I -/
theorem w_St_placeIn {G : mj_G} (hS : cs_S G) {d : Nat} {r1 : Nat} {x2 : Int32} {K : Int32 → mj_G → Prop}
    (h : (mj_k G r1 = 5) ∧ St_placeIn_22 d x2 (mj_mn ((mj_i G r1 5) + (mj_i G r1 6)) (nI 320)) (mj_i G r1 5) G K) : St_placeIn d r1 x2 G K := by
  obtain ⟨c1, h⟩ := h
  refine mk_9008_0 c1 rfl c1 rfl rfl c1 rfl ?_
  exact h
theorem w_St_placeIn_22 {G : mj_G} (hS : cs_S G) {d : Nat} {x2 : Int32} {x3 : Int32} {x4 : Int32} {K : Int32 → mj_G → Prop}
    (h : mm_br (x3 ≤ x4) (K ((Int32.ofInt (-1))) G) (mm_ix x4 320 (fun n2 => mm_br ((mj_i G (67 + 2 * n2) 6) = x2) (K x4 G) (St_placeIn_22 d x2 x3 (x4 + nI 1) G K)))) : St_placeIn_22 d x2 x3 x4 G K := by
  refine mk_9008_22 (fun q => ?_) (fun q => ?_)
  · replace h := h.1 q
    refine mk_9008_51 ⟨_, rfl, hS, h⟩
  · replace h := h.2 q
    obtain ⟨i3, h⟩ := h
    refine mk_9008_28 (cs_k hS rfl) (cs_r (v := 13) hS rfl) (cs_kg hS rfl) (mm_v (cs_l (N := 320) hS rfl) i3) (cs_f13 hS (mm_lt i3)) ((cs_g13 hS (mm_lt i3)).trans rfl) rfl (fun q => ?_) (fun q => ?_)
    · replace h := h.2 q
      refine mk_9008_45 ?_
      exact h
    · replace h := h.1 q
      refine mk_9008_42 ⟨_, rfl, hS, h⟩
/-! 9009: placeFrom (II)I -/
theorem w_St_placeFrom {G : mj_G} (hS : cs_S G) {d : Nat} {x1 : Int32} {x2 : Int32} {K : Int32 → mj_G → Prop}
    (h : St_placeFrom_5 d x2 x1 (nI 0) G K) : St_placeFrom d x1 x2 G K := by
  refine mk_9009_0 ?_
  exact h
theorem w_St_placeFrom_5 {G : mj_G} (hS : cs_S G) {d : Nat} {x2 : Int32} {x3 : Int32} {x4 : Int32} {K : Int32 → mj_G → Prop}
    (h : mm_br ((nI 200) ≤ x4) (K ((Int32.ofInt (-1))) G) (mm_br (x3 < (nI 0)) (K ((Int32.ofInt (-1))) G) (mm_ix x3 200 (fun n1 => St_placeFrom_51 d x2 x4 (707 + 4 * n1) (mj_mn ((mj_i G (707 + 4 * n1) 5) + (mj_i G (707 + 4 * n1) 6)) (nI 320)) (mj_i G (707 + 4 * n1) 5) G K)))) : St_placeFrom_5 d x2 x3 x4 G K := by
  refine mk_9009_5 (fun q => ?_) (fun q => ?_)
  · replace h := h.1 q
    refine mk_9009_93 ⟨_, rfl, hS, h⟩
  · replace h := h.2 q
    refine mk_9009_13 (fun q => ?_) (fun q => ?_)
    · replace h := h.1 q
      refine mk_9009_93 ⟨_, rfl, hS, h⟩
    · replace h := h.2 q
      obtain ⟨i2, h⟩ := h
      refine mk_9009_17 (cs_k hS rfl) (cs_r (v := 14) hS rfl) (cs_kg hS rfl) (mm_v (cs_l (N := 200) hS rfl) i2) (cs_f14 hS (mm_lt i2)) ((cs_g14 hS (mm_lt i2)).trans rfl) rfl ((cs_g14 hS (mm_lt i2)).trans rfl) rfl rfl ((cs_g14 hS (mm_lt i2)).trans rfl) rfl ?_
      exact h
theorem w_St_placeFrom_51 {G : mj_G} (hS : cs_S G) {d : Nat} {x2 : Int32} {x4 : Int32} {r5 : Nat} {x6 : Int32} {x7 : Int32} {K : Int32 → mj_G → Prop}
    (h : mm_br (x6 ≤ x7) ((mj_k G r5 = 5) ∧ St_placeFrom_5 d x2 (mj_i G r5 4) (x4 + nI 1) G K) (mm_ix x7 320 (fun n4 => mm_br ((mj_i G (67 + 2 * n4) 6) = x2) (K x7 G) (St_placeFrom_51 d x2 x4 r5 x6 (x7 + nI 1) G K)))) : St_placeFrom_51 d x2 x4 r5 x6 x7 G K := by
  refine mk_9009_51 (fun q => ?_) (fun q => ?_)
  · replace h := h.1 q
    obtain ⟨c3, h⟩ := h
    refine mk_9009_81 c3 rfl ?_
    exact h
  · replace h := h.2 q
    obtain ⟨i5, h⟩ := h
    refine mk_9009_58 (cs_k hS rfl) (cs_r (v := 13) hS rfl) (cs_kg hS rfl) (mm_v (cs_l (N := 320) hS rfl) i5) (cs_f13 hS (mm_lt i5)) ((cs_g13 hS (mm_lt i5)).trans rfl) rfl (fun q => ?_) (fun q => ?_)
    · replace h := h.2 q
      refine mk_9009_75 ?_
      exact h
    · replace h := h.1 q
      refine mk_9009_72 ⟨_, rfl, hS, h⟩
/-! 9010: valueFrom (II)LTemplateQuarry$Value; -/
theorem w_St_valueFrom {G : mj_G} (hS : cs_S G) {d : Nat} {x1 : Int32} {x2 : Int32} {K : Nat → mj_G → Prop}
    (h : St_placeFrom d x1 x2 G (fun v2 G1 => mm_br (v2 = ((Int32.ofInt (-1)))) (mm_ix x2 26 (fun n5 => K (mj_r G1 12 n5) G1)) (mm_ix v2 320 (fun n3 => K (67 + 2 * n3) G1)))) : St_valueFrom (d + 1) x1 x2 G K := by
  refine mk_9010_0 ?_
  refine mc_9010_3 (cs_k hS rfl) h (fun v2 G1 e => ?_)
  obtain ⟨hSG1, h⟩ := e
  refine mk_9010_6 (fun q => ?_) (fun q => ?_)
  · replace h := h.2 q
    obtain ⟨i4, h⟩ := h
    refine mk_9010_21 (cs_k hSG1 rfl) (cs_r (v := 13) hSG1 rfl) (cs_kg hSG1 rfl) (mm_v (cs_l (N := 320) hSG1 rfl) i4) (cs_f13 hSG1 (mm_lt i4)) ?_
    refine mk_9010_27 ⟨_, rfl, hSG1, h⟩
  · replace h := h.1 q
    obtain ⟨i6, h⟩ := h
    refine mk_9010_12 (cs_k hSG1 rfl) (cs_r (v := 12) hSG1 rfl) (cs_kg hSG1 rfl) (mm_v (cs_l (N := 26) hSG1 rfl) i6) rfl ?_
    refine mk_9010_27 ⟨_, rfl, hSG1, h⟩
/-! 9011: read (II)LTemplateQuarry$Value; -/
theorem w_St_read {G : mj_G} (hS : cs_S G) {d : Nat} {x1 : Int32} {x2 : Int32} {K : Nat → mj_G → Prop}
    (h : St_placeFrom d x1 x2 G (fun v2 G1 => mm_br ((mj_i G1 11 4) < (nI 0)) (mm_br (v2 = ((Int32.ofInt (-1)))) (mm_ix x2 26 (fun n5 => K (mj_r G1 12 n5) G1)) (mm_ix v2 320 (fun n3 => K (67 + 2 * n3) G1))) (mm_ix (mj_i G1 11 4) 200 (fun n7 => mm_br ((mj_i G1 (707 + 4 * n7) 11) = ((Int32.ofInt (-1)))) (mm_br (v2 = ((Int32.ofInt (-1)))) (mm_ix x2 26 (fun n11 => K (mj_r G1 12 n11) G1)) (mm_ix v2 320 (fun n9 => K (67 + 2 * n9) G1))) (St_noteRead d x1 v2 x2 G1 (fun G13 => mm_br (v2 = ((Int32.ofInt (-1)))) (mm_ix x2 26 (fun n16 => K (mj_r G13 12 n16) G13)) (mm_ix v2 320 (fun n14 => K (67 + 2 * n14) G13)))))))) : St_read (d + 1) x1 x2 G K := by
  refine mk_9011_0 ?_
  refine mc_9011_3 (cs_k hS rfl) h (fun v2 G1 e => ?_)
  obtain ⟨hSG1, h⟩ := e
  refine mk_9011_6 (cs_k hSG1 rfl) rfl (fun q => ?_) (fun q => ?_)
  · replace h := h.1 q
    refine mk_9011_37 (fun q => ?_) (fun q => ?_)
    · replace h := h.2 q
      obtain ⟨i4, h⟩ := h
      refine mk_9011_51 (cs_k hSG1 rfl) (cs_r (v := 13) hSG1 rfl) (cs_kg hSG1 rfl) (mm_v (cs_l (N := 320) hSG1 rfl) i4) (cs_f13 hSG1 (mm_lt i4)) ?_
      refine mk_9011_57 ⟨_, rfl, hSG1, h⟩
    · replace h := h.1 q
      obtain ⟨i6, h⟩ := h
      refine mk_9011_42 (cs_k hSG1 rfl) (cs_r (v := 12) hSG1 rfl) (cs_kg hSG1 rfl) (mm_v (cs_l (N := 26) hSG1 rfl) i6) rfl ?_
      refine mk_9011_57 ⟨_, rfl, hSG1, h⟩
  · replace h := h.2 q
    obtain ⟨i8, h⟩ := h
    refine mk_9011_14 (cs_k hSG1 rfl) (cs_r (v := 14) hSG1 rfl) (cs_k hSG1 rfl) rfl (cs_kg hSG1 rfl) (mm_v (cs_l (N := 200) hSG1 rfl) i8) (cs_f14 hSG1 (mm_lt i8)) ((cs_g14 hSG1 (mm_lt i8)).trans rfl) rfl (fun q => ?_) (fun q => ?_)
    · replace h := h.1 q
      refine mk_9011_37 (fun q => ?_) (fun q => ?_)
      · replace h := h.2 q
        obtain ⟨i10, h⟩ := h
        refine mk_9011_51 (cs_k hSG1 rfl) (cs_r (v := 13) hSG1 rfl) (cs_kg hSG1 rfl) (mm_v (cs_l (N := 320) hSG1 rfl) i10) (cs_f13 hSG1 (mm_lt i10)) ?_
        refine mk_9011_57 ⟨_, rfl, hSG1, h⟩
      · replace h := h.1 q
        obtain ⟨i12, h⟩ := h
        refine mk_9011_42 (cs_k hSG1 rfl) (cs_r (v := 12) hSG1 rfl) (cs_kg hSG1 rfl) (mm_v (cs_l (N := 26) hSG1 rfl) i12) rfl ?_
        refine mk_9011_57 ⟨_, rfl, hSG1, h⟩
    · replace h := h.2 q
      refine mk_9011_30 ?_
      refine mc_9011_34 (cs_k hSG1 rfl) h (fun G13 e => ?_)
      obtain ⟨hSG13, h⟩ := e
      refine mk_9011_37 (fun q => ?_) (fun q => ?_)
      · replace h := h.2 q
        obtain ⟨i15, h⟩ := h
        refine mk_9011_51 (cs_k hSG13 rfl) (cs_r (v := 13) hSG13 rfl) (cs_kg hSG13 rfl) (mm_v (cs_l (N := 320) hSG13 rfl) i15) (cs_f13 hSG13 (mm_lt i15)) ?_
        refine mk_9011_57 ⟨_, rfl, hSG13, h⟩
      · replace h := h.1 q
        obtain ⟨i17, h⟩ := h
        refine mk_9011_42 (cs_k hSG13 rfl) (cs_r (v := 12) hSG13 rfl) (cs_kg hSG13 rfl) (mm_v (cs_l (N := 26) hSG13 rfl) i17) rfl ?_
        refine mk_9011_57 ⟨_, rfl, hSG13, h⟩
/-! 9012: noteRead (III)V -/
set_option maxRecDepth 100000 in
theorem w_St_noteRead {G : mj_G} (hS : cs_S G) {d : Nat} {x1 : Int32} {x2 : Int32} {x3 : Int32} {K : mj_G → Prop}
    (h : mm_ix (mj_i G 11 4) 200 (fun n1 => St_noteRead_17 d x1 x2 x3 (mj_i G (707 + 4 * n1) 11) (nI 0) G K)) : St_noteRead d x1 x2 x3 G K := by
  obtain ⟨i2, h⟩ := h
  refine mk_9012_0 (cs_k hS rfl) (cs_r (v := 14) hS rfl) (cs_k hS rfl) rfl (cs_kg hS rfl) (mm_v (cs_l (N := 200) hS rfl) i2) (cs_f14 hS (mm_lt i2)) ((cs_g14 hS (mm_lt i2)).trans rfl) rfl ?_
  exact h
set_option maxRecDepth 100000 in
theorem w_St_noteRead_17 {G : mj_G} (hS : cs_S G) {d : Nat} {x1 : Int32} {x2 : Int32} {x3 : Int32} {x4 : Int32} {x5 : Int32} {K : mj_G → Prop}
    (h : mm_br ((nI 200) ≤ x5) (K G) (mm_br (x4 ≤ (nI 0)) (K G) (mm_ix x4 200 (fun n3 => mm_br ((mj_i G (707 + 4 * n3) 5) ≤ x2) (K G) (St_noteRead_50 d x1 x2 x3 x4 x5 x1 (nI 0) G K))))) : St_noteRead_17 d x1 x2 x3 x4 x5 G K := by
  refine mk_9012_17 (fun q => ?_) (fun q => ?_)
  · replace h := h.1 q
    refine mk_9012_147 ⟨rfl, hS, h⟩
  · replace h := h.2 q
    refine mk_9012_25 (fun q => ?_) (fun q => ?_)
    · replace h := h.1 q
      refine mk_9012_147 ⟨rfl, hS, h⟩
    · replace h := h.2 q
      obtain ⟨i4, h⟩ := h
      refine mk_9012_30 (cs_k hS rfl) (cs_r (v := 14) hS rfl) (cs_kg hS rfl) (mm_v (cs_l (N := 200) hS rfl) i4) (cs_f14 hS (mm_lt i4)) ((cs_g14 hS (mm_lt i4)).trans rfl) rfl (fun q => ?_) (fun q => ?_)
      · replace h := h.1 q
        refine mk_9012_147 ⟨rfl, hS, h⟩
      · replace h := h.2 q
        refine mk_9012_44 ?_
        exact h
set_option maxRecDepth 100000 in
theorem w_St_noteRead_50 {G : mj_G} (hS : cs_S G) {d : Nat} {x1 : Int32} {x2 : Int32} {x3 : Int32} {x4 : Int32} {x5 : Int32} {x6 : Int32} {x7 : Int32} {K : mj_G → Prop}
    (h : mm_br ((nI 200) ≤ x7) (mm_br (x6 < (nI 0)) (mm_ix x4 200 (fun n5 => ∀ G7, G7 = mj_pI G (707 + 4 * n5) 20 ((mj_i G (707 + 4 * n5) 20) ||| (mm_shl (nI 1) x3)) → mm_ix (x4 - (nI 1)) 200 (fun n8 => St_noteRead_17 d x1 x2 x3 (mj_i G7 (707 + 4 * n8) 11) (x5 + nI 1) G7 K))) (mm_ix x4 200 (fun n10 => ∀ G12, G12 = mj_pI G (707 + 4 * n10) 19 ((mj_i G (707 + 4 * n10) 19) ||| (mm_shl (nI 1) x3)) → mm_ix (x4 - (nI 1)) 200 (fun n13 => St_noteRead_17 d x1 x2 x3 (mj_i G12 (707 + 4 * n13) 11) (x5 + nI 1) G12 K)))) (mm_br (x6 < x4) (mm_br (x6 < (nI 0)) (mm_ix x4 200 (fun n15 => ∀ G17, G17 = mj_pI G (707 + 4 * n15) 20 ((mj_i G (707 + 4 * n15) 20) ||| (mm_shl (nI 1) x3)) → mm_ix (x4 - (nI 1)) 200 (fun n18 => St_noteRead_17 d x1 x2 x3 (mj_i G17 (707 + 4 * n18) 11) (x5 + nI 1) G17 K))) (mm_ix x4 200 (fun n20 => ∀ G22, G22 = mj_pI G (707 + 4 * n20) 19 ((mj_i G (707 + 4 * n20) 19) ||| (mm_shl (nI 1) x3)) → mm_ix (x4 - (nI 1)) 200 (fun n23 => St_noteRead_17 d x1 x2 x3 (mj_i G22 (707 + 4 * n23) 11) (x5 + nI 1) G22 K)))) (mm_ix x6 200 (fun n25 => St_noteRead_50 d x1 x2 x3 x4 x5 (mj_i G (707 + 4 * n25) 4) (x7 + nI 1) G K)))) : St_noteRead_50 d x1 x2 x3 x4 x5 x6 x7 G K := by
  refine mk_9012_50 (fun q => ?_) (fun q => ?_)
  · replace h := h.1 q
    refine mk_9012_83 (fun q => ?_) (fun q => ?_)
    · replace h := h.1 q
      obtain ⟨i6, h⟩ := h
      replace h := h _ rfl
      refine mk_9012_109 (cs_k hS rfl) (cs_r (v := 14) hS rfl) (cs_kg hS rfl) (mm_v (cs_l (N := 200) hS rfl) i6) (cs_f14 hS (mm_lt i6)) ((cs_g14 hS (mm_lt i6)).trans rfl) rfl ((cs_g14 hS (mm_lt i6)).trans rfl) rfl ?_
      obtain ⟨i9, h⟩ := h
      refine mk_9012_127 (cs_k (cs_pI hS) rfl) (cs_r (v := 14) (cs_pI hS) rfl) (cs_kg (cs_pI hS) rfl) (mm_v (cs_l (N := 200) (cs_pI hS) rfl) i9) (cs_f14 (cs_pI hS) (mm_lt i9)) (cs_g14 (cs_pI hS) (mm_lt i9)) rfl ?_
      exact h
    · replace h := h.2 q
      obtain ⟨i11, h⟩ := h
      replace h := h _ rfl
      refine mk_9012_88 (cs_k hS rfl) (cs_r (v := 14) hS rfl) (cs_kg hS rfl) (mm_v (cs_l (N := 200) hS rfl) i11) (cs_f14 hS (mm_lt i11)) ((cs_g14 hS (mm_lt i11)).trans rfl) rfl ((cs_g14 hS (mm_lt i11)).trans rfl) rfl ?_
      obtain ⟨i14, h⟩ := h
      refine mk_9012_127 (cs_k (cs_pI hS) rfl) (cs_r (v := 14) (cs_pI hS) rfl) (cs_kg (cs_pI hS) rfl) (mm_v (cs_l (N := 200) (cs_pI hS) rfl) i14) (cs_f14 (cs_pI hS) (mm_lt i14)) (cs_g14 (cs_pI hS) (mm_lt i14)) rfl ?_
      exact h
  · replace h := h.2 q
    refine mk_9012_58 (fun q => ?_) (fun q => ?_)
    · replace h := h.1 q
      refine mk_9012_83 (fun q => ?_) (fun q => ?_)
      · replace h := h.1 q
        obtain ⟨i16, h⟩ := h
        replace h := h _ rfl
        refine mk_9012_109 (cs_k hS rfl) (cs_r (v := 14) hS rfl) (cs_kg hS rfl) (mm_v (cs_l (N := 200) hS rfl) i16) (cs_f14 hS (mm_lt i16)) ((cs_g14 hS (mm_lt i16)).trans rfl) rfl ((cs_g14 hS (mm_lt i16)).trans rfl) rfl ?_
        obtain ⟨i19, h⟩ := h
        refine mk_9012_127 (cs_k (cs_pI hS) rfl) (cs_r (v := 14) (cs_pI hS) rfl) (cs_kg (cs_pI hS) rfl) (mm_v (cs_l (N := 200) (cs_pI hS) rfl) i19) (cs_f14 (cs_pI hS) (mm_lt i19)) (cs_g14 (cs_pI hS) (mm_lt i19)) rfl ?_
        exact h
      · replace h := h.2 q
        obtain ⟨i21, h⟩ := h
        replace h := h _ rfl
        refine mk_9012_88 (cs_k hS rfl) (cs_r (v := 14) hS rfl) (cs_kg hS rfl) (mm_v (cs_l (N := 200) hS rfl) i21) (cs_f14 hS (mm_lt i21)) ((cs_g14 hS (mm_lt i21)).trans rfl) rfl ((cs_g14 hS (mm_lt i21)).trans rfl) rfl ?_
        obtain ⟨i24, h⟩ := h
        refine mk_9012_127 (cs_k (cs_pI hS) rfl) (cs_r (v := 14) (cs_pI hS) rfl) (cs_kg (cs_pI hS) rfl) (mm_v (cs_l (N := 200) (cs_pI hS) rfl) i24) (cs_f14 (cs_pI hS) (mm_lt i24)) (cs_g14 (cs_pI hS) (mm_lt i24)) rfl ?_
        exact h
    · replace h := h.2 q
      obtain ⟨i26, h⟩ := h
      refine mk_9012_65 (cs_k hS rfl) (cs_r (v := 14) hS rfl) (cs_kg hS rfl) (mm_v (cs_l (N := 200) hS rfl) i26) (cs_f14 hS (mm_lt i26)) ((cs_g14 hS (mm_lt i26)).trans rfl) rfl ?_
      exact h
/-! 9013: spoilKeeping ()V -/
theorem w_St_spoilKeeping {G : mj_G} (hS : cs_S G) {d : Nat} {K : mj_G → Prop}
    (h : mm_br ((mj_i G 11 4) < (nI 0)) (St_spoilKeeping_26 d ((Int32.ofInt (-1))) (nI 0) G K) (mm_ix (mj_i G 11 4) 200 (fun n1 => St_spoilKeeping_26 d (mj_i G (707 + 4 * n1) 11) (nI 0) G K))) : St_spoilKeeping d G K := by
  refine mk_9013_0 (cs_k hS rfl) rfl (fun q => ?_) (fun q => ?_)
  · replace h := h.1 q
    refine mk_9013_22 ?_
    refine mk_9013_23 ?_
    exact h
  · replace h := h.2 q
    obtain ⟨i2, h⟩ := h
    refine mk_9013_7 (cs_k hS rfl) (cs_r (v := 14) hS rfl) (cs_k hS rfl) rfl (cs_kg hS rfl) (mm_v (cs_l (N := 200) hS rfl) i2) (cs_f14 hS (mm_lt i2)) ((cs_g14 hS (mm_lt i2)).trans rfl) rfl ?_
    refine mk_9013_23 ?_
    exact h
theorem w_St_spoilKeeping_26 {G : mj_G} (hS : cs_S G) {d : Nat} {x1 : Int32} {x2 : Int32} {K : mj_G → Prop}
    (h : mm_br ((nI 200) ≤ x2) (K G) (mm_br (x1 ≤ (nI 0)) (K G) (mm_ix x1 200 (fun n3 => ∀ G5, G5 = mj_pI G (707 + 4 * n3) 21 (nI 0) → mm_ix (x1 - (nI 1)) 200 (fun n6 => St_spoilKeeping_26 d (mj_i G5 (707 + 4 * n6) 11) (x2 + nI 1) G5 K))))) : St_spoilKeeping_26 d x1 x2 G K := by
  refine mk_9013_26 (fun q => ?_) (fun q => ?_)
  · replace h := h.1 q
    refine mk_9013_65 ⟨rfl, hS, h⟩
  · replace h := h.2 q
    refine mk_9013_33 (fun q => ?_) (fun q => ?_)
    · replace h := h.1 q
      refine mk_9013_65 ⟨rfl, hS, h⟩
    · replace h := h.2 q
      obtain ⟨i4, h⟩ := h
      replace h := h _ rfl
      obtain ⟨i7, h⟩ := h
      refine mk_9013_37 (cs_k hS rfl) (cs_r (v := 14) hS rfl) (cs_kg hS rfl) (mm_v (cs_l (N := 200) hS rfl) i4) (cs_f14 hS (mm_lt i4)) ((cs_g14 hS (mm_lt i4)).trans rfl) (bI_b false) rfl (cs_k (cs_pI hS) rfl) (cs_r (v := 14) (cs_pI hS) rfl) (cs_kg (cs_pI hS) rfl) (mm_v (cs_l (N := 200) (cs_pI hS) rfl) i7) (cs_f14 (cs_pI hS) (mm_lt i7)) (cs_g14 (cs_pI hS) (mm_lt i7)) rfl ?_
      exact h
/-! 11000: <init> ()V -/
theorem w_Va_init {G : mj_G} (hS : cs_S G) {d : Nat} {r0 : Nat} {K : mj_G → Prop}
    (h : (mj_k G r0 ≠ 0) ∧ (mj_k G r0 = 12) ∧ ∀ G3, G3 = mj_pI G r0 0 (nI 1) → ∀ G4, G4 = mj_pR G3 r0 3 2 → ∀ G5, G5 = mj_al G4 41 0 (fun _ => 0) → (mj_k G5 r0 = 12) ∧ ∀ G7, G7 = mj_pR G5 r0 5 (mj_n G4) → ∀ G8, G8 = mj_pI G7 r0 6 ((Int32.ofInt (-1))) → ∀ G9, G9 = mj_pR G8 r0 7 2 → K G9) : Va_init d r0 G K := by
  obtain ⟨c1, h⟩ := h
  obtain ⟨c2, h⟩ := h
  replace h := h _ rfl
  replace h := h _ rfl
  replace h := h _ rfl
  obtain ⟨c6, h⟩ := h
  replace h := h _ rfl
  replace h := h _ rfl
  replace h := h _ rfl
  refine mk_11000_0 c1 c2 rfl c2 rfl (by decide) (by decide) rfl rfl c6 rfl c6 rfl c6 rfl ⟨rfl, (cs_pR (cs_pI (cs_pR (cs_al (cs_pR (cs_pI hS) c2 rfl)) c6 rfl)) c6 rfl), h⟩
/-! 11001: setNothing ()V -/
theorem w_Va_setNothing {G : mj_G} (hS : cs_S G) {d : Nat} {r0 : Nat} {K : mj_G → Prop}
    (h : (mj_k G r0 = 12) ∧ ∀ G2, G2 = mj_pI G r0 0 (nI 1) → K G2) : Va_setNothing d r0 G K := by
  obtain ⟨c1, h⟩ := h
  replace h := h _ rfl
  refine mk_11001_0 c1 rfl ⟨rfl, (cs_pI hS), h⟩
/-! 11002: setNumber (I)V -/
theorem w_Va_setNumber {G : mj_G} (hS : cs_S G) {d : Nat} {r0 : Nat} {x1 : Int32} {K : mj_G → Prop}
    (h : (mj_k G r0 = 12) ∧ ∀ G2, G2 = mj_pI G r0 0 (nI 2) → ∀ G3, G3 = mj_pI G2 r0 1 x1 → K G3) : Va_setNumber d r0 x1 G K := by
  obtain ⟨c1, h⟩ := h
  replace h := h _ rfl
  replace h := h _ rfl
  refine mk_11002_0 c1 rfl c1 rfl ⟨rfl, (cs_pI (cs_pI hS)), h⟩
/-! 11003: setText ([CIZ)V -/
theorem w_Va_setText {G : mj_G} (hS : cs_S G) {d : Nat} {r0 : Nat} {r1 : Nat} {x2 : Int32} {x3 : Int32} {K : mj_G → Prop}
    (h : (mj_k G r0 = 12) ∧ ∀ G2, G2 = mj_pI G r0 0 (nI 4) → ∀ G3, G3 = mj_pR G2 r0 3 r1 → (20 ≤ mj_k G3 r1) ∧ ∀ G5, G5 = mj_pI G3 r0 4 (mj_mx (nI 0) (mj_mn x2 (nI (mj_l G3 r1)))) → (mj_b x3) ∧ ∀ G7, G7 = mj_pI G5 r0 2 x3 → K G7) : Va_setText d r0 r1 x2 x3 G K := by
  obtain ⟨c1, h⟩ := h
  replace h := h _ rfl
  replace h := h _ rfl
  obtain ⟨c4, h⟩ := h
  replace h := h _ rfl
  obtain ⟨c6, h⟩ := h
  replace h := h _ rfl
  refine mk_11003_0 c1 rfl c1 rfl c4 rfl c1 rfl c1 c6 rfl ⟨rfl, (cs_pI (cs_pI (cs_pR (cs_pI hS) c1 rfl))), h⟩
/-! 11004: setItems ([LTemplateQuarry$Value;)V -/
theorem w_Va_setItems {G : mj_G} (hS : cs_S G) {d : Nat} {r0 : Nat} {r1 : Nat} {K : mj_G → Prop}
    (h : (mj_k G r0 = 12) ∧ ∀ G2, G2 = mj_pI G r0 0 (nI 8) → ∀ G3, G3 = mj_pR G2 r0 5 r1 → K G3) : Va_setItems d r0 r1 G K := by
  obtain ⟨c1, h⟩ := h
  replace h := h _ rfl
  replace h := h _ rfl
  refine mk_11004_0 c1 rfl c1 rfl ⟨rfl, (cs_pR (cs_pI hS) c1 rfl), h⟩
/-! 11005: refer (LTemplateQuarry$Value;)V -/
theorem w_Va_refer {G : mj_G} (hS : cs_S G) {d : Nat} {r0 : Nat} {r1 : Nat} {K : mj_G → Prop}
    (h : (mj_k G r1 = 12) ∧ (mj_k G r0 = 12) ∧ ∀ G3, G3 = mj_pI G r0 0 (mj_i G r1 0) → ∀ G4, G4 = mj_pI G3 r0 1 (mj_i G3 r1 1) → (mj_b (mj_i G4 r1 2)) ∧ ∀ G6, G6 = mj_pI G4 r0 2 (mj_i G4 r1 2) → ∀ G7, G7 = mj_pR G6 r0 3 (mj_r G6 r1 3) → ∀ G8, G8 = mj_pI G7 r0 4 (mj_i G7 r1 4) → ∀ G9, G9 = mj_pR G8 r0 5 (mj_r G8 r1 5) → K G9) : Va_refer d r0 r1 G K := by
  obtain ⟨c1, h⟩ := h
  obtain ⟨c2, h⟩ := h
  replace h := h _ rfl
  replace h := h _ rfl
  obtain ⟨c5, h⟩ := h
  replace h := h _ rfl
  replace h := h _ rfl
  replace h := h _ rfl
  replace h := h _ rfl
  refine mk_11005_0 c1 rfl c2 rfl c1 rfl c2 rfl c1 rfl c2 c5 rfl c1 rfl c2 rfl c1 rfl c2 rfl c1 rfl c2 rfl ⟨rfl, (cs_pR (cs_pI (cs_pR (cs_pI (cs_pI (cs_pI hS))) c2 rfl)) c2 rfl), h⟩
/-! 11006: keep (LTemplateQuarry$Value;)V -/
theorem w_Va_keep {G : mj_G} (hS : cs_S G) {d : Nat} {r0 : Nat} {r1 : Nat} {K : mj_G → Prop}
    (h : (mj_k G r0 = 12) ∧ Va_refer d r0 r1 G (fun G2 => (mj_k G2 r0 = 12) ∧ mm_br ((mj_i G2 r0 0) = (nI 4)) (Va_ownRow d r0 G2 (fun v5 G4 => (mj_k G4 r0 = 12) ∧ (20 ≤ mj_k G4 v5) ∧ mm_cpy G4 (mj_r G4 r0 3) (nI 0) v5 (nI 0) (mj_mn (mj_i G4 r0 4) (nI (mj_l G4 v5))) (fun n8 n9 n10 => ∀ G20, G20 = mj_cp G4 (mj_r G4 r0 3) n8 v5 n9 n10 → Va_setText d r0 v5 (mj_mn (mj_i G4 r0 4) (nI (mj_l G4 v5))) (mj_i G20 r0 2) G20 (fun G21 => K G21)))) (K G2))) : Va_keep (d + 1) r0 r1 G K := by
  refine mk_11006_0 ?_
  obtain ⟨c1, h⟩ := h
  refine mc_11006_2 c1 h (fun G2 e => ?_)
  obtain ⟨hSG2, h⟩ := e
  obtain ⟨c3, h⟩ := h
  refine mk_11006_5 c3 rfl (fun q => ?_) (fun q => ?_)
  · replace h := h.2 q
    refine mk_11006_49 ⟨rfl, hSG2, h⟩
  · replace h := h.1 q
    refine mk_11006_13 ?_
    refine mc_11006_14 c3 h (fun v5 G4 e => ?_)
    obtain ⟨hSG4, h⟩ := e
    obtain ⟨c6, h⟩ := h
    obtain ⟨c7, h⟩ := h
    obtain ⟨c11, c12, c13, c14, c15, c16, c17, c18, c19, h⟩ := h
    replace h := h _ rfl
    refine mk_11006_17 c6 rfl c7 rfl c6 rfl c11 c12 c13 c14 c15 c16 c17 c18 c19 rfl c6 rfl ?_
    refine mc_11006_46 c6 h (fun G21 e => ?_)
    obtain ⟨hSG21, h⟩ := e
    refine mk_11006_49 ⟨rfl, hSG21, h⟩
/-! 11007: ownRow ()[C -/
theorem w_Va_ownRow {G : mj_G} (hS : cs_S G) {d : Nat} {r0 : Nat} {K : Nat → mj_G → Prop}
    (h : (mj_k G r0 = 12) ∧ (20 ≤ mj_k G (mj_r G r0 7)) ∧ mm_br ((nI (mj_l G (mj_r G r0 7))) = (nI 0)) (∀ G3, G3 = mj_al G 22 300 (fun _ => 0) → (mj_k G3 r0 = 12) ∧ ∀ G5, G5 = mj_pR G3 r0 7 (mj_n G) → K (mj_r G5 r0 7) G5) (K (mj_r G r0 7) G)) : Va_ownRow d r0 G K := by
  obtain ⟨c1, h⟩ := h
  obtain ⟨c2, h⟩ := h
  refine mk_11007_0 c1 rfl c2 rfl (fun q => ?_) (fun q => ?_)
  · replace h := h.2 q
    refine mk_11007_17 c1 rfl ⟨_, rfl, hS, h⟩
  · replace h := h.1 q
    replace h := h _ rfl
    obtain ⟨c4, h⟩ := h
    replace h := h _ rfl
    refine mk_11007_8 (by decide) (by decide) rfl rfl c4 rfl ?_
    refine mk_11007_17 c4 rfl ⟨_, rfl, (cs_pR (cs_al hS) c4 rfl), h⟩
/-! 11008: isTrue ()Z -/
theorem w_Va_isTrue {G : mj_G} (hS : cs_S G) {d : Nat} {r0 : Nat} {K : Bool → mj_G → Prop}
    (h : (mj_k G r0 = 12) ∧ mm_br ((mj_i G r0 0) = nI 2) (mm_br ((mj_i G r0 1) = (nI 0)) (K false G) (K true G)) (mm_br ((mj_i G r0 0) = nI 4) (mm_br ((mj_i G r0 4) = (nI 0)) (K false G) (K true G)) (mm_br ((mj_i G r0 0) = nI 8) ((20 ≤ mj_k G (mj_r G r0 5)) ∧ mm_br ((nI (mj_l G (mj_r G r0 5))) = (nI 0)) (K false G) (K true G)) (K false G)))) : Va_isTrue d r0 G K := by
  obtain ⟨c1, h⟩ := h
  refine mk_11008_0 c1 rfl (fun q => ?_) (fun q => ?_) (fun q => ?_) (fun n1 n2 n3 => ?_)
  · replace h := h.1 q
    refine mk_11008_40 c1 rfl (fun q => ?_) (fun q => ?_)
    · replace h := h.1 q
      refine mk_11008_51 ?_
      refine mk_11008_52 (bI_b false) ⟨false, rfl, hS, h⟩
    · replace h := h.2 q
      refine mk_11008_47 ?_
      refine mk_11008_52 (bI_b true) ⟨true, rfl, hS, h⟩
  · replace h := (h.2 (fun e => absurd (e.symm.trans q) (by decide))).1 q
    refine mk_11008_53 c1 rfl (fun q => ?_) (fun q => ?_)
    · replace h := h.1 q
      refine mk_11008_64 ?_
      refine mk_11008_65 (bI_b false) ⟨false, rfl, hS, h⟩
    · replace h := h.2 q
      refine mk_11008_60 ?_
      refine mk_11008_65 (bI_b true) ⟨true, rfl, hS, h⟩
  · replace h := ((h.2 (fun e => absurd (e.symm.trans q) (by decide))).2 (fun e => absurd (e.symm.trans q) (by decide))).1 q
    obtain ⟨c2, h⟩ := h
    refine mk_11008_66 c1 rfl c2 rfl (fun q => ?_) (fun q => ?_)
    · replace h := h.1 q
      refine mk_11008_78 ?_
      refine mk_11008_79 (bI_b false) ⟨false, rfl, hS, h⟩
    · replace h := h.2 q
      refine mk_11008_74 ?_
      refine mk_11008_79 (bI_b true) ⟨true, rfl, hS, h⟩
  · replace h := (((h.2 n1).2 n2).2 n3)
    refine mk_11008_80 (bI_b false) ⟨false, rfl, hS, h⟩
/-! 11009: isLike (LTemplateQuarry$Value;)Z -/
theorem w_Va_isLike {G : mj_G} (hS : cs_S G) {d : Nat} {r0 : Nat} {r1 : Nat} {K : Bool → mj_G → Prop}
    (h : (mj_k G r0 = 12) ∧ mm_br ((mj_i G r0 0) = (nI 8)) ((mj_k G r1 = 12) ∧ mm_br ((mj_i G r1 0) = (nI 8)) ((20 ≤ mj_k G (mj_r G r0 5)) ∧ (20 ≤ mj_k G (mj_r G r1 5)) ∧ mm_br ((nI (mj_l G (mj_r G r0 5))) = (nI (mj_l G (mj_r G r1 5)))) (Va_isLike_41 (d + 1) r0 r1 (nI 0) G K) (K false G)) (Va_isPlainlyLike d r0 r1 G (fun v8 G7 => K v8 G7))) (Va_isPlainlyLike d r0 r1 G (fun v3 G2 => K v3 G2))) : Va_isLike (d + 1) r0 r1 G K := by
  obtain ⟨c1, h⟩ := h
  refine mk_11009_0 c1 rfl (fun q => ?_) (fun q => ?_)
  · replace h := h.2 q
    refine mk_11009_18 ?_
    refine mc_11009_20 c1 (cc_z h) (fun v0 G2 e => ?_)
    obtain ⟨v3, rfl, hSG2, h⟩ := e
    refine mk_11009_23 (bI_b v3) ⟨v3, rfl, hSG2, h⟩
  · replace h := h.1 q
    obtain ⟨c4, h⟩ := h
    refine mk_11009_9 c4 rfl (fun q => ?_) (fun q => ?_)
    · replace h := h.1 q
      obtain ⟨c5, h⟩ := h
      obtain ⟨c6, h⟩ := h
      refine mk_11009_24 c1 rfl c5 rfl c4 rfl c6 rfl (fun q => ?_) (fun q => ?_)
      · replace h := h.1 q
        refine mk_11009_39 ?_
        exact h
      · replace h := h.2 q
        refine mk_11009_37 (bI_b false) ⟨false, rfl, hS, h⟩
    · replace h := h.2 q
      refine mk_11009_18 ?_
      refine mc_11009_20 c1 (cc_z h) (fun v0 G7 e => ?_)
      obtain ⟨v8, rfl, hSG7, h⟩ := e
      refine mk_11009_23 (bI_b v8) ⟨v8, rfl, hSG7, h⟩
theorem w_Va_isLike_41 {G : mj_G} (hS : cs_S G) {d : Nat} {r0 : Nat} {r1 : Nat} {x2 : Int32} {K : Bool → mj_G → Prop}
    (h : (mj_k G r0 = 12) ∧ (20 ≤ mj_k G (mj_r G r0 5)) ∧ mm_br ((nI (mj_l G (mj_r G r0 5))) ≤ x2) (K true G) ((30 ≤ mj_k G (mj_r G r0 5)) ∧ mm_ix x2 (mj_l G (mj_r G r0 5)) (fun n12 => (mj_k G r1 = 12) ∧ (30 ≤ mj_k G (mj_r G r1 5)) ∧ mm_ix x2 (mj_l G (mj_r G r1 5)) (fun n16 => (mj_k G (mj_r G (mj_r G r0 5) n12) = 12) ∧ Va_isPlainlyLike d (mj_r G (mj_r G r0 5) n12) (mj_r G (mj_r G r1 5) n16) G (fun v20 G19 => mm_br (v20 = true) (Va_isLike_41 (d + 1) r0 r1 (x2 + nI 1) G19 K) (K false G19)))))) : Va_isLike_41 (d + 1) r0 r1 x2 G K := by
  obtain ⟨c9, h⟩ := h
  obtain ⟨c10, h⟩ := h
  refine mk_11009_41 c9 rfl c10 rfl (fun q => ?_) (fun q => ?_)
  · replace h := h.1 q
    refine mk_11009_76 (bI_b true) ⟨true, rfl, hS, h⟩
  · replace h := h.2 q
    obtain ⟨c11, h⟩ := h
    obtain ⟨i13, h⟩ := h
    obtain ⟨c14, h⟩ := h
    obtain ⟨c15, h⟩ := h
    obtain ⟨i17, h⟩ := h
    refine mk_11009_50 c9 rfl c11 i13 rfl c14 rfl c15 i17 rfl ?_
    obtain ⟨c18, h⟩ := h
    refine mc_11009_62 c18 (cc_z h) (fun v0 G19 e => ?_)
    obtain ⟨v20, rfl, hSG19, h⟩ := e
    refine mk_11009_65 (fun q => ?_) (fun q => ?_)
    · replace h := h.1 (bI_n q)
      refine mk_11009_70 ?_
      exact h
    · replace h := h.2 (bI_z q)
      refine mk_11009_68 (bI_b false) ⟨false, rfl, hSG19, h⟩
/-! 11010: isPlainlyLike (LTemplateQuarry$Value;)Z -/
theorem w_Va_isPlainlyLike {G : mj_G} (hS : cs_S G) {d : Nat} {r0 : Nat} {r1 : Nat} {K : Bool → mj_G → Prop}
    (h : (mj_k G r0 = 12) ∧ (mj_k G r1 = 12) ∧ mm_br ((mj_i G r0 0) = (mj_i G r1 0)) (mm_br ((mj_i G r0 0) = (nI 4)) (mm_br ((mj_i G r0 4) = (mj_i G r1 4)) (Va_isPlainlyLike_65 d r0 r1 (nI 1) (nI 0) G K) (Va_isPlainlyLike_65 d r0 r1 (nI 0) (nI 0) G K)) (mm_br ((mj_i G r0 0) = (nI 1)) (K true G) (mm_br ((mj_i G r0 1) = (mj_i G r1 1)) (K true G) (K false G)))) (K false G)) : Va_isPlainlyLike d r0 r1 G K := by
  obtain ⟨c1, h⟩ := h
  obtain ⟨c2, h⟩ := h
  refine mk_11010_0 c1 rfl c2 rfl (fun q => ?_) (fun q => ?_)
  · replace h := h.1 q
    refine mk_11010_13 c1 rfl (fun q => ?_) (fun q => ?_)
    · replace h := h.1 q
      refine mk_11010_46 c1 rfl c2 rfl (fun q => ?_) (fun q => ?_)
      · replace h := h.2 q
        refine mk_11010_61 ?_
        refine mk_11010_62 ?_
        exact h
      · replace h := h.1 q
        refine mk_11010_57 ?_
        refine mk_11010_62 ?_
        exact h
    · replace h := h.2 q
      refine mk_11010_21 c1 rfl (fun q => ?_) (fun q => ?_)
      · replace h := h.1 q
        refine mk_11010_40 ?_
        refine mk_11010_45 (bI_b true) ⟨true, rfl, hS, h⟩
      · replace h := h.2 q
        refine mk_11010_29 c1 rfl c2 rfl (fun q => ?_) (fun q => ?_)
        · replace h := h.2 q
          refine mk_11010_44 ?_
          refine mk_11010_45 (bI_b false) ⟨false, rfl, hS, h⟩
        · replace h := h.1 q
          refine mk_11010_40 ?_
          refine mk_11010_45 (bI_b true) ⟨true, rfl, hS, h⟩
  · replace h := h.2 q
    refine mk_11010_11 (bI_b false) ⟨false, rfl, hS, h⟩
theorem w_Va_isPlainlyLike_65 {G : mj_G} (hS : cs_S G) {d : Nat} {r0 : Nat} {r1 : Nat} {x2 : Int32} {x3 : Int32} {K : Bool → mj_G → Prop}
    (h : mm_br (x2 = (nI 0)) (bI_ex x2 (fun b => K b G)) ((mj_k G r0 = 12) ∧ mm_br ((mj_i G r0 4) ≤ x3) (bI_ex x2 (fun b => K b G)) ((mj_k G (mj_r G r0 3) = 22) ∧ mm_ix x3 (mj_l G (mj_r G r0 3)) (fun n5 => (mj_k G r1 = 12) ∧ (mj_k G (mj_r G r1 3) = 22) ∧ mm_ix x3 (mj_l G (mj_r G r1 3)) (fun n9 => mm_br ((mj_i G (mj_r G r0 3) n5) = (mj_i G (mj_r G r1 3) n9)) (Va_isPlainlyLike_65 d r0 r1 (nI 1) (x3 + nI 1) G K) (Va_isPlainlyLike_65 d r0 r1 (nI 0) (x3 + nI 1) G K)))))) : Va_isPlainlyLike_65 d r0 r1 x2 x3 G K := by
  refine mk_11010_65 (fun q => ?_) (fun q => ?_)
  · replace h := h.1 q
    refine mk_11010_104 (bI_o h) (bI_q h (fun b e q => ⟨b, congrArg (fun z => Sum.inl (some (Sum.inl z))) e, hS, q⟩))
  · replace h := h.2 q
    obtain ⟨c3, h⟩ := h
    refine mk_11010_69 c3 rfl (fun q => ?_) (fun q => ?_)
    · replace h := h.1 q
      refine mk_11010_104 (bI_o h) (bI_q h (fun b e q => ⟨b, congrArg (fun z => Sum.inl (some (Sum.inl z))) e, hS, q⟩))
    · replace h := h.2 q
      obtain ⟨c4, h⟩ := h
      obtain ⟨i6, h⟩ := h
      obtain ⟨c7, h⟩ := h
      obtain ⟨c8, h⟩ := h
      obtain ⟨i10, h⟩ := h
      refine mk_11010_77 c3 rfl c4 i6 rfl c7 rfl c8 i10 rfl (fun q => ?_) (fun q => ?_)
      · replace h := h.2 q
        refine mk_11010_96 ?_
        refine mk_11010_97 ?_
        exact h
      · replace h := h.1 q
        refine mk_11010_92 ?_
        refine mk_11010_97 ?_
        exact h
/-! 11011: isSafeLike (LTemplateQuarry$Value;)Z -/
theorem w_Va_isSafeLike {G : mj_G} (hS : cs_S G) {d : Nat} {r0 : Nat} {r1 : Nat} {K : Bool → mj_G → Prop}
    (h : (mj_k G r0 = 12) ∧ mm_br ((mj_i G r0 0) = (nI 4)) ((mj_k G r1 = 12) ∧ mm_br ((mj_i G r0 2) = (mj_i G r1 2)) (K true G) (K false G)) (K true G)) : Va_isSafeLike d r0 r1 G K := by
  obtain ⟨c1, h⟩ := h
  refine mk_11011_0 c1 rfl (fun q => ?_) (fun q => ?_)
  · replace h := h.2 q
    refine mk_11011_19 ?_
    refine mk_11011_24 (bI_b true) ⟨true, rfl, hS, h⟩
  · replace h := h.1 q
    obtain ⟨c2, h⟩ := h
    refine mk_11011_8 c1 rfl c2 rfl (fun q => ?_) (fun q => ?_)
    · replace h := h.2 q
      refine mk_11011_23 ?_
      refine mk_11011_24 (bI_b false) ⟨false, rfl, hS, h⟩
    · replace h := h.1 q
      refine mk_11011_19 ?_
      refine mk_11011_24 (bI_b true) ⟨true, rfl, hS, h⟩
/-! 11012: isTextBefore (LTemplateQuarry$Value;)Z -/
theorem w_Va_isTextBefore {G : mj_G} (hS : cs_S G) {d : Nat} {r0 : Nat} {r1 : Nat} {K : Bool → mj_G → Prop}
    (h : (mj_k G r0 = 12) ∧ Va_firstDifference d r0 r1 G (fun v3 G2 => (mj_k G2 r1 = 12) ∧ mm_br (v3 < (mj_i G2 r1 4)) ((mj_k G2 r0 = 12) ∧ mm_br ((mj_i G2 r0 4) ≤ v3) (K true G2) ((mj_k G2 (mj_r G2 r0 3) = 22) ∧ mm_ix v3 (mj_l G2 (mj_r G2 r0 3)) (fun n7 => (mj_k G2 (mj_r G2 r1 3) = 22) ∧ mm_ix v3 (mj_l G2 (mj_r G2 r1 3)) (fun n10 => mm_br ((mj_i G2 (mj_r G2 r1 3) n10) ≤ (mj_i G2 (mj_r G2 r0 3) n7)) (K false G2) (K true G2))))) (K false G2))) : Va_isTextBefore (d + 1) r0 r1 G K := by
  refine mk_11012_0 ?_
  obtain ⟨c1, h⟩ := h
  refine mc_11012_2 c1 h (fun v3 G2 e => ?_)
  obtain ⟨hSG2, h⟩ := e
  obtain ⟨c4, h⟩ := h
  refine mk_11012_5 c4 rfl (fun q => ?_) (fun q => ?_)
  · replace h := h.1 q
    obtain ⟨c5, h⟩ := h
    refine mk_11012_16 c5 rfl (fun q => ?_) (fun q => ?_)
    · replace h := h.1 q
      refine mk_11012_39 ?_
      refine mk_11012_44 (bI_b true) ⟨true, rfl, hSG2, h⟩
    · replace h := h.2 q
      obtain ⟨c6, h⟩ := h
      obtain ⟨i8, h⟩ := h
      obtain ⟨c9, h⟩ := h
      obtain ⟨i11, h⟩ := h
      refine mk_11012_24 c5 rfl c6 i8 rfl c4 rfl c9 i11 rfl (fun q => ?_) (fun q => ?_)
      · replace h := h.1 q
        refine mk_11012_43 ?_
        refine mk_11012_44 (bI_b false) ⟨false, rfl, hSG2, h⟩
      · replace h := h.2 q
        refine mk_11012_39 ?_
        refine mk_11012_44 (bI_b true) ⟨true, rfl, hSG2, h⟩
  · replace h := h.2 q
    refine mk_11012_14 (bI_b false) ⟨false, rfl, hSG2, h⟩
/-! 11013: firstDifference (LTemplateQuarry$Value;)I -/
theorem w_Va_firstDifference {G : mj_G} (hS : cs_S G) {d : Nat} {r0 : Nat} {r1 : Nat} {K : Int32 → mj_G → Prop}
    (h : (mj_k G r0 = 12) ∧ (mj_k G r1 = 12) ∧ Va_firstDifference_14 d r0 r1 (mj_mn (mj_i G r0 4) (mj_i G r1 4)) (nI 0) G K) : Va_firstDifference d r0 r1 G K := by
  obtain ⟨c1, h⟩ := h
  obtain ⟨c2, h⟩ := h
  refine mk_11013_0 c1 rfl c2 rfl ?_
  exact h
theorem w_Va_firstDifference_14 {G : mj_G} (hS : cs_S G) {d : Nat} {r0 : Nat} {r1 : Nat} {x2 : Int32} {x3 : Int32} {K : Int32 → mj_G → Prop}
    (h : mm_br (x2 ≤ x3) (K x2 G) ((mj_k G r0 = 12) ∧ (mj_k G (mj_r G r0 3) = 22) ∧ mm_ix x3 (mj_l G (mj_r G r0 3)) (fun n5 => (mj_k G r1 = 12) ∧ (mj_k G (mj_r G r1 3) = 22) ∧ mm_ix x3 (mj_l G (mj_r G r1 3)) (fun n9 => mm_br ((mj_i G (mj_r G r0 3) n5) = (mj_i G (mj_r G r1 3) n9)) (Va_firstDifference_14 d r0 r1 x2 (x3 + nI 1) G K) (K x3 G))))) : Va_firstDifference_14 d r0 r1 x2 x3 G K := by
  refine mk_11013_14 (fun q => ?_) (fun q => ?_)
  · replace h := h.1 q
    refine mk_11013_42 ⟨_, rfl, hS, h⟩
  · replace h := h.2 q
    obtain ⟨c3, h⟩ := h
    obtain ⟨c4, h⟩ := h
    obtain ⟨i6, h⟩ := h
    obtain ⟨c7, h⟩ := h
    obtain ⟨c8, h⟩ := h
    obtain ⟨i10, h⟩ := h
    refine mk_11013_19 c3 rfl c4 i6 rfl c7 rfl c8 i10 rfl (fun q => ?_) (fun q => ?_)
    · replace h := h.1 q
      refine mk_11013_36 ?_
      exact h
    · replace h := h.2 q
      refine mk_11013_34 ⟨_, rfl, hS, h⟩
