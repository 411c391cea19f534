/-! LAWS OF THE CLASS, 1 -/
/-! 0: <init> (I)V -/
theorem w_Ex_init {G : mj_G} (hS : cs_S G) {d : Nat} {r0 : Nat} {x1 : Int32} {K : mj_G → Prop}
    (h : (mj_k G r0 ≠ 0) ∧ (mj_k G r0 = 1) ∧ ∀ G3, G3 = mj_pR G r0 3 2 → ∀ G4, G4 = mj_pI G3 r0 0 x1 → K G4) : Ex_init d r0 x1 G K := by
  obtain ⟨c1, h⟩ := h
  obtain ⟨c2, h⟩ := h
  replace h := h _ rfl
  replace h := h _ rfl
  refine mk_0_0 c1 c2 rfl c2 rfl ⟨rfl, (cs_pI (cs_pR hS c2 rfl)), h⟩
/-! 4001: rowOfBlanks ()[I -/
theorem w_Fm_rowOfBlanks {G : mj_G} (hS : cs_S G) {d : Nat} {r0 : Nat} {K : Nat → mj_G → Prop}
    (h : (mj_k G r0 = 5) ∧ mm_br ((mj_r G r0 18) = 0) (∀ G2, G2 = mj_al G 20 300 (fun _ => 0) → (mj_k G2 r0 = 5) ∧ ∀ G4, G4 = mj_pR G2 r0 18 (mj_n G) → K (mj_r G4 r0 18) G4) (K (mj_r G r0 18) G)) : Fm_rowOfBlanks d r0 G K := by
  obtain ⟨c1, h⟩ := h
  refine mk_4001_0 c1 rfl (fun q => ?_) (fun q => ?_)
  · replace h := h.2 q
    refine mk_4001_16 c1 rfl ⟨_, rfl, hS, h⟩
  · replace h := h.1 q
    replace h := h _ rfl
    obtain ⟨c3, h⟩ := h
    replace h := h _ rfl
    refine mk_4001_7 (by decide) (by decide) rfl rfl c3 rfl ?_
    refine mk_4001_16 c3 rfl ⟨_, rfl, (cs_pR (cs_al hS) c3 rfl), h⟩
/-! 5000: <init> (III)V -/
theorem w_Nd_init {G : mj_G} (hS : cs_S G) {d : Nat} {r0 : Nat} {x1 : Int32} {x2 : Int32} {x3 : Int32} {K : mj_G → Prop}
    (h : (mj_k G r0 ≠ 0) ∧ (mj_k G r0 = 6) ∧ ∀ G3, G3 = mj_pI G r0 3 ((Int32.ofInt (-1))) → ∀ G4, G4 = mj_pI G3 r0 4 ((Int32.ofInt (-1))) → ∀ G5, G5 = mj_pI G4 r0 0 x1 → ∀ G6, G6 = mj_pI G5 r0 1 x2 → ∀ G7, G7 = mj_pI G6 r0 2 x3 → K G7) : Nd_init d r0 x1 x2 x3 G K := by
  obtain ⟨c1, h⟩ := h
  obtain ⟨c2, h⟩ := h
  replace h := h _ rfl
  replace h := h _ rfl
  replace h := h _ rfl
  replace h := h _ rfl
  replace h := h _ rfl
  refine mk_5000_0 c1 c2 rfl c2 rfl c2 rfl c2 rfl c2 rfl ⟨rfl, (cs_pI (cs_pI (cs_pI (cs_pI (cs_pI hS))))), h⟩
/-! 5001: origin ()I -/
theorem w_Nd_origin {G : mj_G} (hS : cs_S G) {d : Nat} {r0 : Nat} {K : Int32 → mj_G → Prop}
    (h : (mj_k G r0 = 6) ∧ K (((nI 100) * (mj_i G r0 1)) + (mj_i G r0 2)) G) : Nd_origin d r0 G K := by
  obtain ⟨c1, h⟩ := h
  refine mk_5001_0 c1 rfl c1 rfl ⟨_, rfl, hS, h⟩
/-! 7000: <init> ([CII)V -/
theorem w_Rd_init {G : mj_G} (hS : cs_S G) {d : Nat} {r0 : Nat} {r1 : Nat} {x2 : Int32} {x3 : Int32} {K : mj_G → Prop}
    (h : (mj_k G r0 ≠ 0) ∧ ∀ G2, G2 = mj_al G 11 6 (fun _ => 0) → Te_init d (mj_n G) G2 (fun G3 => (mj_k G3 r0 = 8) ∧ ∀ G5, G5 = mj_pR G3 r0 3 (mj_n G) → ∀ G6, G6 = mj_pI G5 r0 5 ((Int32.ofInt (-1))) → ∀ G7, G7 = mj_pR G6 r0 0 r1 → ∀ G8, G8 = mj_pI G7 r0 1 x2 → ∀ G9, G9 = mj_pI G8 r0 2 x3 → K G9)) : Rd_init (d + 1) r0 r1 x2 x3 G K := by
  obtain ⟨c1, h⟩ := h
  replace h := h _ rfl
  refine mk_7000_0 c1 rfl rfl ?_
  refine mc_7000_9 mj_k_al h (fun G3 e => ?_)
  obtain ⟨hSG3, h⟩ := e
  obtain ⟨c4, h⟩ := h
  replace h := h _ rfl
  replace h := h _ rfl
  replace h := h _ rfl
  replace h := h _ rfl
  replace h := h _ rfl
  refine mk_7000_12 c4 rfl c4 rfl c4 rfl c4 rfl c4 rfl ⟨rfl, (cs_pI (cs_pI (cs_pR (cs_pI (cs_pR hSG3 c4 rfl)) c4 rfl))), h⟩
/-! 7001: sign (I)C -/
theorem w_Rd_sign {G : mj_G} (hS : cs_S G) {d : Nat} {r0 : Nat} {x1 : Int32} {K : Int32 → mj_G → Prop}
    (h : mm_br (x1 < (nI 0)) (K (nI 0) G) ((mj_k G r0 = 8) ∧ mm_br ((mj_i G r0 1) ≤ x1) (K (nI 0) G) ((20 ≤ mj_k G (mj_r G r0 0)) ∧ mm_br ((nI (mj_l G (mj_r G r0 0))) ≤ x1) (K (nI 0) G) ((mj_k G (mj_r G r0 0) = 22) ∧ mm_ix x1 (mj_l G (mj_r G r0 0)) (fun n4 => (mj_c (mj_i G (mj_r G r0 0) n4)) ∧ K (mj_i G (mj_r G r0 0) n4) G))))) : Rd_sign d r0 x1 G K := by
  refine mk_7001_0 (fun q => ?_) (fun q => ?_)
  · replace h := h.1 q
    refine mk_7001_30 ?_
    refine mk_7001_31 (by unfold mj_c; decide) ⟨_, rfl, hS, h⟩
  · replace h := h.2 q
    obtain ⟨c1, h⟩ := h
    refine mk_7001_4 c1 rfl (fun q => ?_) (fun q => ?_)
    · replace h := h.1 q
      refine mk_7001_30 ?_
      refine mk_7001_31 (by unfold mj_c; decide) ⟨_, rfl, hS, h⟩
    · replace h := h.2 q
      obtain ⟨c2, h⟩ := h
      refine mk_7001_12 c1 rfl c2 rfl (fun q => ?_) (fun q => ?_)
      · replace h := h.1 q
        refine mk_7001_30 ?_
        refine mk_7001_31 (by unfold mj_c; decide) ⟨_, rfl, hS, h⟩
      · replace h := h.2 q
        obtain ⟨c3, h⟩ := h
        obtain ⟨i5, h⟩ := h
        refine mk_7001_21 c1 rfl c3 i5 rfl ?_
        obtain ⟨c6, h⟩ := h
        refine mk_7001_31 c6 ⟨_, rfl, hS, h⟩
/-! 7002: failed ()Z -/
theorem w_Rd_failed {G : mj_G} (hS : cs_S G) {d : Nat} {r0 : Nat} {K : Bool → mj_G → Prop}
    (h : (mj_k G r0 = 8) ∧ mm_br ((mj_i G r0 5) = ((Int32.ofInt (-1)))) (K false G) (K true G)) : Rd_failed d r0 G K := by
  obtain ⟨c1, h⟩ := h
  refine mk_7002_0 c1 rfl (fun q => ?_) (fun q => ?_)
  · replace h := h.1 q
    refine mk_7002_12 ?_
    refine mk_7002_13 (bI_b false) ⟨false, rfl, hS, h⟩
  · replace h := h.2 q
    refine mk_7002_8 ?_
    refine mk_7002_13 (bI_b true) ⟨true, rfl, hS, h⟩
/-! 7003: reject ()V -/
theorem w_Rd_reject {G : mj_G} (hS : cs_S G) {d : Nat} {r0 : Nat} {K : mj_G → Prop}
    (h : (mj_k G r0 = 8) ∧ mm_br ((mj_i G r0 5) = ((Int32.ofInt (-1)))) (∀ G2, G2 = mj_pI G r0 5 (mj_i G r0 4) → K G2) (K G)) : Rd_reject d r0 G K := by
  obtain ⟨c1, h⟩ := h
  refine mk_7003_0 c1 rfl (fun q => ?_) (fun q => ?_)
  · replace h := h.2 q
    refine mk_7003_16 ⟨rfl, hS, h⟩
  · replace h := h.1 q
    replace h := h _ rfl
    refine mk_7003_8 c1 rfl c1 rfl ?_
    refine mk_7003_16 ⟨rfl, (cs_pI hS), h⟩
/-! 7004: pass (C)V -/
theorem w_Rd_pass {G : mj_G} (hS : cs_S G) {d : Nat} {r0 : Nat} {x1 : Int32} {K : mj_G → Prop}
    (h : (mj_k G r0 = 8) ∧ Rd_failed d r0 G (fun v3 G2 => mm_br (v3 = true) ((mj_k G2 r0 = 8) ∧ Rd_reject d r0 G2 (fun G5 => K G5)) ((mj_k G2 r0 = 8) ∧ Rd_sign d r0 (mj_i G2 r0 4) G2 (fun v8 G7 => mm_br (v8 = x1) ((mj_k G7 r0 = 8) ∧ ∀ G12, G12 = mj_pI G7 r0 4 ((mj_i G7 r0 4) + (nI 1)) → K G12) ((mj_k G7 r0 = 8) ∧ Rd_reject d r0 G7 (fun G10 => K G10)))))) : Rd_pass (d + 1) r0 x1 G K := by
  refine mk_7004_0 ?_
  obtain ⟨c1, h⟩ := h
  refine mc_7004_1 c1 (cc_z h) (fun v0 G2 e => ?_)
  obtain ⟨v3, rfl, hSG2, h⟩ := e
  refine mk_7004_4 (fun q => ?_) (fun q => ?_)
  · replace h := h.1 (bI_n q)
    refine mk_7004_32 ?_
    obtain ⟨c4, h⟩ := h
    refine mc_7004_33 c4 h (fun G5 e => ?_)
    obtain ⟨hSG5, h⟩ := e
    refine mk_7004_36 ⟨rfl, hSG5, h⟩
  · replace h := h.2 (bI_z q)
    obtain ⟨c6, h⟩ := h
    refine mk_7004_7 c6 rfl ?_
    refine mc_7004_12 c6 h (fun v8 G7 e => ?_)
    obtain ⟨hSG7, h⟩ := e
    refine mk_7004_15 (fun q => ?_) (fun q => ?_)
    · replace h := h.2 q
      refine mk_7004_32 ?_
      obtain ⟨c9, h⟩ := h
      refine mc_7004_33 c9 h (fun G10 e => ?_)
      obtain ⟨hSG10, h⟩ := e
      refine mk_7004_36 ⟨rfl, hSG10, h⟩
    · replace h := h.1 q
      obtain ⟨c11, h⟩ := h
      replace h := h _ rfl
      refine mk_7004_19 c11 rfl c11 rfl ?_
      refine mk_7004_36 ⟨rfl, (cs_pI hSG7), h⟩
/-! 7005: readDigit ()I -/
theorem w_Rd_readDigit {G : mj_G} (hS : cs_S G) {d : Nat} (hd : 15 ≤ d) {r0 : Nat} {K : Int32 → mj_G → Prop}
    (h : (mj_k G r0 = 8) ∧ Rd_sign d r0 (mj_i G r0 4) G (fun v3 G2 => (mj_k G2 r0 = 8) ∧ Rd_failed d r0 G2 (fun v6 G5 => mm_br (v6 = true) ((mj_k G5 r0 = 8) ∧ Rd_reject d r0 G5 (fun G8 => K ((Int32.ofInt (-1))) G8)) (mm_br (qb (q_12030 v3) = true) ((mj_k G5 r0 = 8) ∧ ∀ G10, G10 = mj_pI G5 r0 4 ((mj_i G5 r0 4) + (nI 1)) → K (v3 - (nI 48)) G10) ((mj_k G5 r0 = 8) ∧ Rd_reject d r0 G5 (fun G12 => K ((Int32.ofInt (-1))) G12)))))) : Rd_readDigit (d + 1) r0 G K := by
  obtain ⟨e, rfl⟩ : ∃ e, d = e + 15 := ⟨d - 15, (Nat.sub_add_cancel hd).symm⟩
  obtain ⟨c1, h⟩ := h
  refine mk_7005_0 c1 rfl ?_
  refine mc_7005_5 c1 h (fun v3 G2 e => ?_)
  obtain ⟨hSG2, h⟩ := e
  refine mk_7005_8 ?_
  obtain ⟨c4, h⟩ := h
  refine mc_7005_10 c4 (cc_z h) (fun v0 G5 e => ?_)
  obtain ⟨v6, rfl, hSG5, h⟩ := e
  refine mk_7005_13 (fun q => ?_) (fun q => ?_)
  · replace h := h.1 (bI_n q)
    refine mk_7005_23 ?_
    obtain ⟨c7, h⟩ := h
    refine mc_7005_24 c7 h (fun G8 e => ?_)
    obtain ⟨hSG8, h⟩ := e
    refine mk_7005_27 ⟨_, rfl, hSG8, h⟩
  · replace h := h.2 (bI_z q)
    refine mk_7005_16 ?_
    refine mc_7005_17 (q_bc (q_12030_c _ _) (q_12030_b _)) (fun v G1 e => ?_)
    obtain ⟨rfl, rfl⟩ := e
    refine mk_7005_20 (fun q => ?_) (fun q => ?_)
    · replace h := h.1 (bI_n q)
      obtain ⟨c9, h⟩ := h
      replace h := h _ rfl
      refine mk_7005_29 c9 rfl c9 rfl ⟨_, rfl, (cs_pI hSG5), h⟩
    · replace h := h.2 (bI_z q)
      refine mk_7005_23 ?_
      obtain ⟨c11, h⟩ := h
      refine mc_7005_24 c11 h (fun G12 e => ?_)
      obtain ⟨hSG12, h⟩ := e
      refine mk_7005_27 ⟨_, rfl, hSG12, h⟩
/-! 7006: readLetter ()I -/
theorem w_Rd_readLetter {G : mj_G} (hS : cs_S G) {d : Nat} (hd : 15 ≤ d) {r0 : Nat} {K : Int32 → mj_G → Prop}
    (h : (mj_k G r0 = 8) ∧ Rd_sign d r0 (mj_i G r0 4) G (fun v3 G2 => (mj_k G2 r0 = 8) ∧ Rd_failed d r0 G2 (fun v6 G5 => mm_br (v6 = true) ((mj_k G5 r0 = 8) ∧ Rd_reject d r0 G5 (fun G8 => K ((Int32.ofInt (-1))) G8)) (mm_br (qb (q_12029 v3) = true) ((mj_k G5 r0 = 8) ∧ ∀ G10, G10 = mj_pI G5 r0 4 ((mj_i G5 r0 4) + (nI 1)) → K (v3 - (nI 97)) G10) ((mj_k G5 r0 = 8) ∧ Rd_reject d r0 G5 (fun G12 => K ((Int32.ofInt (-1))) G12)))))) : Rd_readLetter (d + 1) r0 G K := by
  obtain ⟨e, rfl⟩ : ∃ e, d = e + 15 := ⟨d - 15, (Nat.sub_add_cancel hd).symm⟩
  obtain ⟨c1, h⟩ := h
  refine mk_7006_0 c1 rfl ?_
  refine mc_7006_5 c1 h (fun v3 G2 e => ?_)
  obtain ⟨hSG2, h⟩ := e
  refine mk_7006_8 ?_
  obtain ⟨c4, h⟩ := h
  refine mc_7006_10 c4 (cc_z h) (fun v0 G5 e => ?_)
  obtain ⟨v6, rfl, hSG5, h⟩ := e
  refine mk_7006_13 (fun q => ?_) (fun q => ?_)
  · replace h := h.1 (bI_n q)
    refine mk_7006_23 ?_
    obtain ⟨c7, h⟩ := h
    refine mc_7006_24 c7 h (fun G8 e => ?_)
    obtain ⟨hSG8, h⟩ := e
    refine mk_7006_27 ⟨_, rfl, hSG8, h⟩
  · replace h := h.2 (bI_z q)
    refine mk_7006_16 ?_
    refine mc_7006_17 (q_bc (q_12029_c _ _) (q_12029_b _)) (fun v G1 e => ?_)
    obtain ⟨rfl, rfl⟩ := e
    refine mk_7006_20 (fun q => ?_) (fun q => ?_)
    · replace h := h.1 (bI_n q)
      obtain ⟨c9, h⟩ := h
      replace h := h _ rfl
      refine mk_7006_29 c9 rfl c9 rfl ⟨_, rfl, (cs_pI hSG5), h⟩
    · replace h := h.2 (bI_z q)
      refine mk_7006_23 ?_
      obtain ⟨c11, h⟩ := h
      refine mc_7006_24 c11 h (fun G12 e => ?_)
      obtain ⟨hSG12, h⟩ := e
      refine mk_7006_27 ⟨_, rfl, hSG12, h⟩
/-! 7008: readParent ()V -/
theorem w_Rd_readParent {G : mj_G} (hS : cs_S G) {d : Nat} {r0 : Nat} {K : mj_G → Prop}
    (h : (mj_k G r0 = 8) ∧ ∀ G2, G2 = mj_pI G r0 4 (nI 2) → Rd_readDigit d r0 G2 (fun v4 G3 => (mj_k G3 (mj_r G2 r0 3) = 11) ∧ ∀ G6, G6 = mj_pI G3 (mj_r G2 r0 3) 1 v4 → (mj_k G6 r0 = 8) ∧ Rd_pass d r0 (nI 125) G6 (fun G8 => (mj_k G8 r0 = 8) ∧ (mj_k G8 (mj_r G8 r0 3) = 11) ∧ ∀ G11, G11 = mj_pI G8 (mj_r G8 r0 3) 2 ((mj_i G8 (mj_r G8 r0 3) 2) + (nI 1)) → K G11))) : Rd_readParent (d + 1) r0 G K := by
  obtain ⟨c1, h⟩ := h
  replace h := h _ rfl
  refine mk_7008_0 c1 rfl c1 rfl ?_
  refine mc_7008_10 c1 h (fun v4 G3 e => ?_)
  obtain ⟨hSG3, h⟩ := e
  obtain ⟨c5, h⟩ := h
  replace h := h _ rfl
  refine mk_7008_13 c5 rfl ?_
  obtain ⟨c7, h⟩ := h
  refine mc_7008_19 c7 h (fun G8 e => ?_)
  obtain ⟨hSG8, h⟩ := e
  obtain ⟨c9, h⟩ := h
  obtain ⟨c10, h⟩ := h
  replace h := h _ rfl
  refine mk_7008_22 c9 rfl c10 rfl c10 rfl ⟨rfl, (cs_pI hSG8), h⟩
/-! 7009: readBody (III)LTemplateQuarry$Node; -/
set_option maxRecDepth 100000 in
theorem w_Rd_readBody {G : mj_G} (hS : cs_S G) {d : Nat} {r0 : Nat} {x1 : Int32} {x2 : Int32} {x3 : Int32} {K : Nat → mj_G → Prop}
    (h : (mj_k G r0 = 8) ∧ mm_br ((mj_i G r0 4) = (nI 0)) (Rd_sign d r0 (nI 0) G (fun v3 G2 => mm_br (v3 = (nI 123)) ((mj_k G2 r0 = 8) ∧ Rd_sign d r0 (nI 1) G2 (fun v6 G5 => mm_br (v6 = (nI 60)) ((mj_k G5 r0 = 8) ∧ Rd_readParent d r0 G5 (fun G8 => Rd_readBody_40 (d + 1) r0 x1 x2 x3 0 0 (nI 0) G8 K)) (Rd_readBody_40 (d + 1) r0 x1 x2 x3 0 0 (nI 0) G5 K))) (Rd_readBody_40 (d + 1) r0 x1 x2 x3 0 0 (nI 0) G2 K))) (Rd_readBody_40 (d + 1) r0 x1 x2 x3 0 0 (nI 0) G K)) : Rd_readBody (d + 1) r0 x1 x2 x3 G K := by
  obtain ⟨c1, h⟩ := h
  refine mk_7009_0 c1 rfl (fun q => ?_) (fun q => ?_)
  · replace h := h.2 q
    refine mk_7009_37 ?_
    exact h
  · replace h := h.1 q
    refine mk_7009_13 ?_
    refine mc_7009_15 c1 h (fun v3 G2 e => ?_)
    obtain ⟨hSG2, h⟩ := e
    refine mk_7009_18 (fun q => ?_) (fun q => ?_)
    · replace h := h.2 q
      refine mk_7009_37 ?_
      exact h
    · replace h := h.1 q
      refine mk_7009_23 ?_
      obtain ⟨c4, h⟩ := h
      refine mc_7009_25 c4 h (fun v6 G5 e => ?_)
      obtain ⟨hSG5, h⟩ := e
      refine mk_7009_28 (fun q => ?_) (fun q => ?_)
      · replace h := h.2 q
        refine mk_7009_37 ?_
        exact h
      · replace h := h.1 q
        refine mk_7009_33 ?_
        obtain ⟨c7, h⟩ := h
        refine mc_7009_34 c7 h (fun G8 e => ?_)
        obtain ⟨hSG8, h⟩ := e
        refine mk_7009_37 ?_
        exact h
set_option maxRecDepth 100000 in
theorem w_Rd_readBody_40 {G : mj_G} (hS : cs_S G) {d : Nat} (hd : 15 ≤ d) {r0 : Nat} {x1 : Int32} {x2 : Int32} {x3 : Int32} {r4 : Nat} {r5 : Nat} {x6 : Int32} {K : Nat → mj_G → Prop}
    (h : (mj_k G r0 = 8) ∧ mm_br ((mj_i G r0 1) < x6) (K r4 G) (Rd_failed d r0 G (fun v11 G10 => mm_br (v11 = true) (K r4 G10) ((mj_k G10 r0 = 8) ∧ mm_br ((mj_i G10 r0 4) < (mj_i G10 r0 1)) (Rd_sign d r0 (mj_i G10 r0 4) G10 (fun v14 G13 => mm_br (v14 = (nI 123)) ((mj_k G13 r0 = 8) ∧ Rd_sign d r0 ((mj_i G13 r0 4) + (nI 1)) G13 (fun v17 G16 => mm_br (qb (q_7007 v17 x1) = true) (K r4 G16) (Rd_readBody_111 (d + 1) r0 x1 x2 x3 r4 r5 x6 G16 K))) (Rd_readBody_111 (d + 1) r0 x1 x2 x3 r4 r5 x6 G13 K))) (mm_br (x1 = (nI 0)) (K r4 G10) (Rd_reject d r0 G10 (fun G18 => K r4 G18))))))) : Rd_readBody_40 (d + 1) r0 x1 x2 x3 r4 r5 x6 G K := by
  obtain ⟨e, rfl⟩ : ∃ e, d = e + 15 := ⟨d - 15, (Nat.sub_add_cancel hd).symm⟩
  obtain ⟨c9, h⟩ := h
  refine mk_7009_40 c9 rfl (fun q => ?_) (fun q => ?_)
  · replace h := h.1 q
    refine mk_7009_168 ⟨_, rfl, hS, h⟩
  · replace h := h.2 q
    refine mk_7009_49 ?_
    refine mc_7009_50 c9 (cc_z h) (fun v0 G10 e => ?_)
    obtain ⟨v11, rfl, hSG10, h⟩ := e
    refine mk_7009_53 (fun q => ?_) (fun q => ?_)
    · replace h := h.1 (bI_n q)
      refine mk_7009_168 ⟨_, rfl, hSG10, h⟩
    · replace h := h.2 (bI_z q)
      obtain ⟨c12, h⟩ := h
      refine mk_7009_56 c12 rfl c12 rfl (fun q => ?_) (fun q => ?_)
      · replace h := h.1 q
        refine mk_7009_78 c12 rfl ?_
        refine mc_7009_83 c12 h (fun v14 G13 e => ?_)
        obtain ⟨hSG13, h⟩ := e
        refine mk_7009_86 (fun q => ?_) (fun q => ?_)
        · replace h := h.2 q
          exact h
        · replace h := h.1 q
          obtain ⟨c15, h⟩ := h
          refine mk_7009_91 c15 rfl ?_
          refine mc_7009_98 c15 h (fun v17 G16 e => ?_)
          obtain ⟨hSG16, h⟩ := e
          refine mk_7009_101 ?_
          refine mc_7009_102 (q_bc (q_7007_c _ _ _) (q_7007_b _ _)) (fun v G1 e => ?_)
          obtain ⟨rfl, rfl⟩ := e
          refine mk_7009_105 (fun q => ?_) (fun q => ?_)
          · replace h := h.2 (bI_z q)
            exact h
          · replace h := h.1 (bI_n q)
            refine mk_7009_108 ⟨_, rfl, hSG16, h⟩
      · replace h := h.2 q
        refine mk_7009_67 (fun q => ?_) (fun q => ?_)
        · replace h := h.1 q
          refine mk_7009_75 ⟨_, rfl, hSG10, h⟩
        · replace h := h.2 q
          refine mk_7009_71 ?_
          refine mc_7009_72 c12 h (fun G18 e => ?_)
          obtain ⟨hSG18, h⟩ := e
          refine mk_7009_75 ⟨_, rfl, hSG18, h⟩
set_option maxRecDepth 100000 in
theorem w_Rd_readBody_111 {G : mj_G} (hS : cs_S G) {d : Nat} {r0 : Nat} {x1 : Int32} {x2 : Int32} {x3 : Int32} {r4 : Nat} {r5 : Nat} {x6 : Int32} {K : Nat → mj_G → Prop}
    (h : (mj_k G r0 = 8) ∧ Rd_sign d r0 (mj_i G r0 4) G (fun v21 G20 => mm_br (v21 = (nI 123)) ((mj_k G20 r0 = 8) ∧ Rd_readTag d r0 x2 x3 G20 (fun v29 G28 => mm_br (r5 = 0) (Rd_readBody_40 (d + 1) r0 x1 x2 x3 v29 v29 (x6 + nI 1) G28 K) ((mj_k G28 r5 = 6) ∧ ∀ G31, G31 = mj_pR G28 r5 10 v29 → Rd_readBody_40 (d + 1) r0 x1 x2 x3 r4 v29 (x6 + nI 1) G31 K))) ((mj_k G20 r0 = 8) ∧ Rd_readLiteral d r0 G20 (fun v24 G23 => mm_br (r5 = 0) (Rd_readBody_40 (d + 1) r0 x1 x2 x3 v24 v24 (x6 + nI 1) G23 K) ((mj_k G23 r5 = 6) ∧ ∀ G26, G26 = mj_pR G23 r5 10 v24 → Rd_readBody_40 (d + 1) r0 x1 x2 x3 r4 v24 (x6 + nI 1) G26 K))))) : Rd_readBody_111 (d + 1) r0 x1 x2 x3 r4 r5 x6 G K := by
  obtain ⟨c19, h⟩ := h
  refine mk_7009_111 c19 rfl ?_
  refine mc_7009_116 c19 h (fun v21 G20 e => ?_)
  obtain ⟨hSG20, h⟩ := e
  refine mk_7009_119 (fun q => ?_) (fun q => ?_)
  · replace h := h.2 q
    refine mk_7009_133 ?_
    obtain ⟨c22, h⟩ := h
    refine mc_7009_134 c22 h (fun v24 G23 e => ?_)
    obtain ⟨hSG23, h⟩ := e
    refine mk_7009_137 (fun q => ?_) (fun q => ?_)
    · replace h := h.2 q
      obtain ⟨c25, h⟩ := h
      replace h := h _ rfl
      refine mk_7009_151 c25 rfl ?_
      refine mk_7009_158 ?_
      exact h
    · replace h := h.1 q
      refine mk_7009_144 ?_
      refine mk_7009_158 ?_
      exact h
  · replace h := h.1 q
    refine mk_7009_124 ?_
    obtain ⟨c27, h⟩ := h
    refine mc_7009_127 c27 h (fun v29 G28 e => ?_)
    obtain ⟨hSG28, h⟩ := e
    refine mk_7009_130 ?_
    refine mk_7009_137 (fun q => ?_) (fun q => ?_)
    · replace h := h.2 q
      obtain ⟨c30, h⟩ := h
      replace h := h _ rfl
      refine mk_7009_151 c30 rfl ?_
      refine mk_7009_158 ?_
      exact h
    · replace h := h.1 q
      refine mk_7009_144 ?_
      refine mk_7009_158 ?_
      exact h
/-! 7010: readLiteral ()LTemplateQuarry$Node; -/
theorem w_Rd_readLiteral {G : mj_G} (hS : cs_S G) {d : Nat} {r0 : Nat} {K : Nat → mj_G → Prop}
    (h : ∀ G1, G1 = mj_al G 6 11 (fun _ => 0) → (mj_k G1 r0 = 8) ∧ Nd_init d (mj_n G) (nI 1) (mj_i G1 r0 2) (mj_i G1 r0 4) G1 (fun G3 => (mj_k G3 r0 = 8) ∧ Rd_sign d r0 (mj_i G3 r0 4) G3 (fun v6 G5 => (mj_k G5 (mj_n G) = 6) ∧ (mj_c v6) ∧ ∀ G9, G9 = mj_pI G5 (mj_n G) 5 v6 → mm_br ((mj_i G9 (mj_n G) 5) = (nI 125)) ((mj_k G9 r0 = 8) ∧ Rd_reject d r0 G9 (fun G13 => (mj_k G13 r0 = 8) ∧ ∀ G15, G15 = mj_pI G13 r0 4 ((mj_i G13 r0 4) + (nI 1)) → K (mj_n G) G15)) ((mj_k G9 r0 = 8) ∧ ∀ G11, G11 = mj_pI G9 r0 4 ((mj_i G9 r0 4) + (nI 1)) → K (mj_n G) G11)))) : Rd_readLiteral (d + 1) r0 G K := by
  replace h := h _ rfl
  obtain ⟨c2, h⟩ := h
  refine mk_7010_0 rfl rfl c2 rfl c2 rfl ?_
  refine mc_7010_13 mj_k_al h (fun G3 e => ?_)
  obtain ⟨hSG3, h⟩ := e
  obtain ⟨c4, h⟩ := h
  refine mk_7010_16 c4 rfl ?_
  refine mc_7010_23 c4 h (fun v6 G5 e => ?_)
  obtain ⟨hSG5, h⟩ := e
  obtain ⟨c7, h⟩ := h
  obtain ⟨c8, h⟩ := h
  replace h := h _ rfl
  refine mk_7010_26 c7 c8 rfl c7 rfl (fun q => ?_) (fun q => ?_)
  · replace h := h.2 q
    obtain ⟨c10, h⟩ := h
    replace h := h _ rfl
    refine mk_7010_42 c10 rfl c10 rfl ⟨_, rfl, (cs_pI (cs_pI hSG5)), h⟩
  · replace h := h.1 q
    refine mk_7010_38 ?_
    obtain ⟨c12, h⟩ := h
    refine mc_7010_39 c12 h (fun G13 e => ?_)
    obtain ⟨hSG13, h⟩ := e
    obtain ⟨c14, h⟩ := h
    replace h := h _ rfl
    refine mk_7010_42 c14 rfl c14 rfl ⟨_, rfl, (cs_pI hSG13), h⟩
/-! 7011: readTag (II)LTemplateQuarry$Node; -/
set_option maxRecDepth 100000 in
theorem w_Rd_readTag {G : mj_G} (hS : cs_S G) {d : Nat} (hd : 15 ≤ d) {r0 : Nat} {x1 : Int32} {x2 : Int32} {K : Nat → mj_G → Prop}
    (h : (mj_k G r0 = 8) ∧ ∀ G2, G2 = mj_pI G r0 4 ((mj_i G r0 4) + (nI 1)) → ∀ G3, G3 = mj_al G2 6 11 (fun _ => 0) → (mj_k G3 r0 = 8) ∧ Rd_sign d r0 (mj_i G3 r0 4) G3 (fun v6 G5 => (mj_k G5 r0 = 8) ∧ (mj_k G5 (mj_n G2) = 6) ∧ Nd_init d (mj_n G2) v6 (mj_i G5 r0 2) (mj_i G r0 4) G5 (fun G9 => (mj_k G9 r0 = 8) ∧ Rd_sign d r0 (mj_i G9 r0 4) G9 (fun v12 G11 => mm_br (qb (q_7012 v12) = true) (mm_br (x2 < (nI 90)) ((mj_k G11 r0 = 8) ∧ ∀ G16, G16 = mj_pI G11 r0 4 ((mj_i G11 r0 4) + (nI 1)) → (mj_k G16 (mj_r G16 r0 3) = 11) ∧ ∀ G18, G18 = mj_pI G16 (mj_r G16 r0 3) 2 ((mj_i G16 (mj_r G16 r0 3) 2) + (nI 1)) → Rd_readHead d r0 (mj_n G2) x1 G18 (fun G19 => (mj_k G19 r0 = 8) ∧ Rd_pass d r0 (nI 125) G19 (fun G21 => (mj_k G21 r0 = 8) ∧ Rd_failed d r0 G21 (fun v24 G23 => mm_br (v24 = true) (K (mj_n G2) G23) ((mj_k G23 r0 = 8) ∧ Rd_note d r0 (mj_n G2) G23 (fun G26 => (mj_k G26 (mj_n G2) = 6) ∧ mm_br ((mj_i G26 (mj_n G2) 0) = (nI 35)) ((mj_k G26 r0 = 8) ∧ Rd_readBodies d r0 (mj_n G2) (mj_i G26 (mj_n G2) 3) (x2 + (nI 1)) G26 (fun G31 => K (mj_n G2) G31)) ((mj_k G26 r0 = 8) ∧ Rd_readBodies d r0 (mj_n G2) x1 (x2 + (nI 1)) G26 (fun G29 => K (mj_n G2) G29)))))))) ((mj_k G11 r0 = 8) ∧ Rd_reject d r0 G11 (fun G33 => K (mj_n G2) G33))) ((mj_k G11 r0 = 8) ∧ Rd_reject d r0 G11 (fun G14 => K (mj_n G2) G14)))))) : Rd_readTag (d + 1) r0 x1 x2 G K := by
  obtain ⟨e, rfl⟩ : ∃ e, d = e + 15 := ⟨d - 15, (Nat.sub_add_cancel hd).symm⟩
  obtain ⟨c1, h⟩ := h
  replace h := h _ rfl
  replace h := h _ rfl
  obtain ⟨c4, h⟩ := h
  refine mk_7011_0 c1 rfl c1 rfl c1 rfl rfl rfl c4 rfl ?_
  refine mc_7011_24 c4 h (fun v6 G5 e => ?_)
  obtain ⟨hSG5, h⟩ := e
  obtain ⟨c7, h⟩ := h
  refine mk_7011_27 c7 rfl ?_
  obtain ⟨c8, h⟩ := h
  refine mc_7011_32 c8 h (fun G9 e => ?_)
  obtain ⟨hSG9, h⟩ := e
  obtain ⟨c10, h⟩ := h
  refine mk_7011_35 c10 rfl ?_
  refine mc_7011_42 c10 h (fun v12 G11 e => ?_)
  obtain ⟨hSG11, h⟩ := e
  refine mc_7011_45 (q_bc (q_7012_c _ _) (q_7012_b _)) (fun v G1 e => ?_)
  obtain ⟨rfl, rfl⟩ := e
  refine mk_7011_48 (fun q => ?_) (fun q => ?_)
  · replace h := h.2 (bI_z q)
    refine mk_7011_57 ?_
    obtain ⟨c13, h⟩ := h
    refine mc_7011_58 c13 h (fun G14 e => ?_)
    obtain ⟨hSG14, h⟩ := e
    refine mk_7011_61 ⟨_, rfl, hSG14, h⟩
  · replace h := h.1 (bI_n q)
    refine mk_7011_51 (fun q => ?_) (fun q => ?_)
    · replace h := h.1 q
      obtain ⟨c15, h⟩ := h
      replace h := h _ rfl
      obtain ⟨c17, h⟩ := h
      replace h := h _ rfl
      refine mk_7011_64 c15 rfl c15 rfl c15 rfl c17 rfl c17 rfl ?_
      refine mc_7011_91 c15 h (fun G19 e => ?_)
      obtain ⟨hSG19, h⟩ := e
      refine mk_7011_94 ?_
      obtain ⟨c20, h⟩ := h
      refine mc_7011_97 c20 h (fun G21 e => ?_)
      obtain ⟨hSG21, h⟩ := e
      refine mk_7011_100 ?_
      obtain ⟨c22, h⟩ := h
      refine mc_7011_101 c22 (cc_z h) (fun v0 G23 e => ?_)
      obtain ⟨v24, rfl, hSG23, h⟩ := e
      refine mk_7011_104 (fun q => ?_) (fun q => ?_)
      · replace h := h.1 (bI_n q)
        refine mk_7011_141 ⟨_, rfl, hSG23, h⟩
      · replace h := h.2 (bI_z q)
        refine mk_7011_107 ?_
        obtain ⟨c25, h⟩ := h
        refine mc_7011_110 c25 h (fun G26 e => ?_)
        obtain ⟨hSG26, h⟩ := e
        obtain ⟨c27, h⟩ := h
        refine mk_7011_113 c27 rfl (fun q => ?_) (fun q => ?_)
        · replace h := h.2 q
          refine mk_7011_134 ?_
          refine mk_7011_135 ?_
          obtain ⟨c28, h⟩ := h
          refine mc_7011_138 c28 h (fun G29 e => ?_)
          obtain ⟨hSG29, h⟩ := e
          refine mk_7011_141 ⟨_, rfl, hSG29, h⟩
        · replace h := h.1 q
          refine mk_7011_126 c27 rfl ?_
          refine mk_7011_135 ?_
          obtain ⟨c30, h⟩ := h
          refine mc_7011_138 c30 h (fun G31 e => ?_)
          obtain ⟨hSG31, h⟩ := e
          refine mk_7011_141 ⟨_, rfl, hSG31, h⟩
    · replace h := h.2 q
      refine mk_7011_57 ?_
      obtain ⟨c32, h⟩ := h
      refine mc_7011_58 c32 h (fun G33 e => ?_)
      obtain ⟨hSG33, h⟩ := e
      refine mk_7011_61 ⟨_, rfl, hSG33, h⟩
/-! 7013: readHead (LTemplateQuarry$Node;I)V -/
theorem w_Rd_readHead {G : mj_G} (hS : cs_S G) {d : Nat} {r0 : Nat} {r1 : Nat} {x2 : Int32} {K : mj_G → Prop}
    (h : (mj_k G r1 = 6) ∧ mm_br ((mj_i G r1 0) = nI 33) ((mj_k G r0 = 8) ∧ Rd_readDigit d r0 G (fun v4 G3 => (mj_k G3 r1 = 6) ∧ ∀ G6, G6 = mj_pI G3 r1 3 v4 → (mj_k G6 r0 = 8) ∧ Rd_readArguments d r0 r1 G6 (fun G8 => K G8))) (mm_br ((mj_i G r1 0) = nI 35) ((mj_k G r0 = 8) ∧ Rd_readDigit d r0 G (fun v11 G10 => (mj_k G10 r1 = 6) ∧ ∀ G13, G13 = mj_pI G10 r1 3 v11 → K G13)) (mm_br ((mj_i G r1 0) = nI 36) ((mj_k G r0 = 8) ∧ Rd_readDigit d r0 G (fun v16 G15 => (mj_k G15 r1 = 6) ∧ ∀ G18, G18 = mj_pI G15 r1 3 v16 → (mj_k G18 r0 = 8) ∧ Rd_readParameters d r0 r1 G18 (fun G20 => K G20))) (mm_br ((mj_i G r1 0) = nI 37) ((mj_k G r0 = 8) ∧ Rd_readLetter d r0 G (fun v23 G22 => (mj_k G22 r1 = 6) ∧ ∀ G25, G25 = mj_pI G22 r1 4 v23 → (mj_k G25 r0 = 8) ∧ Rd_readExpression d r0 (nI 0) G25 (fun v28 G27 => (mj_k G27 r1 = 6) ∧ ∀ G30, G30 = mj_pR G27 r1 6 v28 → K G30))) (mm_br ((mj_i G r1 0) = nI 38) ((mj_k G r0 = 8) ∧ Rd_readDigit d r0 G (fun v33 G32 => (mj_k G32 r1 = 6) ∧ ∀ G35, G35 = mj_pI G32 r1 3 v33 → (mj_k G35 r0 = 8) ∧ Rd_readArguments d r0 r1 G35 (fun G37 => K G37))) (mm_br ((mj_i G r1 0) = nI 42) ((mj_k G r0 = 8) ∧ Rd_readLetter d r0 G (fun v40 G39 => (mj_k G39 r1 = 6) ∧ ∀ G42, G42 = mj_pI G39 r1 4 v40 → (mj_k G42 r0 = 8) ∧ Rd_readExpression d r0 (nI 0) G42 (fun v45 G44 => (mj_k G44 r1 = 6) ∧ ∀ G47, G47 = mj_pR G44 r1 6 v45 → K G47))) (mm_br ((mj_i G r1 0) = nI 61) ((mj_k G r0 = 8) ∧ Rd_readExpression d r0 (nI 0) G (fun v50 G49 => (mj_k G49 r1 = 6) ∧ ∀ G52, G52 = mj_pR G49 r1 6 v50 → K G52)) (mm_br ((mj_i G r1 0) = nI 63) ((mj_k G r0 = 8) ∧ Rd_readExpression d r0 (nI 0) G (fun v55 G54 => (mj_k G54 r1 = 6) ∧ ∀ G57, G57 = mj_pR G54 r1 6 v55 → K G57)) (mm_br ((mj_i G r1 0) = nI 64) ((mj_k G r0 = 8) ∧ Rd_readDigit d r0 G (fun v60 G59 => (mj_k G59 r1 = 6) ∧ ∀ G62, G62 = mj_pI G59 r1 3 v60 → K G62)) (mm_br ((mj_i G r1 0) = nI 94) (∀ G63, G63 = mj_pI G r1 3 x2 → K G63) (mm_br ((mj_i G r1 0) = nI 107) ((mj_k G r0 = 8) ∧ Rd_readDigit d r0 G (fun v66 G65 => (mj_k G65 r1 = 6) ∧ ∀ G68, G68 = mj_pI G65 r1 3 v66 → K G68)) (mm_br ((mj_i G r1 0) = nI 116) ((mj_k G r0 = 8) ∧ Rd_readDigit d r0 G (fun v71 G70 => (mj_k G70 r1 = 6) ∧ ∀ G73, G73 = mj_pI G70 r1 3 v71 → (mj_k G73 r0 = 8) ∧ Rd_readExpression d r0 (nI 0) G73 (fun v76 G75 => (mj_k G75 r1 = 6) ∧ ∀ G78, G78 = mj_pR G75 r1 6 v76 → K G78))) (K G))))))))))))) : Rd_readHead (d + 1) r0 r1 x2 G K := by
  obtain ⟨c1, h⟩ := h
  refine mk_7013_0 c1 rfl (fun q => ?_) (fun q => ?_) (fun q => ?_) (fun q => ?_) (fun q => ?_) (fun q => ?_) (fun q => ?_) (fun q => ?_) (fun q => ?_) (fun q => ?_) (fun q => ?_) (fun q => ?_) (fun n1 n2 n3 n4 n5 n6 n7 n8 n9 n10 n11 n12 => ?_)
  · replace h := h.1 q
    refine mk_7013_191 ?_
    obtain ⟨c2, h⟩ := h
    refine mc_7013_193 c2 h (fun v4 G3 e => ?_)
    obtain ⟨hSG3, h⟩ := e
    obtain ⟨c5, h⟩ := h
    replace h := h _ rfl
    refine mk_7013_196 c5 rfl ?_
    obtain ⟨c7, h⟩ := h
    refine mc_7013_201 c7 h (fun G8 e => ?_)
    obtain ⟨hSG8, h⟩ := e
    refine mk_7013_204 ?_
    refine mk_7013_215 ⟨rfl, hSG8, h⟩
  · replace h := (h.2 (fun e => absurd (e.symm.trans q) (by decide))).1 q
    refine mk_7013_144 ?_
    obtain ⟨c9, h⟩ := h
    refine mc_7013_146 c9 h (fun v11 G10 e => ?_)
    obtain ⟨hSG10, h⟩ := e
    obtain ⟨c12, h⟩ := h
    replace h := h _ rfl
    refine mk_7013_149 c12 rfl ?_
    refine mk_7013_215 ⟨rfl, (cs_pI hSG10), h⟩
  · replace h := ((h.2 (fun e => absurd (e.symm.trans q) (by decide))).2 (fun e => absurd (e.symm.trans q) (by decide))).1 q
    refine mk_7013_175 ?_
    obtain ⟨c14, h⟩ := h
    refine mc_7013_177 c14 h (fun v16 G15 e => ?_)
    obtain ⟨hSG15, h⟩ := e
    obtain ⟨c17, h⟩ := h
    replace h := h _ rfl
    refine mk_7013_180 c17 rfl ?_
    obtain ⟨c19, h⟩ := h
    refine mc_7013_185 c19 h (fun G20 e => ?_)
    obtain ⟨hSG20, h⟩ := e
    refine mk_7013_188 ?_
    refine mk_7013_215 ⟨rfl, hSG20, h⟩
  · replace h := (((h.2 (fun e => absurd (e.symm.trans q) (by decide))).2 (fun e => absurd (e.symm.trans q) (by decide))).2 (fun e => absurd (e.symm.trans q) (by decide))).1 q
    refine mk_7013_124 ?_
    obtain ⟨c21, h⟩ := h
    refine mc_7013_126 c21 h (fun v23 G22 e => ?_)
    obtain ⟨hSG22, h⟩ := e
    obtain ⟨c24, h⟩ := h
    replace h := h _ rfl
    refine mk_7013_129 c24 rfl ?_
    obtain ⟨c26, h⟩ := h
    refine mc_7013_135 c26 h (fun v28 G27 e => ?_)
    obtain ⟨hSG27, h⟩ := e
    obtain ⟨c29, h⟩ := h
    replace h := h _ rfl
    refine mk_7013_138 c29 rfl ?_
    refine mk_7013_215 ⟨rfl, (cs_pR hSG27 c29 rfl), h⟩
  · replace h := ((((h.2 (fun e => absurd (e.symm.trans q) (by decide))).2 (fun e => absurd (e.symm.trans q) (by decide))).2 (fun e => absurd (e.symm.trans q) (by decide))).2 (fun e => absurd (e.symm.trans q) (by decide))).1 q
    refine mk_7013_191 ?_
    obtain ⟨c31, h⟩ := h
    refine mc_7013_193 c31 h (fun v33 G32 e => ?_)
    obtain ⟨hSG32, h⟩ := e
    obtain ⟨c34, h⟩ := h
    replace h := h _ rfl
    refine mk_7013_196 c34 rfl ?_
    obtain ⟨c36, h⟩ := h
    refine mc_7013_201 c36 h (fun G37 e => ?_)
    obtain ⟨hSG37, h⟩ := e
    refine mk_7013_204 ?_
    refine mk_7013_215 ⟨rfl, hSG37, h⟩
  · replace h := (((((h.2 (fun e => absurd (e.symm.trans q) (by decide))).2 (fun e => absurd (e.symm.trans q) (by decide))).2 (fun e => absurd (e.symm.trans q) (by decide))).2 (fun e => absurd (e.symm.trans q) (by decide))).2 (fun e => absurd (e.symm.trans q) (by decide))).1 q
    refine mk_7013_124 ?_
    obtain ⟨c38, h⟩ := h
    refine mc_7013_126 c38 h (fun v40 G39 e => ?_)
    obtain ⟨hSG39, h⟩ := e
    obtain ⟨c41, h⟩ := h
    replace h := h _ rfl
    refine mk_7013_129 c41 rfl ?_
    obtain ⟨c43, h⟩ := h
    refine mc_7013_135 c43 h (fun v45 G44 e => ?_)
    obtain ⟨hSG44, h⟩ := e
    obtain ⟨c46, h⟩ := h
    replace h := h _ rfl
    refine mk_7013_138 c46 rfl ?_
    refine mk_7013_215 ⟨rfl, (cs_pR hSG44 c46 rfl), h⟩
  · replace h := ((((((h.2 (fun e => absurd (e.symm.trans q) (by decide))).2 (fun e => absurd (e.symm.trans q) (by decide))).2 (fun e => absurd (e.symm.trans q) (by decide))).2 (fun e => absurd (e.symm.trans q) (by decide))).2 (fun e => absurd (e.symm.trans q) (by decide))).2 (fun e => absurd (e.symm.trans q) (by decide))).1 q
    refine mk_7013_112 ?_
    obtain ⟨c48, h⟩ := h
    refine mc_7013_115 c48 h (fun v50 G49 e => ?_)
    obtain ⟨hSG49, h⟩ := e
    obtain ⟨c51, h⟩ := h
    replace h := h _ rfl
    refine mk_7013_118 c51 rfl ?_
    refine mk_7013_215 ⟨rfl, (cs_pR hSG49 c51 rfl), h⟩
  · replace h := (((((((h.2 (fun e => absurd (e.symm.trans q) (by decide))).2 (fun e => absurd (e.symm.trans q) (by decide))).2 (fun e => absurd (e.symm.trans q) (by decide))).2 (fun e => absurd (e.symm.trans q) (by decide))).2 (fun e => absurd (e.symm.trans q) (by decide))).2 (fun e => absurd (e.symm.trans q) (by decide))).2 (fun e => absurd (e.symm.trans q) (by decide))).1 q
    refine mk_7013_112 ?_
    obtain ⟨c53, h⟩ := h
    refine mc_7013_115 c53 h (fun v55 G54 e => ?_)
    obtain ⟨hSG54, h⟩ := e
    obtain ⟨c56, h⟩ := h
    replace h := h _ rfl
    refine mk_7013_118 c56 rfl ?_
    refine mk_7013_215 ⟨rfl, (cs_pR hSG54 c56 rfl), h⟩
  · replace h := ((((((((h.2 (fun e => absurd (e.symm.trans q) (by decide))).2 (fun e => absurd (e.symm.trans q) (by decide))).2 (fun e => absurd (e.symm.trans q) (by decide))).2 (fun e => absurd (e.symm.trans q) (by decide))).2 (fun e => absurd (e.symm.trans q) (by decide))).2 (fun e => absurd (e.symm.trans q) (by decide))).2 (fun e => absurd (e.symm.trans q) (by decide))).2 (fun e => absurd (e.symm.trans q) (by decide))).1 q
    refine mk_7013_144 ?_
    obtain ⟨c58, h⟩ := h
    refine mc_7013_146 c58 h (fun v60 G59 e => ?_)
    obtain ⟨hSG59, h⟩ := e
    obtain ⟨c61, h⟩ := h
    replace h := h _ rfl
    refine mk_7013_149 c61 rfl ?_
    refine mk_7013_215 ⟨rfl, (cs_pI hSG59), h⟩
  · replace h := (((((((((h.2 (fun e => absurd (e.symm.trans q) (by decide))).2 (fun e => absurd (e.symm.trans q) (by decide))).2 (fun e => absurd (e.symm.trans q) (by decide))).2 (fun e => absurd (e.symm.trans q) (by decide))).2 (fun e => absurd (e.symm.trans q) (by decide))).2 (fun e => absurd (e.symm.trans q) (by decide))).2 (fun e => absurd (e.symm.trans q) (by decide))).2 (fun e => absurd (e.symm.trans q) (by decide))).2 (fun e => absurd (e.symm.trans q) (by decide))).1 q
    replace h := h _ rfl
    refine mk_7013_207 c1 rfl ?_
    refine mk_7013_215 ⟨rfl, (cs_pI hS), h⟩
  · replace h := ((((((((((h.2 (fun e => absurd (e.symm.trans q) (by decide))).2 (fun e => absurd (e.symm.trans q) (by decide))).2 (fun e => absurd (e.symm.trans q) (by decide))).2 (fun e => absurd (e.symm.trans q) (by decide))).2 (fun e => absurd (e.symm.trans q) (by decide))).2 (fun e => absurd (e.symm.trans q) (by decide))).2 (fun e => absurd (e.symm.trans q) (by decide))).2 (fun e => absurd (e.symm.trans q) (by decide))).2 (fun e => absurd (e.symm.trans q) (by decide))).2 (fun e => absurd (e.symm.trans q) (by decide))).1 q
    refine mk_7013_144 ?_
    obtain ⟨c64, h⟩ := h
    refine mc_7013_146 c64 h (fun v66 G65 e => ?_)
    obtain ⟨hSG65, h⟩ := e
    obtain ⟨c67, h⟩ := h
    replace h := h _ rfl
    refine mk_7013_149 c67 rfl ?_
    refine mk_7013_215 ⟨rfl, (cs_pI hSG65), h⟩
  · replace h := (((((((((((h.2 (fun e => absurd (e.symm.trans q) (by decide))).2 (fun e => absurd (e.symm.trans q) (by decide))).2 (fun e => absurd (e.symm.trans q) (by decide))).2 (fun e => absurd (e.symm.trans q) (by decide))).2 (fun e => absurd (e.symm.trans q) (by decide))).2 (fun e => absurd (e.symm.trans q) (by decide))).2 (fun e => absurd (e.symm.trans q) (by decide))).2 (fun e => absurd (e.symm.trans q) (by decide))).2 (fun e => absurd (e.symm.trans q) (by decide))).2 (fun e => absurd (e.symm.trans q) (by decide))).2 (fun e => absurd (e.symm.trans q) (by decide))).1 q
    refine mk_7013_155 ?_
    obtain ⟨c69, h⟩ := h
    refine mc_7013_157 c69 h (fun v71 G70 e => ?_)
    obtain ⟨hSG70, h⟩ := e
    obtain ⟨c72, h⟩ := h
    replace h := h _ rfl
    refine mk_7013_160 c72 rfl ?_
    obtain ⟨c74, h⟩ := h
    refine mc_7013_166 c74 h (fun v76 G75 e => ?_)
    obtain ⟨hSG75, h⟩ := e
    obtain ⟨c77, h⟩ := h
    replace h := h _ rfl
    refine mk_7013_169 c77 rfl ?_
    refine mk_7013_215 ⟨rfl, (cs_pR hSG75 c77 rfl), h⟩
  · replace h := ((((((((((((h.2 n1).2 n2).2 n3).2 n4).2 n5).2 n6).2 n7).2 n8).2 n9).2 n10).2 n11).2 n12)
    refine mk_7013_215 ⟨rfl, hS, h⟩
/-! 7014: note (LTemplateQuarry$Node;)V -/
set_option maxRecDepth 100000 in
theorem w_Rd_note {G : mj_G} (hS : cs_S G) {d : Nat} {r0 : Nat} {r1 : Nat} {K : mj_G → Prop}
    (h : (mj_k G r1 = 6) ∧ mm_br ((mj_i G r1 0) = (nI 37)) (mm_br ((mj_i G r1 4) < (nI 0)) (Rd_note_34 d r0 r1 G K) ((mj_k G r0 = 8) ∧ (mj_k G (mj_r G r0 3) = 11) ∧ ∀ G4, G4 = mj_pI G (mj_r G r0 3) 3 ((mj_i G (mj_r G r0 3) 3) ||| (mm_shl (nI 1) (mj_i G r1 4))) → Rd_note_34 d r0 r1 G4 K)) (Rd_note_34 d r0 r1 G K)) : Rd_note d r0 r1 G K := by
  obtain ⟨c1, h⟩ := h
  refine mk_7014_0 c1 rfl (fun q => ?_) (fun q => ?_)
  · replace h := h.2 q
    exact h
  · replace h := h.1 q
    refine mk_7014_9 c1 rfl (fun q => ?_) (fun q => ?_)
    · replace h := h.1 q
      exact h
    · replace h := h.2 q
      obtain ⟨c2, h⟩ := h
      obtain ⟨c3, h⟩ := h
      replace h := h _ rfl
      refine mk_7014_16 c2 rfl c3 rfl c1 rfl c3 rfl ?_
      exact h
set_option maxRecDepth 100000 in
theorem w_Rd_note_34 {G : mj_G} (hS : cs_S G) {d : Nat} {r0 : Nat} {r1 : Nat} {K : mj_G → Prop}
    (h : (mj_k G r1 = 6) ∧ mm_br ((mj_i G r1 3) < (nI 0)) (K G) (mm_br ((mj_i G r1 3) < (nI 10)) (mm_br ((mj_i G r1 0) = (nI 35)) ((mj_k G r0 = 8) ∧ (mj_k G (mj_r G r0 3) = 11) ∧ (30 ≤ mj_k G (mj_r G (mj_r G r0 3) 4)) ∧ mm_ix (mj_i G r1 3) (mj_l G (mj_r G (mj_r G r0 3) 4)) (fun n20 => mm_br ((mj_r G (mj_r G (mj_r G r0 3) 4) n20) = 0) ((30 ≤ mj_k G (mj_r G (mj_r G r0 3) 4)) ∧ mm_ix (mj_i G r1 3) (mj_l G (mj_r G (mj_r G r0 3) 4)) (fun n32 => (r1 = 0 ∨ mj_k G r1 + 29 = mj_k G (mj_r G (mj_r G r0 3) 4)) ∧ (cs_w (mj_r G (mj_r G r0 3) 4)) ∧ ∀ G36, G36 = mj_pR G (mj_r G (mj_r G r0 3) 4) n32 r1 → mm_br ((mj_i G36 r1 0) = (nI 36)) ((mj_k G36 (mj_r G36 r0 3) = 11) ∧ (30 ≤ mj_k G36 (mj_r G36 (mj_r G36 r0 3) 5)) ∧ mm_ix (mj_i G36 r1 3) (mj_l G36 (mj_r G36 (mj_r G36 r0 3) 5)) (fun n39 => mm_br ((mj_r G36 (mj_r G36 (mj_r G36 r0 3) 5) n39) = 0) ((30 ≤ mj_k G36 (mj_r G36 (mj_r G36 r0 3) 5)) ∧ mm_ix (mj_i G36 r1 3) (mj_l G36 (mj_r G36 (mj_r G36 r0 3) 5)) (fun n42 => (r1 = 0 ∨ mj_k G36 r1 + 29 = mj_k G36 (mj_r G36 (mj_r G36 r0 3) 5)) ∧ (cs_w (mj_r G36 (mj_r G36 r0 3) 5)) ∧ ∀ G46, G46 = mj_pR G36 (mj_r G36 (mj_r G36 r0 3) 5) n42 r1 → K G46)) (K G36))) (K G36))) (mm_br ((mj_i G r1 0) = (nI 36)) ((30 ≤ mj_k G (mj_r G (mj_r G r0 3) 5)) ∧ mm_ix (mj_i G r1 3) (mj_l G (mj_r G (mj_r G r0 3) 5)) (fun n23 => mm_br ((mj_r G (mj_r G (mj_r G r0 3) 5) n23) = 0) ((30 ≤ mj_k G (mj_r G (mj_r G r0 3) 5)) ∧ mm_ix (mj_i G r1 3) (mj_l G (mj_r G (mj_r G r0 3) 5)) (fun n26 => (r1 = 0 ∨ mj_k G r1 + 29 = mj_k G (mj_r G (mj_r G r0 3) 5)) ∧ (cs_w (mj_r G (mj_r G r0 3) 5)) ∧ ∀ G30, G30 = mj_pR G (mj_r G (mj_r G r0 3) 5) n26 r1 → K G30)) (K G))) (K G)))) (mm_br ((mj_i G r1 0) = (nI 36)) ((mj_k G r0 = 8) ∧ (mj_k G (mj_r G r0 3) = 11) ∧ (30 ≤ mj_k G (mj_r G (mj_r G r0 3) 5)) ∧ mm_ix (mj_i G r1 3) (mj_l G (mj_r G (mj_r G r0 3) 5)) (fun n9 => mm_br ((mj_r G (mj_r G (mj_r G r0 3) 5) n9) = 0) ((30 ≤ mj_k G (mj_r G (mj_r G r0 3) 5)) ∧ mm_ix (mj_i G r1 3) (mj_l G (mj_r G (mj_r G r0 3) 5)) (fun n12 => (r1 = 0 ∨ mj_k G r1 + 29 = mj_k G (mj_r G (mj_r G r0 3) 5)) ∧ (cs_w (mj_r G (mj_r G r0 3) 5)) ∧ ∀ G16, G16 = mj_pR G (mj_r G (mj_r G r0 3) 5) n12 r1 → K G16)) (K G))) (K G))) (K G))) : Rd_note_34 d r0 r1 G K := by
  obtain ⟨c5, h⟩ := h
  refine mk_7014_34 c5 rfl (fun q => ?_) (fun q => ?_)
  · replace h := h.1 q
    refine mk_7014_50 ⟨rfl, hS, h⟩
  · replace h := h.2 q
    refine mk_7014_41 c5 rfl (fun q => ?_) (fun q => ?_)
    · replace h := h.1 q
      refine mk_7014_51 c5 rfl (fun q => ?_) (fun q => ?_)
      · replace h := h.2 q
        refine mk_7014_88 c5 rfl (fun q => ?_) (fun q => ?_)
        · replace h := h.2 q
          refine mk_7014_125 ⟨rfl, hS, h⟩
        · replace h := h.1 q
          obtain ⟨c6, h⟩ := h
          obtain ⟨c7, h⟩ := h
          obtain ⟨c8, h⟩ := h
          obtain ⟨i10, h⟩ := h
          refine mk_7014_97 c6 rfl c7 rfl c5 rfl c8 i10 rfl (fun q => ?_) (fun q => ?_)
          · replace h := h.2 q
            refine mk_7014_125 ⟨rfl, hS, h⟩
          · replace h := h.1 q
            obtain ⟨c11, h⟩ := h
            obtain ⟨i13, h⟩ := h
            obtain ⟨c14, h⟩ := h
            obtain ⟨c15, h⟩ := h
            replace h := h _ rfl
            refine mk_7014_112 c6 rfl c7 rfl c5 rfl c11 i13 c14 rfl ?_
            refine mk_7014_125 ⟨rfl, (cs_pRw hS c11 c15), h⟩
      · replace h := h.1 q
        obtain ⟨c17, h⟩ := h
        obtain ⟨c18, h⟩ := h
        obtain ⟨c19, h⟩ := h
        obtain ⟨i21, h⟩ := h
        refine mk_7014_60 c17 rfl c18 rfl c5 rfl c19 i21 rfl (fun q => ?_) (fun q => ?_)
        · replace h := h.2 q
          refine mk_7014_88 c5 rfl (fun q => ?_) (fun q => ?_)
          · replace h := h.2 q
            refine mk_7014_125 ⟨rfl, hS, h⟩
          · replace h := h.1 q
            obtain ⟨c22, h⟩ := h
            obtain ⟨i24, h⟩ := h
            refine mk_7014_97 c17 rfl c18 rfl c5 rfl c22 i24 rfl (fun q => ?_) (fun q => ?_)
            · replace h := h.2 q
              refine mk_7014_125 ⟨rfl, hS, h⟩
            · replace h := h.1 q
              obtain ⟨c25, h⟩ := h
              obtain ⟨i27, h⟩ := h
              obtain ⟨c28, h⟩ := h
              obtain ⟨c29, h⟩ := h
              replace h := h _ rfl
              refine mk_7014_112 c17 rfl c18 rfl c5 rfl c25 i27 c28 rfl ?_
              refine mk_7014_125 ⟨rfl, (cs_pRw hS c25 c29), h⟩
        · replace h := h.1 q
          obtain ⟨c31, h⟩ := h
          obtain ⟨i33, h⟩ := h
          obtain ⟨c34, h⟩ := h
          obtain ⟨c35, h⟩ := h
          replace h := h _ rfl
          refine mk_7014_75 c17 rfl c18 rfl c5 rfl c31 i33 c34 rfl ?_
          refine mk_7014_88 c5 rfl (fun q => ?_) (fun q => ?_)
          · replace h := h.2 q
            refine mk_7014_125 ⟨rfl, (cs_pRw hS c31 c35), h⟩
          · replace h := h.1 q
            obtain ⟨c37, h⟩ := h
            obtain ⟨c38, h⟩ := h
            obtain ⟨i40, h⟩ := h
            refine mk_7014_97 c17 rfl c37 rfl c5 rfl c38 i40 rfl (fun q => ?_) (fun q => ?_)
            · replace h := h.2 q
              refine mk_7014_125 ⟨rfl, (cs_pRw hS c31 c35), h⟩
            · replace h := h.1 q
              obtain ⟨c41, h⟩ := h
              obtain ⟨i43, h⟩ := h
              obtain ⟨c44, h⟩ := h
              obtain ⟨c45, h⟩ := h
              replace h := h _ rfl
              refine mk_7014_112 c17 rfl c37 rfl c5 rfl c41 i43 c44 rfl ?_
              refine mk_7014_125 ⟨rfl, (cs_pRw (cs_pRw hS c31 c35) c41 c45), h⟩
    · replace h := h.2 q
      refine mk_7014_50 ⟨rfl, hS, h⟩
/-! 7015: readBodies (LTemplateQuarry$Node;II)V -/
theorem w_Rd_readBodies {G : mj_G} (hS : cs_S G) {d : Nat} {r0 : Nat} {r1 : Nat} {x2 : Int32} {x3 : Int32} {K : mj_G → Prop}
    (h : (mj_k G r1 = 6) ∧ mm_br ((mj_i G r1 0) = nI 35) ((mj_k G r0 = 8) ∧ Rd_readBody d r0 (nI 1) x2 x3 G (fun v4 G3 => (mj_k G3 r1 = 6) ∧ ∀ G6, G6 = mj_pR G3 r1 8 v4 → (mj_k G6 r0 = 8) ∧ Rd_leave d r0 G6 (fun v9 G8 => K G8))) (mm_br ((mj_i G r1 0) = nI 36) ((mj_k G r0 = 8) ∧ Rd_readBody d r0 (nI 1) x2 x3 G (fun v12 G11 => (mj_k G11 r1 = 6) ∧ ∀ G14, G14 = mj_pR G11 r1 8 v12 → (mj_k G14 r0 = 8) ∧ Rd_leave d r0 G14 (fun v17 G16 => K G16))) (mm_br ((mj_i G r1 0) = nI 38) ((mj_k G r0 = 8) ∧ Rd_readBody d r0 (nI 1) x2 x3 G (fun v20 G19 => (mj_k G19 r1 = 6) ∧ ∀ G22, G22 = mj_pR G19 r1 8 v20 → (mj_k G22 r0 = 8) ∧ Rd_leave d r0 G22 (fun v25 G24 => K G24))) (mm_br ((mj_i G r1 0) = nI 42) ((mj_k G r0 = 8) ∧ Rd_readBody d r0 (nI 3) x2 x3 G (fun v28 G27 => (mj_k G27 r1 = 6) ∧ ∀ G30, G30 = mj_pR G27 r1 8 v28 → (mj_k G30 r0 = 8) ∧ Rd_leave d r0 G30 (fun v33 G32 => mm_br (v33 = (nI 58)) ((mj_k G32 r0 = 8) ∧ Rd_readBody d r0 (nI 1) x2 x3 G32 (fun v36 G35 => (mj_k G35 r1 = 6) ∧ ∀ G38, G38 = mj_pR G35 r1 9 v36 → (mj_k G38 r0 = 8) ∧ Rd_leave d r0 G38 (fun v41 G40 => K G40))) (K G32)))) (mm_br ((mj_i G r1 0) = nI 43) ((mj_k G r0 = 8) ∧ Rd_readBody d r0 (nI 2) x2 x3 G (fun v44 G43 => (mj_k G43 r1 = 6) ∧ ∀ G46, G46 = mj_pR G43 r1 8 v44 → (mj_k G46 r0 = 8) ∧ Rd_leave d r0 G46 (fun v49 G48 => (mj_k G48 r0 = 8) ∧ Rd_readBody d r0 (nI 1) x2 x3 G48 (fun v52 G51 => (mj_k G51 r1 = 6) ∧ ∀ G54, G54 = mj_pR G51 r1 9 v52 → (mj_k G54 r0 = 8) ∧ Rd_leave d r0 G54 (fun v57 G56 => K G56))))) (mm_br ((mj_i G r1 0) = nI 63) ((mj_k G r0 = 8) ∧ Rd_readBody d r0 (nI 3) x2 x3 G (fun v60 G59 => (mj_k G59 r1 = 6) ∧ ∀ G62, G62 = mj_pR G59 r1 8 v60 → (mj_k G62 r0 = 8) ∧ Rd_leave d r0 G62 (fun v65 G64 => mm_br (v65 = (nI 58)) ((mj_k G64 r0 = 8) ∧ Rd_readBody d r0 (nI 1) x2 x3 G64 (fun v68 G67 => (mj_k G67 r1 = 6) ∧ ∀ G70, G70 = mj_pR G67 r1 9 v68 → (mj_k G70 r0 = 8) ∧ Rd_leave d r0 G70 (fun v73 G72 => K G72))) (K G64)))) (mm_br ((mj_i G r1 0) = nI 107) ((mj_k G r0 = 8) ∧ Rd_readBody d r0 (nI 1) x2 x3 G (fun v76 G75 => (mj_k G75 r1 = 6) ∧ ∀ G78, G78 = mj_pR G75 r1 8 v76 → (mj_k G78 r0 = 8) ∧ Rd_leave d r0 G78 (fun v81 G80 => K G80))) (K G)))))))) : Rd_readBodies (d + 1) r0 r1 x2 x3 G K := by
  obtain ⟨c1, h⟩ := h
  refine mk_7015_0 c1 rfl (fun q => ?_) (fun q => ?_) (fun q => ?_) (fun q => ?_) (fun q => ?_) (fun q => ?_) (fun q => ?_) (fun n1 n2 n3 n4 n5 n6 n7 => ?_)
  · replace h := h.1 q
    refine mk_7015_146 ?_
    obtain ⟨c2, h⟩ := h
    refine mc_7015_151 c2 h (fun v4 G3 e => ?_)
    obtain ⟨hSG3, h⟩ := e
    obtain ⟨c5, h⟩ := h
    replace h := h _ rfl
    refine mk_7015_154 c5 rfl ?_
    obtain ⟨c7, h⟩ := h
    refine mc_7015_158 c7 h (fun v9 G8 e => ?_)
    obtain ⟨hSG8, h⟩ := e
    refine mk_7015_161 ?_
    refine mk_7015_165 ⟨rfl, hSG8, h⟩
  · replace h := (h.2 (fun e => absurd (e.symm.trans q) (by decide))).1 q
    refine mk_7015_146 ?_
    obtain ⟨c10, h⟩ := h
    refine mc_7015_151 c10 h (fun v12 G11 e => ?_)
    obtain ⟨hSG11, h⟩ := e
    obtain ⟨c13, h⟩ := h
    replace h := h _ rfl
    refine mk_7015_154 c13 rfl ?_
    obtain ⟨c15, h⟩ := h
    refine mc_7015_158 c15 h (fun v17 G16 e => ?_)
    obtain ⟨hSG16, h⟩ := e
    refine mk_7015_161 ?_
    refine mk_7015_165 ⟨rfl, hSG16, h⟩
  · replace h := ((h.2 (fun e => absurd (e.symm.trans q) (by decide))).2 (fun e => absurd (e.symm.trans q) (by decide))).1 q
    refine mk_7015_146 ?_
    obtain ⟨c18, h⟩ := h
    refine mc_7015_151 c18 h (fun v20 G19 e => ?_)
    obtain ⟨hSG19, h⟩ := e
    obtain ⟨c21, h⟩ := h
    replace h := h _ rfl
    refine mk_7015_154 c21 rfl ?_
    obtain ⟨c23, h⟩ := h
    refine mc_7015_158 c23 h (fun v25 G24 e => ?_)
    obtain ⟨hSG24, h⟩ := e
    refine mk_7015_161 ?_
    refine mk_7015_165 ⟨rfl, hSG24, h⟩
  · replace h := (((h.2 (fun e => absurd (e.symm.trans q) (by decide))).2 (fun e => absurd (e.symm.trans q) (by decide))).2 (fun e => absurd (e.symm.trans q) (by decide))).1 q
    refine mk_7015_72 ?_
    obtain ⟨c26, h⟩ := h
    refine mc_7015_77 c26 h (fun v28 G27 e => ?_)
    obtain ⟨hSG27, h⟩ := e
    obtain ⟨c29, h⟩ := h
    replace h := h _ rfl
    refine mk_7015_80 c29 rfl ?_
    obtain ⟨c31, h⟩ := h
    refine mc_7015_84 c31 h (fun v33 G32 e => ?_)
    obtain ⟨hSG32, h⟩ := e
    refine mk_7015_87 (fun q => ?_) (fun q => ?_)
    · replace h := h.2 q
      refine mk_7015_165 ⟨rfl, hSG32, h⟩
    · replace h := h.1 q
      refine mk_7015_92 ?_
      obtain ⟨c34, h⟩ := h
      refine mc_7015_97 c34 h (fun v36 G35 e => ?_)
      obtain ⟨hSG35, h⟩ := e
      obtain ⟨c37, h⟩ := h
      replace h := h _ rfl
      refine mk_7015_100 c37 rfl ?_
      obtain ⟨c39, h⟩ := h
      refine mc_7015_104 c39 h (fun v41 G40 e => ?_)
      obtain ⟨hSG40, h⟩ := e
      refine mk_7015_107 ?_
      refine mk_7015_165 ⟨rfl, hSG40, h⟩
  · replace h := ((((h.2 (fun e => absurd (e.symm.trans q) (by decide))).2 (fun e => absurd (e.symm.trans q) (by decide))).2 (fun e => absurd (e.symm.trans q) (by decide))).2 (fun e => absurd (e.symm.trans q) (by decide))).1 q
    refine mk_7015_111 ?_
    obtain ⟨c42, h⟩ := h
    refine mc_7015_116 c42 h (fun v44 G43 e => ?_)
    obtain ⟨hSG43, h⟩ := e
    obtain ⟨c45, h⟩ := h
    replace h := h _ rfl
    refine mk_7015_119 c45 rfl ?_
    obtain ⟨c47, h⟩ := h
    refine mc_7015_123 c47 h (fun v49 G48 e => ?_)
    obtain ⟨hSG48, h⟩ := e
    refine mk_7015_126 ?_
    obtain ⟨c50, h⟩ := h
    refine mc_7015_132 c50 h (fun v52 G51 e => ?_)
    obtain ⟨hSG51, h⟩ := e
    obtain ⟨c53, h⟩ := h
    replace h := h _ rfl
    refine mk_7015_135 c53 rfl ?_
    obtain ⟨c55, h⟩ := h
    refine mc_7015_139 c55 h (fun v57 G56 e => ?_)
    obtain ⟨hSG56, h⟩ := e
    refine mk_7015_142 ?_
    refine mk_7015_165 ⟨rfl, hSG56, h⟩
  · replace h := (((((h.2 (fun e => absurd (e.symm.trans q) (by decide))).2 (fun e => absurd (e.symm.trans q) (by decide))).2 (fun e => absurd (e.symm.trans q) (by decide))).2 (fun e => absurd (e.symm.trans q) (by decide))).2 (fun e => absurd (e.symm.trans q) (by decide))).1 q
    refine mk_7015_72 ?_
    obtain ⟨c58, h⟩ := h
    refine mc_7015_77 c58 h (fun v60 G59 e => ?_)
    obtain ⟨hSG59, h⟩ := e
    obtain ⟨c61, h⟩ := h
    replace h := h _ rfl
    refine mk_7015_80 c61 rfl ?_
    obtain ⟨c63, h⟩ := h
    refine mc_7015_84 c63 h (fun v65 G64 e => ?_)
    obtain ⟨hSG64, h⟩ := e
    refine mk_7015_87 (fun q => ?_) (fun q => ?_)
    · replace h := h.2 q
      refine mk_7015_165 ⟨rfl, hSG64, h⟩
    · replace h := h.1 q
      refine mk_7015_92 ?_
      obtain ⟨c66, h⟩ := h
      refine mc_7015_97 c66 h (fun v68 G67 e => ?_)
      obtain ⟨hSG67, h⟩ := e
      obtain ⟨c69, h⟩ := h
      replace h := h _ rfl
      refine mk_7015_100 c69 rfl ?_
      obtain ⟨c71, h⟩ := h
      refine mc_7015_104 c71 h (fun v73 G72 e => ?_)
      obtain ⟨hSG72, h⟩ := e
      refine mk_7015_107 ?_
      refine mk_7015_165 ⟨rfl, hSG72, h⟩
  · replace h := ((((((h.2 (fun e => absurd (e.symm.trans q) (by decide))).2 (fun e => absurd (e.symm.trans q) (by decide))).2 (fun e => absurd (e.symm.trans q) (by decide))).2 (fun e => absurd (e.symm.trans q) (by decide))).2 (fun e => absurd (e.symm.trans q) (by decide))).2 (fun e => absurd (e.symm.trans q) (by decide))).1 q
    refine mk_7015_146 ?_
    obtain ⟨c74, h⟩ := h
    refine mc_7015_151 c74 h (fun v76 G75 e => ?_)
    obtain ⟨hSG75, h⟩ := e
    obtain ⟨c77, h⟩ := h
    replace h := h _ rfl
    refine mk_7015_154 c77 rfl ?_
    obtain ⟨c79, h⟩ := h
    refine mc_7015_158 c79 h (fun v81 G80 e => ?_)
    obtain ⟨hSG80, h⟩ := e
    refine mk_7015_161 ?_
    refine mk_7015_165 ⟨rfl, hSG80, h⟩
  · replace h := (((((((h.2 n1).2 n2).2 n3).2 n4).2 n5).2 n6).2 n7)
    refine mk_7015_165 ⟨rfl, hS, h⟩
/-! 7016: leave ()C -/
theorem w_Rd_leave {G : mj_G} (hS : cs_S G) {d : Nat} {r0 : Nat} {K : Int32 → mj_G → Prop}
    (h : (mj_k G r0 = 8) ∧ Rd_failed d r0 G (fun v3 G2 => mm_br (v3 = true) (K (nI 0) G2) ((mj_k G2 r0 = 8) ∧ Rd_sign d r0 ((mj_i G2 r0 4) + (nI 1)) G2 (fun v6 G5 => (mj_k G5 r0 = 8) ∧ ∀ G8, G8 = mj_pI G5 r0 4 ((mj_i G5 r0 4) + (nI 2)) → Rd_pass d r0 (nI 125) G8 (fun G9 => (mj_c v6) ∧ K v6 G9))))) : Rd_leave (d + 1) r0 G K := by
  refine mk_7016_0 ?_
  obtain ⟨c1, h⟩ := h
  refine mc_7016_1 c1 (cc_z h) (fun v0 G2 e => ?_)
  obtain ⟨v3, rfl, hSG2, h⟩ := e
  refine mk_7016_4 (fun q => ?_) (fun q => ?_)
  · replace h := h.2 (bI_z q)
    obtain ⟨c4, h⟩ := h
    refine mk_7016_9 c4 rfl ?_
    refine mc_7016_16 c4 h (fun v6 G5 e => ?_)
    obtain ⟨hSG5, h⟩ := e
    obtain ⟨c7, h⟩ := h
    replace h := h _ rfl
    refine mk_7016_19 c7 rfl c7 rfl ?_
    refine mc_7016_33 c7 h (fun G9 e => ?_)
    obtain ⟨hSG9, h⟩ := e
    obtain ⟨c10, h⟩ := h
    refine mk_7016_36 c10 ⟨_, rfl, hSG9, h⟩
  · replace h := h.1 (bI_n q)
    refine mk_7016_7 (by unfold mj_c; decide) ⟨_, rfl, hSG2, h⟩
/-! 7017: readParameters (LTemplateQuarry$Node;)V -/
set_option maxRecDepth 100000 in
theorem w_Rd_readParameters {G : mj_G} (hS : cs_S G) {d : Nat} {r0 : Nat} {r1 : Nat} {K : mj_G → Prop}
    (h : Rd_readParameters_7 (d + 1) r0 r1 (nI 0) 0 (nI 0) G K) : Rd_readParameters (d + 1) r0 r1 G K := by
  refine mk_7017_0 ?_
  exact h
set_option maxRecDepth 100000 in
theorem w_Rd_readParameters_7 {G : mj_G} (hS : cs_S G) {d : Nat} (hd : 15 ≤ d) {r0 : Nat} {r1 : Nat} {x2 : Int32} {r3 : Nat} {x4 : Int32} {K : mj_G → Prop}
    (h : mm_br ((nI 3) ≤ x4) (K G) ((mj_k G r0 = 8) ∧ Rd_failed d r0 G (fun v3 G2 => mm_br (v3 = true) (K G2) ((mj_k G2 r0 = 8) ∧ Rd_sign d r0 (mj_i G2 r0 4) G2 (fun v6 G5 => mm_br (qb (q_12029 v6) = true) ((mj_k G5 r0 = 8) ∧ Rd_sign d r0 (mj_i G5 r0 4) G5 (fun v9 G8 => mm_br (((mm_shr x2 (v9 - (nI 97))) &&& (nI 1)) = (nI 0)) (∀ G10, G10 = mj_al G8 6 11 (fun _ => 0) → (mj_k G10 r0 = 8) ∧ Nd_init d (mj_n G8) (nI 2) (mj_i G10 r0 2) (mj_i G10 r0 4) G10 (fun G12 => (mj_k G12 (mj_n G8) = 6) ∧ ∀ G14, G14 = mj_pI G12 (mj_n G8) 4 (v9 - (nI 97)) → (mj_k G14 r0 = 8) ∧ ∀ G16, G16 = mj_pI G14 r0 4 ((mj_i G14 r0 4) + (nI 1)) → Rd_sign d r0 (mj_i G16 r0 4) G16 (fun v18 G17 => mm_br (v18 = (nI 61)) ((mj_k G17 r0 = 8) ∧ ∀ G24, G24 = mj_pI G17 r0 4 ((mj_i G17 r0 4) + (nI 1)) → Rd_readPrimary d r0 (nI 0) G24 (fun v26 G25 => (mj_k G25 (mj_n G8) = 6) ∧ ∀ G28, G28 = mj_pR G25 (mj_n G8) 6 v26 → mm_br (r3 = 0) ((mj_k G28 r1 = 6) ∧ ∀ G32, G32 = mj_pR G28 r1 7 (mj_n G8) → Rd_readParameters_7 (d + 1) r0 r1 (x2 ||| (mm_shl (nI 1) (v9 - (nI 97)))) (mj_n G8) (x4 + nI 1) G32 K) ((mj_k G28 r3 = 6) ∧ ∀ G30, G30 = mj_pR G28 r3 10 (mj_n G8) → Rd_readParameters_7 (d + 1) r0 r1 (x2 ||| (mm_shl (nI 1) (v9 - (nI 97)))) (mj_n G8) (x4 + nI 1) G30 K))) (mm_br (r3 = 0) ((mj_k G17 r1 = 6) ∧ ∀ G22, G22 = mj_pR G17 r1 7 (mj_n G8) → Rd_readParameters_7 (d + 1) r0 r1 (x2 ||| (mm_shl (nI 1) (v9 - (nI 97)))) (mj_n G8) (x4 + nI 1) G22 K) ((mj_k G17 r3 = 6) ∧ ∀ G20, G20 = mj_pR G17 r3 10 (mj_n G8) → Rd_readParameters_7 (d + 1) r0 r1 (x2 ||| (mm_shl (nI 1) (v9 - (nI 97)))) (mj_n G8) (x4 + nI 1) G20 K))))) ((mj_k G8 r0 = 8) ∧ Rd_reject d r0 G8 (fun G34 => K G34)))) (K G5)))))) : Rd_readParameters_7 (d + 1) r0 r1 x2 r3 x4 G K := by
  obtain ⟨e, rfl⟩ : ∃ e, d = e + 15 := ⟨d - 15, (Nat.sub_add_cancel hd).symm⟩
  refine mk_7017_7 (fun q => ?_) (fun q => ?_)
  · replace h := h.1 q
    refine mk_7017_164 ⟨rfl, hS, h⟩
  · replace h := h.2 q
    refine mk_7017_13 ?_
    obtain ⟨c1, h⟩ := h
    refine mc_7017_14 c1 (cc_z h) (fun v0 G2 e => ?_)
    obtain ⟨v3, rfl, hSG2, h⟩ := e
    refine mk_7017_17 (fun q => ?_) (fun q => ?_)
    · replace h := h.1 (bI_n q)
      refine mk_7017_164 ⟨rfl, hSG2, h⟩
    · replace h := h.2 (bI_z q)
      obtain ⟨c4, h⟩ := h
      refine mk_7017_20 c4 rfl ?_
      refine mc_7017_25 c4 h (fun v6 G5 e => ?_)
      obtain ⟨hSG5, h⟩ := e
      refine mc_7017_28 (q_bc (q_12029_c _ _) (q_12029_b _)) (fun v G1 e => ?_)
      obtain ⟨rfl, rfl⟩ := e
      refine mk_7017_31 (fun q => ?_) (fun q => ?_)
      · replace h := h.2 (bI_z q)
        refine mk_7017_164 ⟨rfl, hSG5, h⟩
      · replace h := h.1 (bI_n q)
        obtain ⟨c7, h⟩ := h
        refine mk_7017_34 c7 rfl ?_
        refine mc_7017_39 c7 h (fun v9 G8 e => ?_)
        obtain ⟨hSG8, h⟩ := e
        refine mk_7017_42 rfl (fun q => ?_) (fun q => ?_)
        · replace h := h.1 q
          replace h := h _ rfl
          obtain ⟨c11, h⟩ := h
          refine mk_7017_61 rfl rfl c11 rfl c11 rfl ?_
          refine mc_7017_81 mj_k_al h (fun G12 e => ?_)
          obtain ⟨hSG12, h⟩ := e
          obtain ⟨c13, h⟩ := h
          replace h := h _ rfl
          obtain ⟨c15, h⟩ := h
          replace h := h _ rfl
          refine mk_7017_84 c13 rfl c15 rfl c15 rfl c15 rfl ?_
          refine mc_7017_108 c15 h (fun v18 G17 e => ?_)
          obtain ⟨hSG17, h⟩ := e
          refine mk_7017_111 (fun q => ?_) (fun q => ?_)
          · replace h := h.2 q
            refine mk_7017_136 (fun q => ?_) (fun q => ?_)
            · replace h := h.2 q
              obtain ⟨c19, h⟩ := h
              replace h := h _ rfl
              refine mk_7017_149 c19 rfl ?_
              refine mk_7017_155 ?_
              exact h
            · replace h := h.1 q
              obtain ⟨c21, h⟩ := h
              replace h := h _ rfl
              refine mk_7017_140 c21 rfl ?_
              refine mk_7017_155 ?_
              exact h
          · replace h := h.1 q
            obtain ⟨c23, h⟩ := h
            replace h := h _ rfl
            refine mk_7017_116 c23 rfl c23 rfl ?_
            refine mc_7017_130 c23 h (fun v26 G25 e => ?_)
            obtain ⟨hSG25, h⟩ := e
            obtain ⟨c27, h⟩ := h
            replace h := h _ rfl
            refine mk_7017_133 c27 rfl ?_
            refine mk_7017_136 (fun q => ?_) (fun q => ?_)
            · replace h := h.2 q
              obtain ⟨c29, h⟩ := h
              replace h := h _ rfl
              refine mk_7017_149 c29 rfl ?_
              refine mk_7017_155 ?_
              exact h
            · replace h := h.1 q
              obtain ⟨c31, h⟩ := h
              replace h := h _ rfl
              refine mk_7017_140 c31 rfl ?_
              refine mk_7017_155 ?_
              exact h
        · replace h := h.2 q
          refine mk_7017_56 ?_
          obtain ⟨c33, h⟩ := h
          refine mc_7017_57 c33 h (fun G34 e => ?_)
          obtain ⟨hSG34, h⟩ := e
          refine mk_7017_60 ⟨rfl, hSG34, h⟩
/-! 7018: readArguments (LTemplateQuarry$Node;)V -/
set_option maxRecDepth 100000 in
theorem w_Rd_readArguments {G : mj_G} (hS : cs_S G) {d : Nat} {r0 : Nat} {r1 : Nat} {K : mj_G → Prop}
    (h : (mj_k G r0 = 8) ∧ Rd_failed d r0 G (fun v3 G2 => mm_br (v3 = true) (K G2) ((mj_k G2 r0 = 8) ∧ Rd_sign d r0 (mj_i G2 r0 4) G2 (fun v6 G5 => mm_br (v6 = (nI 125)) (K G5) (Rd_readArguments_25 (d + 1) r0 r1 0 (nI 0) G5 K))))) : Rd_readArguments (d + 1) r0 r1 G K := by
  refine mk_7018_0 ?_
  obtain ⟨c1, h⟩ := h
  refine mc_7018_1 c1 (cc_z h) (fun v0 G2 e => ?_)
  obtain ⟨v3, rfl, hSG2, h⟩ := e
  refine mk_7018_4 (fun q => ?_) (fun q => ?_)
  · replace h := h.1 (bI_n q)
    refine mk_7018_20 ⟨rfl, hSG2, h⟩
  · replace h := h.2 (bI_z q)
    obtain ⟨c4, h⟩ := h
    refine mk_7018_7 c4 rfl ?_
    refine mc_7018_12 c4 h (fun v6 G5 e => ?_)
    obtain ⟨hSG5, h⟩ := e
    refine mk_7018_15 (fun q => ?_) (fun q => ?_)
    · replace h := h.2 q
      refine mk_7018_21 ?_
      exact h
    · replace h := h.1 q
      refine mk_7018_20 ⟨rfl, hSG5, h⟩
set_option maxRecDepth 100000 in
theorem w_Rd_readArguments_25 {G : mj_G} (hS : cs_S G) {d : Nat} (hd : 15 ≤ d) {r0 : Nat} {r1 : Nat} {r2 : Nat} {x3 : Int32} {K : mj_G → Prop}
    (h : mm_br ((nI 3) ≤ x3) (K G) ((mj_k G r0 = 8) ∧ Rd_failed d r0 G (fun v9 G8 => mm_br (v9 = true) (K G8) (∀ G10, G10 = mj_al G8 6 11 (fun _ => 0) → (mj_k G10 r0 = 8) ∧ Nd_init d (mj_n G8) (nI 2) (mj_i G10 r0 2) (mj_i G10 r0 4) G10 (fun G12 => (mj_k G12 r0 = 8) ∧ Rd_sign d r0 (mj_i G12 r0 4) G12 (fun v15 G14 => mm_br (qb (q_12029 v15) = true) ((mj_k G14 r0 = 8) ∧ Rd_sign d r0 ((mj_i G14 r0 4) + (nI 1)) G14 (fun v18 G17 => mm_br (v18 = (nI 58)) ((mj_k G17 r0 = 8) ∧ Rd_sign d r0 (mj_i G17 r0 4) G17 (fun v21 G20 => (mj_k G20 (mj_n G8) = 6) ∧ ∀ G23, G23 = mj_pI G20 (mj_n G8) 4 (v21 - (nI 97)) → (mj_k G23 r0 = 8) ∧ ∀ G25, G25 = mj_pI G23 r0 4 ((mj_i G23 r0 4) + (nI 2)) → Rd_readArguments_110 (d + 1) r0 r1 r2 x3 (mj_n G8) G25 K)) (Rd_readArguments_110 (d + 1) r0 r1 r2 x3 (mj_n G8) G17 K))) (Rd_readArguments_110 (d + 1) r0 r1 r2 x3 (mj_n G8) G14 K))))))) : Rd_readArguments_25 (d + 1) r0 r1 r2 x3 G K := by
  obtain ⟨e, rfl⟩ : ∃ e, d = e + 15 := ⟨d - 15, (Nat.sub_add_cancel hd).symm⟩
  refine mk_7018_25 (fun q => ?_) (fun q => ?_)
  · replace h := h.1 q
    refine mk_7018_177 ⟨rfl, hS, h⟩
  · replace h := h.2 q
    refine mk_7018_30 ?_
    obtain ⟨c7, h⟩ := h
    refine mc_7018_31 c7 (cc_z h) (fun v0 G8 e => ?_)
    obtain ⟨v9, rfl, hSG8, h⟩ := e
    refine mk_7018_34 (fun q => ?_) (fun q => ?_)
    · replace h := h.1 (bI_n q)
      refine mk_7018_177 ⟨rfl, hSG8, h⟩
    · replace h := h.2 (bI_z q)
      replace h := h _ rfl
      obtain ⟨c11, h⟩ := h
      refine mk_7018_37 rfl rfl c11 rfl c11 rfl ?_
      refine mc_7018_50 mj_k_al h (fun G12 e => ?_)
      obtain ⟨hSG12, h⟩ := e
      obtain ⟨c13, h⟩ := h
      refine mk_7018_53 c13 rfl ?_
      refine mc_7018_60 c13 h (fun v15 G14 e => ?_)
      obtain ⟨hSG14, h⟩ := e
      refine mc_7018_63 (q_bc (q_12029_c _ _) (q_12029_b _)) (fun v G1 e => ?_)
      obtain ⟨rfl, rfl⟩ := e
      refine mk_7018_66 (fun q => ?_) (fun q => ?_)
      · replace h := h.2 (bI_z q)
        exact h
      · replace h := h.1 (bI_n q)
        obtain ⟨c16, h⟩ := h
        refine mk_7018_69 c16 rfl ?_
        refine mc_7018_76 c16 h (fun v18 G17 e => ?_)
        obtain ⟨hSG17, h⟩ := e
        refine mk_7018_79 (fun q => ?_) (fun q => ?_)
        · replace h := h.2 q
          exact h
        · replace h := h.1 q
          obtain ⟨c19, h⟩ := h
          refine mk_7018_84 c19 rfl ?_
          refine mc_7018_91 c19 h (fun v21 G20 e => ?_)
          obtain ⟨hSG20, h⟩ := e
          obtain ⟨c22, h⟩ := h
          replace h := h _ rfl
          obtain ⟨c24, h⟩ := h
          replace h := h _ rfl
          refine mk_7018_94 c22 rfl c24 rfl c24 rfl ?_
          exact h
set_option maxRecDepth 100000 in
theorem w_Rd_readArguments_110 {G : mj_G} (hS : cs_S G) {d : Nat} {r0 : Nat} {r1 : Nat} {r2 : Nat} {x3 : Int32} {r4 : Nat} {K : mj_G → Prop}
    (h : (mj_k G r0 = 8) ∧ Rd_readExpression d r0 (nI 0) G (fun v28 G27 => (mj_k G27 r4 = 6) ∧ ∀ G30, G30 = mj_pR G27 r4 6 v28 → mm_br (r2 = 0) ((mj_k G30 r1 = 6) ∧ ∀ G39, G39 = mj_pR G30 r1 7 r4 → (mj_k G39 r0 = 8) ∧ Rd_sign d r0 (mj_i G39 r0 4) G39 (fun v42 G41 => mm_br (v42 = (nI 44)) (mm_br (x3 = (nI 2)) (K G41) ((mj_k G41 r0 = 8) ∧ ∀ G44, G44 = mj_pI G41 r0 4 ((mj_i G41 r0 4) + (nI 1)) → Rd_readArguments_25 (d + 1) r0 r1 r4 (x3 + nI 1) G44 K)) (K G41))) ((mj_k G30 r2 = 6) ∧ ∀ G32, G32 = mj_pR G30 r2 10 r4 → (mj_k G32 r0 = 8) ∧ Rd_sign d r0 (mj_i G32 r0 4) G32 (fun v35 G34 => mm_br (v35 = (nI 44)) (mm_br (x3 = (nI 2)) (K G34) ((mj_k G34 r0 = 8) ∧ ∀ G37, G37 = mj_pI G34 r0 4 ((mj_i G34 r0 4) + (nI 1)) → Rd_readArguments_25 (d + 1) r0 r1 r4 (x3 + nI 1) G37 K)) (K G34))))) : Rd_readArguments_110 (d + 1) r0 r1 r2 x3 r4 G K := by
  refine mk_7018_110 ?_
  obtain ⟨c26, h⟩ := h
  refine mc_7018_114 c26 h (fun v28 G27 e => ?_)
  obtain ⟨hSG27, h⟩ := e
  obtain ⟨c29, h⟩ := h
  replace h := h _ rfl
  refine mk_7018_117 c29 rfl (fun q => ?_) (fun q => ?_)
  · replace h := h.2 q
    obtain ⟨c31, h⟩ := h
    replace h := h _ rfl
    refine mk_7018_133 c31 rfl ?_
    obtain ⟨c33, h⟩ := h
    refine mk_7018_139 c33 rfl ?_
    refine mc_7018_147 c33 h (fun v35 G34 e => ?_)
    obtain ⟨hSG34, h⟩ := e
    refine mk_7018_150 (fun q => ?_) (fun q => ?_)
    · replace h := h.2 q
      refine mk_7018_160 ⟨rfl, hSG34, h⟩
    · replace h := h.1 q
      refine mk_7018_155 (fun q => ?_) (fun q => ?_)
      · replace h := h.2 q
        obtain ⟨c36, h⟩ := h
        replace h := h _ rfl
        refine mk_7018_161 c36 rfl c36 rfl ?_
        exact h
      · replace h := h.1 q
        refine mk_7018_160 ⟨rfl, hSG34, h⟩
  · replace h := h.1 q
    obtain ⟨c38, h⟩ := h
    replace h := h _ rfl
    refine mk_7018_124 c38 rfl ?_
    obtain ⟨c40, h⟩ := h
    refine mk_7018_139 c40 rfl ?_
    refine mc_7018_147 c40 h (fun v42 G41 e => ?_)
    obtain ⟨hSG41, h⟩ := e
    refine mk_7018_150 (fun q => ?_) (fun q => ?_)
    · replace h := h.2 q
      refine mk_7018_160 ⟨rfl, hSG41, h⟩
    · replace h := h.1 q
      refine mk_7018_155 (fun q => ?_) (fun q => ?_)
      · replace h := h.2 q
        obtain ⟨c43, h⟩ := h
        replace h := h _ rfl
        refine mk_7018_161 c43 rfl c43 rfl ?_
        exact h
      · replace h := h.1 q
        refine mk_7018_160 ⟨rfl, hSG41, h⟩
/-! 7019: readExpression (I)LTemplateQuarry$Expression; -/
set_option maxRecDepth 100000 in
theorem w_Rd_readExpression {G : mj_G} (hS : cs_S G) {d : Nat} {r0 : Nat} {x1 : Int32} {K : Nat → mj_G → Prop}
    (h : (mj_k G r0 = 8) ∧ Rd_readPrimary d r0 x1 G (fun v3 G2 => Rd_readExpression_8 (d + 1) r0 x1 v3 (nI 0) G2 K)) : Rd_readExpression (d + 1) r0 x1 G K := by
  refine mk_7019_0 ?_
  obtain ⟨c1, h⟩ := h
  refine mc_7019_2 c1 h (fun v3 G2 e => ?_)
  obtain ⟨hSG2, h⟩ := e
  refine mk_7019_5 ?_
  exact h
set_option maxRecDepth 100000 in
theorem w_Rd_readExpression_8 {G : mj_G} (hS : cs_S G) {d : Nat} {r0 : Nat} {x1 : Int32} {r2 : Nat} {x3 : Int32} {K : Nat → mj_G → Prop}
    (h : (mj_k G r0 = 8) ∧ mm_br ((mj_i G r0 1) ≤ x3) (K r2 G) (Rd_failed d r0 G (fun v6 G5 => mm_br (v6 = true) (K r2 G5) ((mj_k G5 r0 = 8) ∧ Rd_sign d r0 (mj_i G5 r0 4) G5 (fun v9 G8 => mm_br (v9 = (nI 124)) ((mj_k G8 r0 = 8) ∧ ∀ G11, G11 = mj_pI G8 r0 4 ((mj_i G8 r0 4) + (nI 1)) → Rd_sign d r0 (mj_i G11 r0 4) G11 (fun v13 G12 => ∀ G14, G14 = mj_al G12 1 6 (fun _ => 0) → Ex_init d (mj_n G12) v13 G14 (fun G15 => (mj_k G15 (mj_n G12) = 1) ∧ ∀ G17, G17 = mj_pR G15 (mj_n G12) 4 r2 → mm_br (v13 = (nI 117)) ((mj_k G17 r0 = 8) ∧ ∀ G19, G19 = mj_pI G17 r0 4 ((mj_i G17 r0 4) + (nI 1)) → mm_br (v13 = (nI 100)) (Rd_readPrimary d r0 x1 G19 (fun v21 G20 => (mj_k G20 (mj_n G12) = 1) ∧ ∀ G23, G23 = mj_pR G20 (mj_n G12) 5 v21 → Rd_readExpression_8 (d + 1) r0 x1 (mj_n G12) (x3 + nI 1) G23 K)) (Rd_readExpression_8 (d + 1) r0 x1 (mj_n G12) (x3 + nI 1) G19 K)) (mm_br (v13 = (nI 108)) ((mj_k G17 r0 = 8) ∧ ∀ G25, G25 = mj_pI G17 r0 4 ((mj_i G17 r0 4) + (nI 1)) → mm_br (v13 = (nI 100)) (Rd_readPrimary d r0 x1 G25 (fun v27 G26 => (mj_k G26 (mj_n G12) = 1) ∧ ∀ G29, G29 = mj_pR G26 (mj_n G12) 5 v27 → Rd_readExpression_8 (d + 1) r0 x1 (mj_n G12) (x3 + nI 1) G29 K)) (Rd_readExpression_8 (d + 1) r0 x1 (mj_n G12) (x3 + nI 1) G25 K)) (mm_br (v13 = (nI 114)) ((mj_k G17 r0 = 8) ∧ ∀ G31, G31 = mj_pI G17 r0 4 ((mj_i G17 r0 4) + (nI 1)) → mm_br (v13 = (nI 100)) (Rd_readPrimary d r0 x1 G31 (fun v33 G32 => (mj_k G32 (mj_n G12) = 1) ∧ ∀ G35, G35 = mj_pR G32 (mj_n G12) 5 v33 → Rd_readExpression_8 (d + 1) r0 x1 (mj_n G12) (x3 + nI 1) G35 K)) (Rd_readExpression_8 (d + 1) r0 x1 (mj_n G12) (x3 + nI 1) G31 K)) (mm_br (v13 = (nI 106)) ((mj_k G17 r0 = 8) ∧ ∀ G37, G37 = mj_pI G17 r0 4 ((mj_i G17 r0 4) + (nI 1)) → mm_br (v13 = (nI 100)) (Rd_readPrimary d r0 x1 G37 (fun v39 G38 => (mj_k G38 (mj_n G12) = 1) ∧ ∀ G41, G41 = mj_pR G38 (mj_n G12) 5 v39 → Rd_readExpression_8 (d + 1) r0 x1 (mj_n G12) (x3 + nI 1) G41 K)) (Rd_readExpression_8 (d + 1) r0 x1 (mj_n G12) (x3 + nI 1) G37 K)) (mm_br (v13 = (nI 110)) ((mj_k G17 r0 = 8) ∧ ∀ G43, G43 = mj_pI G17 r0 4 ((mj_i G17 r0 4) + (nI 1)) → mm_br (v13 = (nI 100)) (Rd_readPrimary d r0 x1 G43 (fun v45 G44 => (mj_k G44 (mj_n G12) = 1) ∧ ∀ G47, G47 = mj_pR G44 (mj_n G12) 5 v45 → Rd_readExpression_8 (d + 1) r0 x1 (mj_n G12) (x3 + nI 1) G47 K)) (Rd_readExpression_8 (d + 1) r0 x1 (mj_n G12) (x3 + nI 1) G43 K)) (mm_br (v13 = (nI 100)) ((mj_k G17 r0 = 8) ∧ ∀ G49, G49 = mj_pI G17 r0 4 ((mj_i G17 r0 4) + (nI 1)) → mm_br (v13 = (nI 100)) (Rd_readPrimary d r0 x1 G49 (fun v51 G50 => (mj_k G50 (mj_n G12) = 1) ∧ ∀ G53, G53 = mj_pR G50 (mj_n G12) 5 v51 → Rd_readExpression_8 (d + 1) r0 x1 (mj_n G12) (x3 + nI 1) G53 K)) (Rd_readExpression_8 (d + 1) r0 x1 (mj_n G12) (x3 + nI 1) G49 K)) ((mj_k G17 r0 = 8) ∧ Rd_reject d r0 G17 (fun G55 => K r2 G55)))))))))) (K r2 G8)))))) : Rd_readExpression_8 (d + 1) r0 x1 r2 x3 G K := by
  obtain ⟨c4, h⟩ := h
  refine mk_7019_8 c4 rfl (fun q => ?_) (fun q => ?_)
  · replace h := h.1 q
    refine mk_7019_157 ⟨_, rfl, hS, h⟩
  · replace h := h.2 q
    refine mk_7019_16 ?_
    refine mc_7019_17 c4 (cc_z h) (fun v0 G5 e => ?_)
    obtain ⟨v6, rfl, hSG5, h⟩ := e
    refine mk_7019_20 (fun q => ?_) (fun q => ?_)
    · replace h := h.1 (bI_n q)
      refine mk_7019_157 ⟨_, rfl, hSG5, h⟩
    · replace h := h.2 (bI_z q)
      obtain ⟨c7, h⟩ := h
      refine mk_7019_23 c7 rfl ?_
      refine mc_7019_28 c7 h (fun v9 G8 e => ?_)
      obtain ⟨hSG8, h⟩ := e
      refine mk_7019_31 (fun q => ?_) (fun q => ?_)
      · replace h := h.2 q
        refine mk_7019_157 ⟨_, rfl, hSG8, h⟩
      · replace h := h.1 q
        obtain ⟨c10, h⟩ := h
        replace h := h _ rfl
        refine mk_7019_36 c10 rfl c10 rfl c10 rfl ?_
        refine mc_7019_51 c10 h (fun v13 G12 e => ?_)
        obtain ⟨hSG12, h⟩ := e
        replace h := h _ rfl
        refine mk_7019_54 rfl rfl ?_
        refine mc_7019_62 mj_k_al h (fun G15 e => ?_)
        obtain ⟨hSG15, h⟩ := e
        obtain ⟨c16, h⟩ := h
        replace h := h _ rfl
        refine mk_7019_65 c16 rfl (fun q => ?_) (fun q => ?_)
        · replace h := h.1 q
          obtain ⟨c18, h⟩ := h
          replace h := h _ rfl
          refine mk_7019_121 c18 rfl c18 rfl (fun q => ?_) (fun q => ?_)
          · replace h := h.2 q
            refine mk_7019_148 ?_
            exact h
          · replace h := h.1 q
            refine mk_7019_138 ?_
            refine mc_7019_142 c18 h (fun v21 G20 e => ?_)
            obtain ⟨hSG20, h⟩ := e
            obtain ⟨c22, h⟩ := h
            replace h := h _ rfl
            refine mk_7019_145 c22 rfl ?_
            refine mk_7019_148 ?_
            exact h
        · replace h := h.2 q
          refine mk_7019_80 (fun q => ?_) (fun q => ?_)
          · replace h := h.1 q
            obtain ⟨c24, h⟩ := h
            replace h := h _ rfl
            refine mk_7019_121 c24 rfl c24 rfl (fun q => ?_) (fun q => ?_)
            · replace h := h.2 q
              refine mk_7019_148 ?_
              exact h
            · replace h := h.1 q
              refine mk_7019_138 ?_
              refine mc_7019_142 c24 h (fun v27 G26 e => ?_)
              obtain ⟨hSG26, h⟩ := e
              obtain ⟨c28, h⟩ := h
              replace h := h _ rfl
              refine mk_7019_145 c28 rfl ?_
              refine mk_7019_148 ?_
              exact h
          · replace h := h.2 q
            refine mk_7019_87 (fun q => ?_) (fun q => ?_)
            · replace h := h.1 q
              obtain ⟨c30, h⟩ := h
              replace h := h _ rfl
              refine mk_7019_121 c30 rfl c30 rfl (fun q => ?_) (fun q => ?_)
              · replace h := h.2 q
                refine mk_7019_148 ?_
                exact h
              · replace h := h.1 q
                refine mk_7019_138 ?_
                refine mc_7019_142 c30 h (fun v33 G32 e => ?_)
                obtain ⟨hSG32, h⟩ := e
                obtain ⟨c34, h⟩ := h
                replace h := h _ rfl
                refine mk_7019_145 c34 rfl ?_
                refine mk_7019_148 ?_
                exact h
            · replace h := h.2 q
              refine mk_7019_94 (fun q => ?_) (fun q => ?_)
              · replace h := h.1 q
                obtain ⟨c36, h⟩ := h
                replace h := h _ rfl
                refine mk_7019_121 c36 rfl c36 rfl (fun q => ?_) (fun q => ?_)
                · replace h := h.2 q
                  refine mk_7019_148 ?_
                  exact h
                · replace h := h.1 q
                  refine mk_7019_138 ?_
                  refine mc_7019_142 c36 h (fun v39 G38 e => ?_)
                  obtain ⟨hSG38, h⟩ := e
                  obtain ⟨c40, h⟩ := h
                  replace h := h _ rfl
                  refine mk_7019_145 c40 rfl ?_
                  refine mk_7019_148 ?_
                  exact h
              · replace h := h.2 q
                refine mk_7019_101 (fun q => ?_) (fun q => ?_)
                · replace h := h.1 q
                  obtain ⟨c42, h⟩ := h
                  replace h := h _ rfl
                  refine mk_7019_121 c42 rfl c42 rfl (fun q => ?_) (fun q => ?_)
                  · replace h := h.2 q
                    refine mk_7019_148 ?_
                    exact h
                  · replace h := h.1 q
                    refine mk_7019_138 ?_
                    refine mc_7019_142 c42 h (fun v45 G44 e => ?_)
                    obtain ⟨hSG44, h⟩ := e
                    obtain ⟨c46, h⟩ := h
                    replace h := h _ rfl
                    refine mk_7019_145 c46 rfl ?_
                    refine mk_7019_148 ?_
                    exact h
                · replace h := h.2 q
                  refine mk_7019_108 (fun q => ?_) (fun q => ?_)
                  · replace h := h.1 q
                    obtain ⟨c48, h⟩ := h
                    replace h := h _ rfl
                    refine mk_7019_121 c48 rfl c48 rfl (fun q => ?_) (fun q => ?_)
                    · replace h := h.2 q
                      refine mk_7019_148 ?_
                      exact h
                    · replace h := h.1 q
                      refine mk_7019_138 ?_
                      refine mc_7019_142 c48 h (fun v51 G50 e => ?_)
                      obtain ⟨hSG50, h⟩ := e
                      obtain ⟨c52, h⟩ := h
                      replace h := h _ rfl
                      refine mk_7019_145 c52 rfl ?_
                      refine mk_7019_148 ?_
                      exact h
                  · replace h := h.2 q
                    refine mk_7019_115 ?_
                    obtain ⟨c54, h⟩ := h
                    refine mc_7019_116 c54 h (fun G55 e => ?_)
                    obtain ⟨hSG55, h⟩ := e
                    refine mk_7019_119 ⟨_, rfl, hSG55, h⟩
/-! 7020: readPrimary (I)LTemplateQuarry$Expression; -/
set_option maxRecDepth 100000 in
theorem w_Rd_readPrimary {G : mj_G} (hS : cs_S G) {d : Nat} (hd : 15 ≤ d) {r0 : Nat} {x1 : Int32} {K : Nat → mj_G → Prop}
    (h : (mj_k G r0 = 8) ∧ Rd_sign d r0 (mj_i G r0 4) G (fun v3 G2 => (mj_k G2 r0 = 8) ∧ Rd_failed d r0 G2 (fun v6 G5 => mm_br (v6 = true) ((mj_k G5 r0 = 8) ∧ Rd_reject d r0 G5 (fun G8 => K 0 G8)) (mm_br (x1 < (nI 90)) (mm_br (qb (q_12030 v3) = true) ((mj_k G5 r0 = 8) ∧ Rd_readNumeral d r0 G5 (fun v35 G34 => K v35 G34)) (mm_br (qb (q_12029 v3) = true) ((mj_k G5 r0 = 8) ∧ Rd_readVariable d r0 G5 (fun v32 G31 => K v32 G31)) (mm_br (v3 = (nI 39)) ((mj_k G5 r0 = 8) ∧ Rd_readQuote d r0 G5 (fun v29 G28 => K v29 G28)) (mm_br (v3 = (nI 33)) ((mj_k G5 r0 = 8) ∧ ∀ G10, G10 = mj_pI G5 r0 4 ((mj_i G5 r0 4) + (nI 1)) → Rd_readExpression d r0 (x1 + (nI 1)) G10 (fun v12 G11 => ∀ G13, G13 = mj_al G11 1 6 (fun _ => 0) → mm_br (v3 = (nI 33)) (Rd_readPrimary_117 (d + 1) r0 x1 v3 v12 (mj_n G11) (mj_n G11) v3 G13 K) ((mj_k G13 r0 = 8) ∧ Rd_readOperator d r0 G13 (fun v16 G15 => Rd_readPrimary_117 (d + 1) r0 x1 v3 v12 (mj_n G11) (mj_n G11) v16 G15 K)))) (mm_br (v3 = (nI 40)) ((mj_k G5 r0 = 8) ∧ ∀ G18, G18 = mj_pI G5 r0 4 ((mj_i G5 r0 4) + (nI 1)) → Rd_readExpression d r0 (x1 + (nI 1)) G18 (fun v20 G19 => ∀ G21, G21 = mj_al G19 1 6 (fun _ => 0) → mm_br (v3 = (nI 33)) (Rd_readPrimary_117 (d + 1) r0 x1 v3 v20 (mj_n G19) (mj_n G19) v3 G21 K) ((mj_k G21 r0 = 8) ∧ Rd_readOperator d r0 G21 (fun v24 G23 => Rd_readPrimary_117 (d + 1) r0 x1 v3 v20 (mj_n G19) (mj_n G19) v24 G23 K)))) ((mj_k G5 r0 = 8) ∧ Rd_reject d r0 G5 (fun G26 => K 0 G26))))))) ((mj_k G5 r0 = 8) ∧ Rd_reject d r0 G5 (fun G37 => K 0 G37)))))) : Rd_readPrimary (d + 1) r0 x1 G K := by
  obtain ⟨e, rfl⟩ : ∃ e, d = e + 15 := ⟨d - 15, (Nat.sub_add_cancel hd).symm⟩
  obtain ⟨c1, h⟩ := h
  refine mk_7020_0 c1 rfl ?_
  refine mc_7020_5 c1 h (fun v3 G2 e => ?_)
  obtain ⟨hSG2, h⟩ := e
  refine mk_7020_8 ?_
  obtain ⟨c4, h⟩ := h
  refine mc_7020_10 c4 (cc_z h) (fun v0 G5 e => ?_)
  obtain ⟨v6, rfl, hSG5, h⟩ := e
  refine mk_7020_13 (fun q => ?_) (fun q => ?_)
  · replace h := h.1 (bI_n q)
    refine mk_7020_22 ?_
    obtain ⟨c7, h⟩ := h
    refine mc_7020_23 c7 h (fun G8 e => ?_)
    obtain ⟨hSG8, h⟩ := e
    refine mk_7020_26 ⟨_, rfl, hSG8, h⟩
  · replace h := h.2 (bI_z q)
    refine mk_7020_16 (fun q => ?_) (fun q => ?_)
    · replace h := h.1 q
      refine mk_7020_28 ?_
      refine mc_7020_29 (q_bc (q_12030_c _ _) (q_12030_b _)) (fun v G1 e => ?_)
      obtain ⟨rfl, rfl⟩ := e
      refine mk_7020_32 (fun q => ?_) (fun q => ?_)
      · replace h := h.2 (bI_z q)
        refine mk_7020_40 ?_
        refine mc_7020_41 (q_bc (q_12029_c _ _) (q_12029_b _)) (fun v G1 e => ?_)
        obtain ⟨rfl, rfl⟩ := e
        refine mk_7020_44 (fun q => ?_) (fun q => ?_)
        · replace h := h.2 (bI_z q)
          refine mk_7020_52 (fun q => ?_) (fun q => ?_)
          · replace h := h.2 q
            refine mk_7020_63 (fun q => ?_) (fun q => ?_)
            · replace h := h.1 q
              obtain ⟨c9, h⟩ := h
              replace h := h _ rfl
              refine mk_7020_81 c9 rfl c9 rfl ?_
              refine mc_7020_95 c9 h (fun v12 G11 e => ?_)
              obtain ⟨hSG11, h⟩ := e
              replace h := h _ rfl
              refine mk_7020_98 rfl rfl (fun q => ?_) (fun q => ?_)
              · replace h := h.2 q
                refine mk_7020_113 ?_
                obtain ⟨c14, h⟩ := h
                refine mc_7020_114 c14 h (fun v16 G15 e => ?_)
                obtain ⟨hSG15, h⟩ := e
                exact h
              · replace h := h.1 q
                refine mk_7020_109 ?_
                exact h
            · replace h := h.2 q
              refine mk_7020_69 (fun q => ?_) (fun q => ?_)
              · replace h := h.1 q
                obtain ⟨c17, h⟩ := h
                replace h := h _ rfl
                refine mk_7020_81 c17 rfl c17 rfl ?_
                refine mc_7020_95 c17 h (fun v20 G19 e => ?_)
                obtain ⟨hSG19, h⟩ := e
                replace h := h _ rfl
                refine mk_7020_98 rfl rfl (fun q => ?_) (fun q => ?_)
                · replace h := h.2 q
                  refine mk_7020_113 ?_
                  obtain ⟨c22, h⟩ := h
                  refine mc_7020_114 c22 h (fun v24 G23 e => ?_)
                  obtain ⟨hSG23, h⟩ := e
                  exact h
                · replace h := h.1 q
                  refine mk_7020_109 ?_
                  exact h
              · replace h := h.2 q
                refine mk_7020_75 ?_
                obtain ⟨c25, h⟩ := h
                refine mc_7020_76 c25 h (fun G26 e => ?_)
                obtain ⟨hSG26, h⟩ := e
                refine mk_7020_79 ⟨_, rfl, hSG26, h⟩
          · replace h := h.1 q
            refine mk_7020_58 ?_
            obtain ⟨c27, h⟩ := h
            refine mc_7020_59 c27 h (fun v29 G28 e => ?_)
            obtain ⟨hSG28, h⟩ := e
            refine mk_7020_62 ⟨_, rfl, hSG28, h⟩
        · replace h := h.1 (bI_n q)
          refine mk_7020_47 ?_
          obtain ⟨c30, h⟩ := h
          refine mc_7020_48 c30 h (fun v32 G31 e => ?_)
          obtain ⟨hSG31, h⟩ := e
          refine mk_7020_51 ⟨_, rfl, hSG31, h⟩
      · replace h := h.1 (bI_n q)
        refine mk_7020_35 ?_
        obtain ⟨c33, h⟩ := h
        refine mc_7020_36 c33 h (fun v35 G34 e => ?_)
        obtain ⟨hSG34, h⟩ := e
        refine mk_7020_39 ⟨_, rfl, hSG34, h⟩
    · replace h := h.2 q
      refine mk_7020_22 ?_
      obtain ⟨c36, h⟩ := h
      refine mc_7020_23 c36 h (fun G37 e => ?_)
      obtain ⟨hSG37, h⟩ := e
      refine mk_7020_26 ⟨_, rfl, hSG37, h⟩
set_option maxRecDepth 100000 in
theorem w_Rd_readPrimary_117 {G : mj_G} (hS : cs_S G) {d : Nat} {r0 : Nat} {x1 : Int32} {x2 : Int32} {r3 : Nat} {t0 : Nat} {t1 : Nat} {s2 : Int32} {K : Nat → mj_G → Prop}
    (h : (mj_k G t1 = 1) ∧ Ex_init d t1 s2 G (fun G39 => (mj_k G39 t0 = 1) ∧ ∀ G41, G41 = mj_pR G39 t0 4 r3 → mm_br (x2 = (nI 40)) ((mj_k G41 r0 = 8) ∧ Rd_failed d r0 G41 (fun v44 G43 => mm_br (v44 = true) (K t0 G43) ((mj_k G43 r0 = 8) ∧ Rd_readExpression d r0 (x1 + (nI 1)) G43 (fun v47 G46 => (mj_k G46 t0 = 1) ∧ ∀ G49, G49 = mj_pR G46 t0 5 v47 → (mj_k G49 r0 = 8) ∧ Rd_pass d r0 (nI 41) G49 (fun G51 => K t0 G51))))) (K t0 G41))) : Rd_readPrimary_117 (d + 1) r0 x1 x2 r3 t0 t1 s2 G K := by
  obtain ⟨c38, h⟩ := h
  refine mc_7020_117 c38 h (fun G39 e => ?_)
  obtain ⟨hSG39, h⟩ := e
  obtain ⟨c40, h⟩ := h
  replace h := h _ rfl
  refine mk_7020_120 c40 rfl (fun q => ?_) (fun q => ?_)
  · replace h := h.2 q
    refine mk_7020_159 ⟨_, rfl, (cs_pR hSG39 c40 rfl), h⟩
  · replace h := h.1 q
    refine mk_7020_134 ?_
    obtain ⟨c42, h⟩ := h
    refine mc_7020_135 c42 (cc_z h) (fun v0 G43 e => ?_)
    obtain ⟨v44, rfl, hSG43, h⟩ := e
    refine mk_7020_138 (fun q => ?_) (fun q => ?_)
    · replace h := h.1 (bI_n q)
      refine mk_7020_159 ⟨_, rfl, hSG43, h⟩
    · replace h := h.2 (bI_z q)
      refine mk_7020_141 ?_
      obtain ⟨c45, h⟩ := h
      refine mc_7020_147 c45 h (fun v47 G46 e => ?_)
      obtain ⟨hSG46, h⟩ := e
      obtain ⟨c48, h⟩ := h
      replace h := h _ rfl
      refine mk_7020_150 c48 rfl ?_
      obtain ⟨c50, h⟩ := h
      refine mc_7020_156 c50 h (fun G51 e => ?_)
      obtain ⟨hSG51, h⟩ := e
      refine mk_7020_159 ⟨_, rfl, hSG51, h⟩
/-! 7021: readOperator ()C -/
theorem w_Rd_readOperator {G : mj_G} (hS : cs_S G) {d : Nat} {r0 : Nat} {K : Int32 → mj_G → Prop}
    (h : (mj_k G r0 = 8) ∧ Rd_sign d r0 (mj_i G r0 4) G (fun v3 G2 => mm_br (v3 = nI 38) ((mj_k G2 r0 = 8) ∧ ∀ G5, G5 = mj_pI G2 r0 4 ((mj_i G2 r0 4) + (nI 1)) → (mj_c v3) ∧ K v3 G5) (mm_br (v3 = nI 42) ((mj_k G2 r0 = 8) ∧ ∀ G8, G8 = mj_pI G2 r0 4 ((mj_i G2 r0 4) + (nI 1)) → (mj_c v3) ∧ K v3 G8) (mm_br (v3 = nI 43) ((mj_k G2 r0 = 8) ∧ ∀ G11, G11 = mj_pI G2 r0 4 ((mj_i G2 r0 4) + (nI 1)) → (mj_c v3) ∧ K v3 G11) (mm_br (v3 = nI 45) ((mj_k G2 r0 = 8) ∧ ∀ G14, G14 = mj_pI G2 r0 4 ((mj_i G2 r0 4) + (nI 1)) → (mj_c v3) ∧ K v3 G14) (mm_br (v3 = nI 60) ((mj_k G2 r0 = 8) ∧ ∀ G17, G17 = mj_pI G2 r0 4 ((mj_i G2 r0 4) + (nI 1)) → (mj_c v3) ∧ K v3 G17) (mm_br (v3 = nI 61) ((mj_k G2 r0 = 8) ∧ ∀ G20, G20 = mj_pI G2 r0 4 ((mj_i G2 r0 4) + (nI 1)) → (mj_c v3) ∧ K v3 G20) (mm_br (v3 = nI 63) ((mj_k G2 r0 = 8) ∧ ∀ G23, G23 = mj_pI G2 r0 4 ((mj_i G2 r0 4) + (nI 1)) → (mj_c v3) ∧ K v3 G23) ((mj_k G2 r0 = 8) ∧ Rd_reject d r0 G2 (fun G26 => K (nI 0) G26)))))))))) : Rd_readOperator (d + 1) r0 G K := by
  obtain ⟨c1, h⟩ := h
  refine mk_7021_0 c1 rfl ?_
  refine mc_7021_5 c1 h (fun v3 G2 e => ?_)
  obtain ⟨hSG2, h⟩ := e
  refine mk_7021_8 (fun q => ?_) (fun q => ?_) (fun q => ?_) (fun q => ?_) (fun q => ?_) (fun q => ?_) (fun q => ?_) (fun n1 n2 n3 n4 n5 n6 n7 => ?_)
  · replace h := h.1 q
    obtain ⟨c4, h⟩ := h
    replace h := h _ rfl
    obtain ⟨c6, h⟩ := h
    refine mk_7021_76 c4 rfl c4 rfl c6 ⟨_, rfl, (cs_pI hSG2), h⟩
  · replace h := (h.2 (fun e => absurd (e.symm.trans q) (by decide))).1 q
    obtain ⟨c7, h⟩ := h
    replace h := h _ rfl
    obtain ⟨c9, h⟩ := h
    refine mk_7021_76 c7 rfl c7 rfl c9 ⟨_, rfl, (cs_pI hSG2), h⟩
  · replace h := ((h.2 (fun e => absurd (e.symm.trans q) (by decide))).2 (fun e => absurd (e.symm.trans q) (by decide))).1 q
    obtain ⟨c10, h⟩ := h
    replace h := h _ rfl
    obtain ⟨c12, h⟩ := h
    refine mk_7021_76 c10 rfl c10 rfl c12 ⟨_, rfl, (cs_pI hSG2), h⟩
  · replace h := (((h.2 (fun e => absurd (e.symm.trans q) (by decide))).2 (fun e => absurd (e.symm.trans q) (by decide))).2 (fun e => absurd (e.symm.trans q) (by decide))).1 q
    obtain ⟨c13, h⟩ := h
    replace h := h _ rfl
    obtain ⟨c15, h⟩ := h
    refine mk_7021_76 c13 rfl c13 rfl c15 ⟨_, rfl, (cs_pI hSG2), h⟩
  · replace h := ((((h.2 (fun e => absurd (e.symm.trans q) (by decide))).2 (fun e => absurd (e.symm.trans q) (by decide))).2 (fun e => absurd (e.symm.trans q) (by decide))).2 (fun e => absurd (e.symm.trans q) (by decide))).1 q
    obtain ⟨c16, h⟩ := h
    replace h := h _ rfl
    obtain ⟨c18, h⟩ := h
    refine mk_7021_76 c16 rfl c16 rfl c18 ⟨_, rfl, (cs_pI hSG2), h⟩
  · replace h := (((((h.2 (fun e => absurd (e.symm.trans q) (by decide))).2 (fun e => absurd (e.symm.trans q) (by decide))).2 (fun e => absurd (e.symm.trans q) (by decide))).2 (fun e => absurd (e.symm.trans q) (by decide))).2 (fun e => absurd (e.symm.trans q) (by decide))).1 q
    obtain ⟨c19, h⟩ := h
    replace h := h _ rfl
    obtain ⟨c21, h⟩ := h
    refine mk_7021_76 c19 rfl c19 rfl c21 ⟨_, rfl, (cs_pI hSG2), h⟩
  · replace h := ((((((h.2 (fun e => absurd (e.symm.trans q) (by decide))).2 (fun e => absurd (e.symm.trans q) (by decide))).2 (fun e => absurd (e.symm.trans q) (by decide))).2 (fun e => absurd (e.symm.trans q) (by decide))).2 (fun e => absurd (e.symm.trans q) (by decide))).2 (fun e => absurd (e.symm.trans q) (by decide))).1 q
    obtain ⟨c22, h⟩ := h
    replace h := h _ rfl
    obtain ⟨c24, h⟩ := h
    refine mk_7021_76 c22 rfl c22 rfl c24 ⟨_, rfl, (cs_pI hSG2), h⟩
  · replace h := (((((((h.2 n1).2 n2).2 n3).2 n4).2 n5).2 n6).2 n7)
    refine mk_7021_88 ?_
    obtain ⟨c25, h⟩ := h
    refine mc_7021_89 c25 h (fun G26 e => ?_)
    obtain ⟨hSG26, h⟩ := e
    refine mk_7021_92 (by unfold mj_c; decide) ⟨_, rfl, hSG26, h⟩
/-! 7022: readNumeral ()LTemplateQuarry$Expression; -/
theorem w_Rd_readNumeral {G : mj_G} (hS : cs_S G) {d : Nat} {r0 : Nat} {K : Nat → mj_G → Prop}
    (h : ∀ G1, G1 = mj_al G 1 6 (fun _ => 0) → Ex_init d (mj_n G) (nI 1) G1 (fun G2 => Rd_readNumeral_11 (d + 1) r0 (mj_n G) (nI 0) G2 K)) : Rd_readNumeral (d + 1) r0 G K := by
  replace h := h _ rfl
  refine mk_7022_0 rfl rfl ?_
  refine mc_7022_5 mj_k_al h (fun G2 e => ?_)
  obtain ⟨hSG2, h⟩ := e
  refine mk_7022_8 ?_
  exact h
theorem w_Rd_readNumeral_11 {G : mj_G} (hS : cs_S G) {d : Nat} (hd : 15 ≤ d) {r0 : Nat} {r1 : Nat} {x2 : Int32} {K : Nat → mj_G → Prop}
    (h : mm_br ((nI 4) ≤ x2) (K r1 G) ((mj_k G r0 = 8) ∧ Rd_sign d r0 (mj_i G r0 4) G (fun v5 G4 => mm_br (qb (q_12030 v5) = true) ((mj_k G4 r1 = 1) ∧ (mj_k G4 r0 = 8) ∧ Rd_sign d r0 (mj_i G4 r0 4) G4 (fun v9 G8 => (mj_k G8 r1 = 1) ∧ ∀ G11, G11 = mj_pI G8 r1 1 ((((nI 10) * (mj_i G4 r1 1)) + v9) - (nI 48)) → (mj_k G11 r0 = 8) ∧ ∀ G13, G13 = mj_pI G11 r0 4 ((mj_i G11 r0 4) + (nI 1)) → Rd_readNumeral_11 (d + 1) r0 r1 (x2 + nI 1) G13 K)) (K r1 G4)))) : Rd_readNumeral_11 (d + 1) r0 r1 x2 G K := by
  obtain ⟨e, rfl⟩ : ∃ e, d = e + 15 := ⟨d - 15, (Nat.sub_add_cancel hd).symm⟩
  refine mk_7022_11 (fun q => ?_) (fun q => ?_)
  · replace h := h.1 q
    refine mk_7022_69 ⟨_, rfl, hS, h⟩
  · replace h := h.2 q
    obtain ⟨c3, h⟩ := h
    refine mk_7022_16 c3 rfl ?_
    refine mc_7022_21 c3 h (fun v5 G4 e => ?_)
    obtain ⟨hSG4, h⟩ := e
    refine mc_7022_24 (q_bc (q_12030_c _ _) (q_12030_b _)) (fun v G1 e => ?_)
    obtain ⟨rfl, rfl⟩ := e
    refine mk_7022_27 (fun q => ?_) (fun q => ?_)
    · replace h := h.2 (bI_z q)
      refine mk_7022_69 ⟨_, rfl, hSG4, h⟩
    · replace h := h.1 (bI_n q)
      obtain ⟨c6, h⟩ := h
      obtain ⟨c7, h⟩ := h
      refine mk_7022_30 c6 rfl c7 rfl ?_
      refine mc_7022_43 c7 h (fun v9 G8 e => ?_)
      obtain ⟨hSG8, h⟩ := e
      obtain ⟨c10, h⟩ := h
      replace h := h _ rfl
      obtain ⟨c12, h⟩ := h
      replace h := h _ rfl
      refine mk_7022_46 c10 rfl c12 rfl c12 rfl ?_
      exact h
/-! 7023: readVariable ()LTemplateQuarry$Expression; -/
theorem w_Rd_readVariable {G : mj_G} (hS : cs_S G) {d : Nat} {r0 : Nat} {K : Nat → mj_G → Prop}
    (h : (mj_k G r0 = 8) ∧ Rd_sign d r0 ((mj_i G r0 4) + (nI 1)) G (fun v3 G2 => mm_br (v3 = (nI 46)) (Rd_readVariable_20 (d + 1) r0 (nI 1) G2 K) (Rd_readVariable_20 (d + 1) r0 (nI 0) G2 K))) : Rd_readVariable (d + 1) r0 G K := by
  obtain ⟨c1, h⟩ := h
  refine mk_7023_0 c1 rfl ?_
  refine mc_7023_7 c1 h (fun v3 G2 e => ?_)
  obtain ⟨hSG2, h⟩ := e
  refine mk_7023_10 (fun q => ?_) (fun q => ?_)
  · replace h := h.2 q
    refine mk_7023_19 ?_
    exact h
  · replace h := h.1 q
    refine mk_7023_15 ?_
    exact h
theorem w_Rd_readVariable_20 {G : mj_G} (hS : cs_S G) {d : Nat} {r0 : Nat} {s0 : Int32} {K : Nat → mj_G → Prop}
    (h : ∀ G4, G4 = mj_al G 1 6 (fun _ => 0) → mm_br (s0 = (nI 0)) (Ex_init d (mj_n G) (nI 3) G4 (fun G5 => (mj_k G5 r0 = 8) ∧ Rd_sign d r0 (mj_i G5 r0 4) G5 (fun v8 G7 => (mj_k G7 (mj_n G) = 1) ∧ ∀ G10, G10 = mj_pI G7 (mj_n G) 1 (v8 - (nI 97)) → (mj_k G10 r0 = 8) ∧ ∀ G12, G12 = mj_pI G10 r0 4 ((mj_i G10 r0 4) + (nI 1)) → mm_br (s0 = (nI 0)) (K (mj_n G) G12) (∀ G13, G13 = mj_pI G12 r0 4 ((mj_i G12 r0 4) + (nI 1)) → Rd_readDigit d r0 G13 (fun v15 G14 => (mj_k G14 (mj_n G) = 1) ∧ ∀ G17, G17 = mj_pI G14 (mj_n G) 2 v15 → K (mj_n G) G17))))) (Ex_init d (mj_n G) (nI 4) G4 (fun G18 => (mj_k G18 r0 = 8) ∧ Rd_sign d r0 (mj_i G18 r0 4) G18 (fun v21 G20 => (mj_k G20 (mj_n G) = 1) ∧ ∀ G23, G23 = mj_pI G20 (mj_n G) 1 (v21 - (nI 97)) → (mj_k G23 r0 = 8) ∧ ∀ G25, G25 = mj_pI G23 r0 4 ((mj_i G23 r0 4) + (nI 1)) → mm_br (s0 = (nI 0)) (K (mj_n G) G25) (∀ G26, G26 = mj_pI G25 r0 4 ((mj_i G25 r0 4) + (nI 1)) → Rd_readDigit d r0 G26 (fun v28 G27 => (mj_k G27 (mj_n G) = 1) ∧ ∀ G30, G30 = mj_pI G27 (mj_n G) 2 v28 → K (mj_n G) G30)))))) : Rd_readVariable_20 (d + 1) r0 s0 G K := by
  replace h := h _ rfl
  refine mk_7023_20 rfl rfl (fun q => ?_) (fun q => ?_)
  · replace h := h.1 q
    refine mk_7023_33 ?_
    refine mc_7023_34 mj_k_al h (fun G5 e => ?_)
    obtain ⟨hSG5, h⟩ := e
    obtain ⟨c6, h⟩ := h
    refine mk_7023_37 c6 rfl ?_
    refine mc_7023_44 c6 h (fun v8 G7 e => ?_)
    obtain ⟨hSG7, h⟩ := e
    obtain ⟨c9, h⟩ := h
    replace h := h _ rfl
    obtain ⟨c11, h⟩ := h
    replace h := h _ rfl
    refine mk_7023_47 c9 rfl c11 rfl c11 rfl (fun q => ?_) (fun q => ?_)
    · replace h := h.1 q
      refine mk_7023_85 ⟨_, rfl, (cs_pI (cs_pI hSG7)), h⟩
    · replace h := h.2 q
      replace h := h _ rfl
      refine mk_7023_67 c11 rfl c11 rfl ?_
      refine mc_7023_79 c11 h (fun v15 G14 e => ?_)
      obtain ⟨hSG14, h⟩ := e
      obtain ⟨c16, h⟩ := h
      replace h := h _ rfl
      refine mk_7023_82 c16 rfl ?_
      refine mk_7023_85 ⟨_, rfl, (cs_pI hSG14), h⟩
  · replace h := h.2 q
    refine mk_7023_29 ?_
    refine mc_7023_34 mj_k_al h (fun G18 e => ?_)
    obtain ⟨hSG18, h⟩ := e
    obtain ⟨c19, h⟩ := h
    refine mk_7023_37 c19 rfl ?_
    refine mc_7023_44 c19 h (fun v21 G20 e => ?_)
    obtain ⟨hSG20, h⟩ := e
    obtain ⟨c22, h⟩ := h
    replace h := h _ rfl
    obtain ⟨c24, h⟩ := h
    replace h := h _ rfl
    refine mk_7023_47 c22 rfl c24 rfl c24 rfl (fun q => ?_) (fun q => ?_)
    · replace h := h.1 q
      refine mk_7023_85 ⟨_, rfl, (cs_pI (cs_pI hSG20)), h⟩
    · replace h := h.2 q
      replace h := h _ rfl
      refine mk_7023_67 c24 rfl c24 rfl ?_
      refine mc_7023_79 c24 h (fun v28 G27 e => ?_)
      obtain ⟨hSG27, h⟩ := e
      obtain ⟨c29, h⟩ := h
      replace h := h _ rfl
      refine mk_7023_82 c29 rfl ?_
      refine mk_7023_85 ⟨_, rfl, (cs_pI hSG27), h⟩
/-! 7024: readQuote ()LTemplateQuarry$Expression; -/
theorem w_Rd_readQuote {G : mj_G} (hS : cs_S G) {d : Nat} {r0 : Nat} {K : Nat → mj_G → Prop}
    (h : ∀ G1, G1 = mj_al G 1 6 (fun _ => 0) → Ex_init d (mj_n G) (nI 2) G1 (fun G2 => (mj_k G2 r0 = 8) ∧ ∀ G4, G4 = mj_pI G2 r0 4 ((mj_i G2 r0 4) + (nI 1)) → Rd_readQuote_26 (d + 1) r0 (mj_n G) (mj_i G4 r0 4) (mj_i G4 r0 4) G4 K)) : Rd_readQuote (d + 1) r0 G K := by
  replace h := h _ rfl
  refine mk_7024_0 rfl rfl ?_
  refine mc_7024_5 mj_k_al h (fun G2 e => ?_)
  obtain ⟨hSG2, h⟩ := e
  obtain ⟨c3, h⟩ := h
  replace h := h _ rfl
  refine mk_7024_8 c3 rfl c3 rfl c3 rfl ?_
  exact h
theorem w_Rd_readQuote_26 {G : mj_G} (hS : cs_S G) {d : Nat} (hd : 15 ≤ d) {r0 : Nat} {r1 : Nat} {x2 : Int32} {x3 : Int32} {K : Nat → mj_G → Prop}
    (h : (mj_k G r0 = 8) ∧ mm_br ((mj_i G r0 1) ≤ x3) (Tq_copyOf d (mj_r G r0 0) x2 (mj_i G r0 4) G (fun v7 G6 => (mj_k G6 r1 = 1) ∧ ∀ G9, G9 = mj_pR G6 r1 3 v7 → (mj_k G9 r0 = 8) ∧ Rd_sign d r0 (mj_i G9 r0 4) G9 (fun v12 G11 => mm_br (v12 = (nI 39)) ((mj_k G11 r0 = 8) ∧ ∀ G16, G16 = mj_pI G11 r0 4 ((mj_i G11 r0 4) + (nI 1)) → K r1 G16) ((mj_k G11 r0 = 8) ∧ Rd_reject d r0 G11 (fun G14 => K r1 G14))))) (Rd_sign d r0 (mj_i G r0 4) G (fun v18 G17 => mm_br (qb (q_7025 v18) = true) ((mj_k G17 r0 = 8) ∧ ∀ G32, G32 = mj_pI G17 r0 4 ((mj_i G17 r0 4) + (nI 1)) → Rd_readQuote_26 (d + 1) r0 r1 x2 (x3 + nI 1) G32 K) ((mj_k G17 r0 = 8) ∧ Tq_copyOf d (mj_r G17 r0 0) x2 (mj_i G17 r0 4) G17 (fun v21 G20 => (mj_k G20 r1 = 1) ∧ ∀ G23, G23 = mj_pR G20 r1 3 v21 → (mj_k G23 r0 = 8) ∧ Rd_sign d r0 (mj_i G23 r0 4) G23 (fun v26 G25 => mm_br (v26 = (nI 39)) ((mj_k G25 r0 = 8) ∧ ∀ G30, G30 = mj_pI G25 r0 4 ((mj_i G25 r0 4) + (nI 1)) → K r1 G30) ((mj_k G25 r0 = 8) ∧ Rd_reject d r0 G25 (fun G28 => K r1 G28)))))))) : Rd_readQuote_26 (d + 1) r0 r1 x2 x3 G K := by
  obtain ⟨e, rfl⟩ : ∃ e, d = e + 15 := ⟨d - 15, (Nat.sub_add_cancel hd).symm⟩
  obtain ⟨c5, h⟩ := h
  refine mk_7024_26 c5 rfl (fun q => ?_) (fun q => ?_)
  · replace h := h.1 q
    refine mk_7024_64 c5 rfl c5 rfl ?_
    refine mc_7024_74 h (fun v7 G6 e => ?_)
    obtain ⟨hSG6, h⟩ := e
    obtain ⟨c8, h⟩ := h
    replace h := h _ rfl
    obtain ⟨c10, h⟩ := h
    refine mk_7024_77 c8 rfl c10 rfl ?_
    refine mc_7024_85 c10 h (fun v12 G11 e => ?_)
    obtain ⟨hSG11, h⟩ := e
    refine mk_7024_88 (fun q => ?_) (fun q => ?_)
    · replace h := h.2 q
      refine mk_7024_106 ?_
      obtain ⟨c13, h⟩ := h
      refine mc_7024_107 c13 h (fun G14 e => ?_)
      obtain ⟨hSG14, h⟩ := e
      refine mk_7024_110 ⟨_, rfl, hSG14, h⟩
    · replace h := h.1 q
      obtain ⟨c15, h⟩ := h
      replace h := h _ rfl
      refine mk_7024_93 c15 rfl c15 rfl ?_
      refine mk_7024_110 ⟨_, rfl, (cs_pI hSG11), h⟩
  · replace h := h.2 q
    refine mk_7024_34 c5 rfl ?_
    refine mc_7024_39 c5 h (fun v18 G17 e => ?_)
    obtain ⟨hSG17, h⟩ := e
    refine mc_7024_42 (q_bc (q_7025_c _ _) (q_7025_b _)) (fun v G1 e => ?_)
    obtain ⟨rfl, rfl⟩ := e
    refine mk_7024_45 (fun q => ?_) (fun q => ?_)
    · replace h := h.2 (bI_z q)
      obtain ⟨c19, h⟩ := h
      refine mk_7024_64 c19 rfl c19 rfl ?_
      refine mc_7024_74 h (fun v21 G20 e => ?_)
      obtain ⟨hSG20, h⟩ := e
      obtain ⟨c22, h⟩ := h
      replace h := h _ rfl
      obtain ⟨c24, h⟩ := h
      refine mk_7024_77 c22 rfl c24 rfl ?_
      refine mc_7024_85 c24 h (fun v26 G25 e => ?_)
      obtain ⟨hSG25, h⟩ := e
      refine mk_7024_88 (fun q => ?_) (fun q => ?_)
      · replace h := h.2 q
        refine mk_7024_106 ?_
        obtain ⟨c27, h⟩ := h
        refine mc_7024_107 c27 h (fun G28 e => ?_)
        obtain ⟨hSG28, h⟩ := e
        refine mk_7024_110 ⟨_, rfl, hSG28, h⟩
      · replace h := h.1 q
        obtain ⟨c29, h⟩ := h
        replace h := h _ rfl
        refine mk_7024_93 c29 rfl c29 rfl ?_
        refine mk_7024_110 ⟨_, rfl, (cs_pI hSG25), h⟩
    · replace h := h.1 (bI_n q)
      obtain ⟨c31, h⟩ := h
      replace h := h _ rfl
      refine mk_7024_48 c31 rfl c31 rfl ?_
      exact h
/-! 10000: <init> ()V -/
theorem w_Te_init {G : mj_G} (hS : cs_S G) {d : Nat} {r0 : Nat} {K : mj_G → Prop}
    (h : (mj_k G r0 ≠ 0) ∧ (mj_k G r0 = 11) ∧ ∀ G3, G3 = mj_pI G r0 1 ((Int32.ofInt (-1))) → ∀ G4, G4 = mj_al G3 35 10 (fun _ => 0) → (mj_k G4 r0 = 11) ∧ ∀ G6, G6 = mj_pR G4 r0 4 (mj_n G3) → ∀ G7, G7 = mj_al G6 35 10 (fun _ => 0) → (mj_k G7 r0 = 11) ∧ ∀ G9, G9 = mj_pR G7 r0 5 (mj_n G6) → K G9) : Te_init d r0 G K := by
  obtain ⟨c1, h⟩ := h
  obtain ⟨c2, h⟩ := h
  replace h := h _ rfl
  replace h := h _ rfl
  obtain ⟨c5, h⟩ := h
  replace h := h _ rfl
  replace h := h _ rfl
  obtain ⟨c8, h⟩ := h
  replace h := h _ rfl
  refine mk_10000_0 c1 c2 rfl (by decide) (by decide) rfl rfl c5 rfl (by decide) (by decide) rfl rfl c8 rfl ⟨rfl, (cs_pR (cs_al (cs_pR (cs_al (cs_pI hS)) c5 rfl)) c8 rfl), h⟩
