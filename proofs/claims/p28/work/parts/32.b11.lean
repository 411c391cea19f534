/-! BLOCKS OF VALUES (wip/tools/blk.py) -/
/-! 11000: TemplateQuarry$Value.<init>()V -/
theorem mk_11000_0 {d : Nat} {Q : mj_O → mj_G → Prop} {G : mj_G} {r0 v1 : Nat} {G1 G2 G3 G4 G5 G6 : mj_G} (h1 : mj_k (G) (r0) ≠ 0) (h2 : mj_k (G) (r0) = 12) (h3 : G1 = mj_pI (G) (r0) 0 (Int32.ofInt (1))) (h4 : mj_k (G1) (r0) = 12) (h5 : G2 = mj_pR (G1) (r0) 3 (2)) (h6 : ¬ (Int32.ofInt (0)) < 0) (h7 : (Int32.ofInt (0)).toNatClampNeg ≤ 1000000) (h8 : mj_n (G2) = v1) (h9 : G3 = mj_al (G2) 41 (Int32.ofInt (0)).toNatClampNeg (fun _ => 0)) (h10 : mj_k (G3) (r0) = 12) (h11 : G4 = mj_pR (G3) (r0) 5 (v1)) (h12 : mj_k (G4) (r0) = 12) (h13 : G5 = mj_pI (G4) (r0) 6 (Int32.ofInt (-1))) (h14 : mj_k (G5) (r0) = 12) (h15 : G6 = mj_pR (G5) (r0) 7 (2)) (h16 : Q (.inl none) (G6)) : mj_X d 11000 0 [some (.inr (.inr (r0)))] [] G Q := by
  subst h3
  subst h5
  subst h8
  subst h9
  subst h11
  subst h13
  subst h15
  exact mj_X_sp (n := 18) (And.intro h1 (And.intro (Nat.le_of_ble_eq_true rfl) (And.intro trivial (And.intro h2 (And.intro trivial (And.intro trivial (And.intro trivial (And.intro h4 (And.intro trivial (And.intro h6 (And.intro h7 (And.intro trivial (And.intro h10 (And.intro trivial (And.intro trivial (And.intro h12 (And.intro trivial (And.intro trivial (And.intro trivial (And.intro h14 (And.intro trivial (mj_X_vr rfl rfl h16))))))))))))))))))))))
/-! 11001: TemplateQuarry$Value.setNothing()V -/
theorem mk_11001_0 {d : Nat} {Q : mj_O → mj_G → Prop} {G : mj_G} {r0 : Nat} {G1 : mj_G} (h1 : mj_k (G) (r0) = 12) (h2 : G1 = mj_pI (G) (r0) 0 (Int32.ofInt (1))) (h3 : Q (.inl none) (G1)) : mj_X d 11001 0 [some (.inr (.inr (r0)))] [] G Q := by
  subst h2
  exact mj_X_sp (n := 3) (And.intro trivial (And.intro h1 (And.intro trivial (And.intro trivial (mj_X_vr rfl rfl h3)))))
/-! 11002: TemplateQuarry$Value.setNumber(I)V -/
theorem mk_11002_0 {d : Nat} {Q : mj_O → mj_G → Prop} {G : mj_G} {x1 : Int32} {r0 : Nat} {G1 G2 : mj_G} (h1 : mj_k (G) (r0) = 12) (h2 : G1 = mj_pI (G) (r0) 0 (Int32.ofInt (2))) (h3 : mj_k (G1) (r0) = 12) (h4 : G2 = mj_pI (G1) (r0) 1 (x1)) (h5 : Q (.inl none) (G2)) : mj_X d 11002 0 [some (.inr (.inr (r0))), some (.inl (x1))] [] G Q := by
  subst h2
  subst h4
  exact mj_X_sp (n := 6) (And.intro trivial (And.intro h1 (And.intro trivial (And.intro trivial (And.intro trivial (And.intro h3 (And.intro trivial (And.intro trivial (mj_X_vr rfl rfl h5)))))))))
/-! 11003: TemplateQuarry$Value.setText([CIZ)V -/
theorem mk_11003_0 {d : Nat} {Q : mj_O → mj_G → Prop} {G : mj_G} {x2 x3 v1 : Int32} {r0 r1 : Nat} {G1 G2 G3 G4 : mj_G} (h1 : mj_k (G) (r0) = 12) (h2 : G1 = mj_pI (G) (r0) 0 (Int32.ofInt (4))) (h3 : mj_k (G1) (r0) = 12) (h4 : G2 = mj_pR (G1) (r0) 3 (r1)) (h5 : 20 ≤ mj_k (G2) (r1)) (h6 : Int32.ofNat (mj_l (G2) (r1)) = v1) (h7 : mj_k (G2) (r0) = 12) (h8 : G3 = mj_pI (G2) (r0) 4 (mj_mx (Int32.ofInt (0)) (mj_mn (x2) (v1)))) (h9 : mj_k (G3) (r0) = 12) (h10 : mj_b (x3)) (h11 : G4 = mj_pI (G3) (r0) 2 (x3)) (h12 : Q (.inl none) (G4)) : mj_X d 11003 0 [some (.inr (.inr (r0))), some (.inr (.inr (r1))), some (.inl (x2)), some (.inl (x3))] [] G Q := by
  subst h2
  subst h4
  subst h6
  subst h8
  subst h11
  exact mj_X_sp (n := 17) (And.intro trivial (And.intro h1 (And.intro trivial (And.intro trivial (And.intro trivial (And.intro h3 (And.intro trivial (And.intro h5 (And.intro (Nat.le_of_ble_eq_true rfl) (And.intro (Nat.le_of_ble_eq_true rfl) (And.intro trivial (And.intro h7 (And.intro trivial (And.intro trivial (And.intro trivial (And.intro h9 (And.intro trivial (And.intro h10 (mj_X_vr rfl rfl h12)))))))))))))))))))
/-! 11004: TemplateQuarry$Value.setItems([LTemplateQuarry$Value;)V -/
theorem mk_11004_0 {d : Nat} {Q : mj_O → mj_G → Prop} {G : mj_G} {r0 r1 : Nat} {G1 G2 : mj_G} (h1 : mj_k (G) (r0) = 12) (h2 : G1 = mj_pI (G) (r0) 0 ((Int8.ofInt (8)).toInt32)) (h3 : mj_k (G1) (r0) = 12) (h4 : G2 = mj_pR (G1) (r0) 5 (r1)) (h5 : Q (.inl none) (G2)) : mj_X d 11004 0 [some (.inr (.inr (r0))), some (.inr (.inr (r1)))] [] G Q := by
  subst h2
  subst h4
  exact mj_X_sp (n := 6) (And.intro trivial (And.intro h1 (And.intro trivial (And.intro trivial (And.intro trivial (And.intro h3 (And.intro trivial (mj_X_vr rfl rfl h5))))))))
/-! 11005: TemplateQuarry$Value.refer(LTemplateQuarry$Value;)V -/
theorem mk_11005_0 {d : Nat} {Q : mj_O → mj_G → Prop} {G : mj_G} {v1 v2 v3 v5 : Int32} {r0 r1 v4 v6 : Nat} {G1 G2 G3 G4 G5 G6 : mj_G} (h1 : mj_k (G) (r1) = 12) (h2 : mj_i (G) (r1) 0 = v1) (h3 : mj_k (G) (r0) = 12) (h4 : G1 = mj_pI (G) (r0) 0 (v1)) (h5 : mj_k (G1) (r1) = 12) (h6 : mj_i (G1) (r1) 1 = v2) (h7 : mj_k (G1) (r0) = 12) (h8 : G2 = mj_pI (G1) (r0) 1 (v2)) (h9 : mj_k (G2) (r1) = 12) (h10 : mj_i (G2) (r1) 2 = v3) (h11 : mj_k (G2) (r0) = 12) (h12 : mj_b (v3)) (h13 : G3 = mj_pI (G2) (r0) 2 (v3)) (h14 : mj_k (G3) (r1) = 12) (h15 : mj_r (G3) (r1) 3 = v4) (h16 : mj_k (G3) (r0) = 12) (h17 : G4 = mj_pR (G3) (r0) 3 (v4)) (h18 : mj_k (G4) (r1) = 12) (h19 : mj_i (G4) (r1) 4 = v5) (h20 : mj_k (G4) (r0) = 12) (h21 : G5 = mj_pI (G4) (r0) 4 (v5)) (h22 : mj_k (G5) (r1) = 12) (h23 : mj_r (G5) (r1) 5 = v6) (h24 : mj_k (G5) (r0) = 12) (h25 : G6 = mj_pR (G5) (r0) 5 (v6)) (h26 : Q (.inl none) (G6)) : mj_X d 11005 0 [some (.inr (.inr (r0))), some (.inr (.inr (r1)))] [] G Q := by
  subst h2
  subst h4
  subst h6
  subst h8
  subst h10
  subst h13
  subst h15
  subst h17
  subst h19
  subst h21
  subst h23
  subst h25
  exact mj_X_sp (n := 24) (And.intro h1 (And.intro trivial (And.intro h3 (And.intro trivial (And.intro trivial (And.intro h5 (And.intro trivial (And.intro h7 (And.intro trivial (And.intro trivial (And.intro h9 (And.intro trivial (And.intro h11 (And.intro trivial (And.intro h12 (And.intro h14 (And.intro trivial (And.intro h16 (And.intro trivial (And.intro h18 (And.intro trivial (And.intro h20 (And.intro trivial (And.intro trivial (And.intro h22 (And.intro trivial (And.intro h24 (And.intro trivial (mj_X_vr rfl rfl h26)))))))))))))))))))))))))))))
/-! 11006: TemplateQuarry$Value.keep(LTemplateQuarry$Value;)V -/
theorem mk_11006_0 {d : Nat} {Q : mj_O → mj_G → Prop} {G : mj_G} {r0 r1 : Nat} (h1 : mj_X d 11006 2 [some (.inr (.inr (r0))), none, none, none] [.inr (.inr (r1)), .inr (.inr (r0))] G Q) : mj_X d 11006 0 [some (.inr (.inr (r0))), some (.inr (.inr (r1))), none, none] [] G Q := mj_X_sp (n := 2) ((mj_X_wk (mj_le_s (mj_le_n (mj_le_n (mj_le_n mj_le_0)))) h1))
theorem mc_11006_2 {d : Nat} {Q : mj_O → mj_G → Prop} {G : mj_G} {r0 t0 t1 : Nat} {R : mj_G → Prop} (hk : mj_k G t0 = 12) (h1 : mj_X d 11005 0 [some (.inr (.inr (t0))), some (.inr (.inr (t1)))] [] G (fun o G1 => o = .inl none ∧ R G1)) (k : ∀ G1, R G1 → mj_X (d + 1) 11006 5 [some (.inr (.inr (r0))), none, none, none] [] G1 Q) : mj_X (d + 1) 11006 2 [some (.inr (.inr (r0))), none, none, none] [.inr (.inr (t1)), .inr (.inr (t0))] G Q :=
  mj_X_callP rfl rfl rfl (Nat.le_of_ble_eq_true rfl) (And.intro (Nat.le_of_ble_eq_true rfl) hk) h1 (fun o G1 h => by
    obtain ⟨rfl, h⟩ := h
    exact mj_X_wk (mj_le_s (mj_le_n (mj_le_n (mj_le_n mj_le_0)))) (k G1 h))
theorem mk_11006_5 {d : Nat} {Q : mj_O → mj_G → Prop} {G : mj_G} {v1 : Int32} {r0 : Nat} (h1 : mj_k (G) (r0) = 12) (h2 : mj_i (G) (r0) 0 = v1) (h3 : ¬ (v1) = (Int32.ofInt (4)) → mj_X d 11006 49 [none, none, none, none] [] G Q) (h4 : (v1) = (Int32.ofInt (4)) → mj_X d 11006 13 [some (.inr (.inr (r0))), none, none, none] [] G Q) : mj_X d 11006 5 [some (.inr (.inr (r0))), none, none, none] [] G Q := by
  subst h2
  exact mj_X_sp (n := 4) (And.intro h1 (And.intro (fun q => (mj_X_wk (mj_le_n (mj_le_n (mj_le_n (mj_le_n mj_le_0)))) (h3 q))) (fun q => (h4 (Decidable.not_not.mp q)))))
theorem mk_11006_13 {d : Nat} {Q : mj_O → mj_G → Prop} {G : mj_G} {r0 : Nat} (h1 : mj_X d 11006 14 [some (.inr (.inr (r0))), none, none, none] [.inr (.inr (r0))] G Q) : mj_X d 11006 13 [some (.inr (.inr (r0))), none, none, none] [] G Q := mj_X_sp (n := 1) (h1)
theorem mc_11006_14 {d : Nat} {Q : mj_O → mj_G → Prop} {G : mj_G} {r0 t0 : Nat} {R : Nat → mj_G → Prop} (hk : mj_k G t0 = 12) (h1 : mj_X d 11007 0 [some (.inr (.inr (t0)))] [] G (fun o G1 => ∃ v, o = .inl (some (.inr (.inr (v)))) ∧ R v G1)) (k : ∀ v G1, R v G1 → mj_X (d + 1) 11006 17 [some (.inr (.inr (r0))), none, none, none] [.inr (.inr (v))] G1 Q) : mj_X (d + 1) 11006 14 [some (.inr (.inr (r0))), none, none, none] [.inr (.inr (t0))] G Q :=
  mj_X_callP rfl rfl rfl (Nat.le_of_ble_eq_true rfl) (And.intro (Nat.le_of_ble_eq_true rfl) hk) h1 (fun o G1 h => by
    obtain ⟨v, rfl, h⟩ := h
    exact mj_X_wk (mj_le_s (mj_le_n (mj_le_n (mj_le_n mj_le_0)))) (k v G1 h))
theorem mk_11006_17 {d : Nat} {Q : mj_O → mj_G → Prop} {G : mj_G} {v1 v2 v4 : Int32} {r0 t0 v3 : Nat} {G1 : mj_G} (h1 : mj_k (G) (r0) = 12) (h2 : mj_i (G) (r0) 4 = v1) (h3 : 20 ≤ mj_k (G) (t0)) (h4 : Int32.ofNat (mj_l (G) (t0)) = v2) (h5 : mj_k (G) (r0) = 12) (h6 : mj_r (G) (r0) 3 = v3) (h7 : mj_k (G) (t0) = 20 ∨ mj_k (G) (t0) = 22) (h8 : mj_k (G) (v3) = mj_k (G) (t0)) (h9 : 2 ≤ (v3)) (h10 : 3 ≤ (t0)) (h11 : ¬ (Int32.ofInt (0)) < 0) (h12 : ¬ (Int32.ofInt (0)) < 0) (h13 : ¬ (mj_mn (v1) (v2)) < 0) (h14 : (Int32.ofInt (0)).toNatClampNeg + (mj_mn (v1) (v2)).toNatClampNeg ≤ mj_l (G) (v3)) (h15 : (Int32.ofInt (0)).toNatClampNeg + (mj_mn (v1) (v2)).toNatClampNeg ≤ mj_l (G) (t0)) (h16 : G1 = mj_cp (G) (v3) (Int32.ofInt (0)).toNatClampNeg (t0) (Int32.ofInt (0)).toNatClampNeg (mj_mn (v1) (v2)).toNatClampNeg) (h17 : mj_k (G1) (r0) = 12) (h18 : mj_i (G1) (r0) 2 = v4) (h19 : mj_X d 11006 46 [none, none, none, none] [.inl (v4), .inl (mj_mn (v1) (v2)), .inr (.inr (t0)), .inr (.inr (r0))] G1 Q) : mj_X d 11006 17 [some (.inr (.inr (r0))), none, none, none] [.inr (.inr (t0))] G Q := by
  subst h2
  subst h4
  subst h6
  subst h16
  subst h18
  exact mj_X_sp (n := 19) (And.intro h1 (And.intro h3 (And.intro (Nat.le_of_ble_eq_true rfl) (And.intro h5 (And.intro (Nat.le_of_ble_eq_true rfl) (And.intro h7 (And.intro h8 (And.intro h9 (And.intro h10 (And.intro h11 (And.intro h12 (And.intro h13 (And.intro h14 (And.intro h15 (And.intro h17 ((mj_X_wk (mj_le_n (mj_le_n (mj_le_n (mj_le_n mj_le_0)))) h19)))))))))))))))))
theorem mc_11006_46 {d : Nat} {Q : mj_O → mj_G → Prop} {G : mj_G} {s2 s3 : Int32} {t0 t1 : Nat} {R : mj_G → Prop} (hk : mj_k G t0 = 12) (h1 : mj_X d 11003 0 [some (.inr (.inr (t0))), some (.inr (.inr (t1))), some (.inl (s2)), some (.inl (s3))] [] G (fun o G1 => o = .inl none ∧ R G1)) (k : ∀ G1, R G1 → mj_X (d + 1) 11006 49 [none, none, none, none] [] G1 Q) : mj_X (d + 1) 11006 46 [none, none, none, none] [.inl (s3), .inl (s2), .inr (.inr (t1)), .inr (.inr (t0))] G Q :=
  mj_X_callP rfl rfl rfl (Nat.le_of_ble_eq_true rfl) (And.intro (Nat.le_of_ble_eq_true rfl) hk) h1 (fun o G1 h => by
    obtain ⟨rfl, h⟩ := h
    exact mj_X_wk (mj_le_n (mj_le_n (mj_le_n (mj_le_n mj_le_0)))) (k G1 h))
theorem mk_11006_49 {d : Nat} {Q : mj_O → mj_G → Prop} {G : mj_G} (h1 : Q (.inl none) (G)) : mj_X d 11006 49 [none, none, none, none] [] G Q := mj_X_vr rfl rfl h1
/-! 11007: TemplateQuarry$Value.ownRow()[C -/
theorem mk_11007_0 {d : Nat} {Q : mj_O → mj_G → Prop} {G : mj_G} {v2 : Int32} {r0 v1 : Nat} (h1 : mj_k (G) (r0) = 12) (h2 : mj_r (G) (r0) 7 = v1) (h3 : 20 ≤ mj_k (G) (v1)) (h4 : Int32.ofNat (mj_l (G) (v1)) = v2) (h5 : ¬ (v2) = ((0 : Int32)) → mj_X d 11007 17 [some (.inr (.inr (r0)))] [] G Q) (h6 : (v2) = ((0 : Int32)) → mj_X d 11007 8 [some (.inr (.inr (r0)))] [] G Q) : mj_X d 11007 0 [some (.inr (.inr (r0)))] [] G Q := by
  subst h2
  subst h4
  exact mj_X_sp (n := 4) (And.intro h1 (And.intro h3 (And.intro (fun q => (h5 q)) (fun q => (h6 (Decidable.not_not.mp q))))))
theorem mk_11007_8 {d : Nat} {Q : mj_O → mj_G → Prop} {G : mj_G} {r0 v1 : Nat} {G1 G2 : mj_G} (h1 : ¬ ((Int16.ofInt (300)).toInt32) < 0) (h2 : ((Int16.ofInt (300)).toInt32).toNatClampNeg ≤ 1000000) (h3 : mj_n (G) = v1) (h4 : G1 = mj_al (G) 22 ((Int16.ofInt (300)).toInt32).toNatClampNeg (fun _ => 0)) (h5 : mj_k (G1) (r0) = 12) (h6 : G2 = mj_pR (G1) (r0) 7 (v1)) (h7 : mj_X d 11007 17 [some (.inr (.inr (r0)))] [] G2 Q) : mj_X d 11007 8 [some (.inr (.inr (r0)))] [] G Q := by
  subst h3
  subst h4
  subst h6
  exact mj_X_sp (n := 4) (And.intro h1 (And.intro h2 (And.intro trivial (And.intro trivial (And.intro h5 (And.intro trivial (h7)))))))
theorem mk_11007_17 {d : Nat} {Q : mj_O → mj_G → Prop} {G : mj_G} {r0 v1 : Nat} (h1 : mj_k (G) (r0) = 12) (h2 : mj_r (G) (r0) 7 = v1) (h3 : Q (.inl (some (.inr (.inr (v1))))) (G)) : mj_X d 11007 17 [some (.inr (.inr (r0)))] [] G Q := by
  subst h2
  exact mj_X_sp (n := 2) (And.intro h1 (mj_X_ar rfl rfl h3))
/-! 11008: TemplateQuarry$Value.isTrue()Z -/
theorem mk_11008_0 {d : Nat} {Q : mj_O → mj_G → Prop} {G : mj_G} {v1 : Int32} {r0 : Nat} (h1 : mj_k (G) (r0) = 12) (h2 : mj_i (G) (r0) 0 = v1) (h3 : (v1) = Int32.ofInt (2) → mj_X d 11008 40 [some (.inr (.inr (r0)))] [] G Q) (h4 : (v1) = Int32.ofInt (4) → mj_X d 11008 53 [some (.inr (.inr (r0)))] [] G Q) (h5 : (v1) = Int32.ofInt (8) → mj_X d 11008 66 [some (.inr (.inr (r0)))] [] G Q) (h6 : ¬ (v1) = Int32.ofInt (2) → ¬ (v1) = Int32.ofInt (4) → ¬ (v1) = Int32.ofInt (8) → mj_X d 11008 80 [none] [] G Q) : mj_X d 11008 0 [some (.inr (.inr (r0)))] [] G Q := by
  subst h2
  exact mj_X_sp (n := 3) (And.intro h1 ((And.intro (fun q => (h3 q)) (fun n1 => (And.intro (fun q => (h4 q)) (fun n2 => (And.intro (fun q => (h5 q)) (fun n3 => (mj_X_wk (mj_le_n mj_le_0) (h6 n1 n2 n3))))))))))
theorem mk_11008_40 {d : Nat} {Q : mj_O → mj_G → Prop} {G : mj_G} {v1 : Int32} {r0 : Nat} (h1 : mj_k (G) (r0) = 12) (h2 : mj_i (G) (r0) 1 = v1) (h3 : (v1) = ((0 : Int32)) → mj_X d 11008 51 [none] [] G Q) (h4 : ¬ (v1) = ((0 : Int32)) → mj_X d 11008 47 [none] [] G Q) : mj_X d 11008 40 [some (.inr (.inr (r0)))] [] G Q := by
  subst h2
  exact mj_X_sp (n := 3) (And.intro h1 (And.intro (fun q => (mj_X_wk (mj_le_n mj_le_0) (h3 q))) (fun q => (mj_X_wk (mj_le_n mj_le_0) (h4 q)))))
theorem mk_11008_47 {d : Nat} {Q : mj_O → mj_G → Prop} {G : mj_G} (h1 : mj_X d 11008 52 [none] [.inl (Int32.ofInt (1))] G Q) : mj_X d 11008 47 [none] [] G Q := mj_X_sp (n := 2) (h1)
theorem mk_11008_51 {d : Nat} {Q : mj_O → mj_G → Prop} {G : mj_G} (h1 : mj_X d 11008 52 [none] [.inl (Int32.ofInt (0))] G Q) : mj_X d 11008 51 [none] [] G Q := mj_X_sp (n := 1) (h1)
theorem mk_11008_52 {d : Nat} {Q : mj_O → mj_G → Prop} {G : mj_G} {s0 : Int32} (h1 : mj_b (s0)) (h2 : Q (.inl (some (.inl (s0)))) (G)) : mj_X d 11008 52 [none] [.inl (s0)] G Q := mj_X_ir rfl h1 h2
theorem mk_11008_53 {d : Nat} {Q : mj_O → mj_G → Prop} {G : mj_G} {v1 : Int32} {r0 : Nat} (h1 : mj_k (G) (r0) = 12) (h2 : mj_i (G) (r0) 4 = v1) (h3 : (v1) = ((0 : Int32)) → mj_X d 11008 64 [none] [] G Q) (h4 : ¬ (v1) = ((0 : Int32)) → mj_X d 11008 60 [none] [] G Q) : mj_X d 11008 53 [some (.inr (.inr (r0)))] [] G Q := by
  subst h2
  exact mj_X_sp (n := 3) (And.intro h1 (And.intro (fun q => (mj_X_wk (mj_le_n mj_le_0) (h3 q))) (fun q => (mj_X_wk (mj_le_n mj_le_0) (h4 q)))))
theorem mk_11008_60 {d : Nat} {Q : mj_O → mj_G → Prop} {G : mj_G} (h1 : mj_X d 11008 65 [none] [.inl (Int32.ofInt (1))] G Q) : mj_X d 11008 60 [none] [] G Q := mj_X_sp (n := 2) (h1)
theorem mk_11008_64 {d : Nat} {Q : mj_O → mj_G → Prop} {G : mj_G} (h1 : mj_X d 11008 65 [none] [.inl (Int32.ofInt (0))] G Q) : mj_X d 11008 64 [none] [] G Q := mj_X_sp (n := 1) (h1)
theorem mk_11008_65 {d : Nat} {Q : mj_O → mj_G → Prop} {G : mj_G} {s0 : Int32} (h1 : mj_b (s0)) (h2 : Q (.inl (some (.inl (s0)))) (G)) : mj_X d 11008 65 [none] [.inl (s0)] G Q := mj_X_ir rfl h1 h2
theorem mk_11008_66 {d : Nat} {Q : mj_O → mj_G → Prop} {G : mj_G} {v2 : Int32} {r0 v1 : Nat} (h1 : mj_k (G) (r0) = 12) (h2 : mj_r (G) (r0) 5 = v1) (h3 : 20 ≤ mj_k (G) (v1)) (h4 : Int32.ofNat (mj_l (G) (v1)) = v2) (h5 : (v2) = ((0 : Int32)) → mj_X d 11008 78 [none] [] G Q) (h6 : ¬ (v2) = ((0 : Int32)) → mj_X d 11008 74 [none] [] G Q) : mj_X d 11008 66 [some (.inr (.inr (r0)))] [] G Q := by
  subst h2
  subst h4
  exact mj_X_sp (n := 4) (And.intro h1 (And.intro h3 (And.intro (fun q => (mj_X_wk (mj_le_n mj_le_0) (h5 q))) (fun q => (mj_X_wk (mj_le_n mj_le_0) (h6 q))))))
theorem mk_11008_74 {d : Nat} {Q : mj_O → mj_G → Prop} {G : mj_G} (h1 : mj_X d 11008 79 [none] [.inl (Int32.ofInt (1))] G Q) : mj_X d 11008 74 [none] [] G Q := mj_X_sp (n := 2) (h1)
theorem mk_11008_78 {d : Nat} {Q : mj_O → mj_G → Prop} {G : mj_G} (h1 : mj_X d 11008 79 [none] [.inl (Int32.ofInt (0))] G Q) : mj_X d 11008 78 [none] [] G Q := mj_X_sp (n := 1) (h1)
theorem mk_11008_79 {d : Nat} {Q : mj_O → mj_G → Prop} {G : mj_G} {s0 : Int32} (h1 : mj_b (s0)) (h2 : Q (.inl (some (.inl (s0)))) (G)) : mj_X d 11008 79 [none] [.inl (s0)] G Q := mj_X_ir rfl h1 h2
theorem mk_11008_80 {d : Nat} {Q : mj_O → mj_G → Prop} {G : mj_G} (h1 : mj_b (Int32.ofInt (0))) (h2 : Q (.inl (some (.inl (Int32.ofInt (0))))) (G)) : mj_X d 11008 80 [none] [] G Q := mj_X_sp (n := 1) (mj_X_ir rfl h1 h2)
/-! 11009: TemplateQuarry$Value.isLike(LTemplateQuarry$Value;)Z -/
theorem mk_11009_0 {d : Nat} {Q : mj_O → mj_G → Prop} {G : mj_G} {v1 : Int32} {r0 r1 : Nat} (h1 : mj_k (G) (r0) = 12) (h2 : mj_i (G) (r0) 0 = v1) (h3 : ¬ (v1) = ((Int8.ofInt (8)).toInt32) → mj_X d 11009 18 [some (.inr (.inr (r0))), some (.inr (.inr (r1))), none] [] G Q) (h4 : (v1) = ((Int8.ofInt (8)).toInt32) → mj_X d 11009 9 [some (.inr (.inr (r0))), some (.inr (.inr (r1))), none] [] G Q) : mj_X d 11009 0 [some (.inr (.inr (r0))), some (.inr (.inr (r1))), none] [] G Q := by
  subst h2
  exact mj_X_sp (n := 4) (And.intro h1 (And.intro (fun q => (h3 q)) (fun q => (h4 (Decidable.not_not.mp q)))))
theorem mk_11009_9 {d : Nat} {Q : mj_O → mj_G → Prop} {G : mj_G} {v1 : Int32} {r0 r1 : Nat} (h1 : mj_k (G) (r1) = 12) (h2 : mj_i (G) (r1) 0 = v1) (h3 : (v1) = ((Int8.ofInt (8)).toInt32) → mj_X d 11009 24 [some (.inr (.inr (r0))), some (.inr (.inr (r1))), none] [] G Q) (h4 : ¬ (v1) = ((Int8.ofInt (8)).toInt32) → mj_X d 11009 18 [some (.inr (.inr (r0))), some (.inr (.inr (r1))), none] [] G Q) : mj_X d 11009 9 [some (.inr (.inr (r0))), some (.inr (.inr (r1))), none] [] G Q := by
  subst h2
  exact mj_X_sp (n := 4) (And.intro h1 (And.intro (fun q => (h3 q)) (fun q => (h4 q))))
theorem mk_11009_18 {d : Nat} {Q : mj_O → mj_G → Prop} {G : mj_G} {r0 r1 : Nat} (h1 : mj_X d 11009 20 [none, none, none] [.inr (.inr (r1)), .inr (.inr (r0))] G Q) : mj_X d 11009 18 [some (.inr (.inr (r0))), some (.inr (.inr (r1))), none] [] G Q := mj_X_sp (n := 2) ((mj_X_wk (mj_le_n (mj_le_n (mj_le_n mj_le_0))) h1))
theorem mc_11009_20 {d : Nat} {Q : mj_O → mj_G → Prop} {G : mj_G} {t0 t1 : Nat} {R : Int32 → mj_G → Prop} (hk : mj_k G t0 = 12) (h1 : mj_X d 11010 0 [some (.inr (.inr (t0))), some (.inr (.inr (t1))), none, none] [] G (fun o G1 => ∃ v, o = .inl (some (.inl (v))) ∧ R v G1)) (k : ∀ v G1, R v G1 → mj_X (d + 1) 11009 23 [none, none, none] [.inl (v)] G1 Q) : mj_X (d + 1) 11009 20 [none, none, none] [.inr (.inr (t1)), .inr (.inr (t0))] G Q :=
  mj_X_callP rfl rfl rfl (Nat.le_of_ble_eq_true rfl) (And.intro (Nat.le_of_ble_eq_true rfl) hk) h1 (fun o G1 h => by
    obtain ⟨v, rfl, h⟩ := h
    exact mj_X_wk (mj_le_n (mj_le_n (mj_le_n mj_le_0))) (k v G1 h))
theorem mk_11009_23 {d : Nat} {Q : mj_O → mj_G → Prop} {G : mj_G} {s0 : Int32} (h1 : mj_b (s0)) (h2 : Q (.inl (some (.inl (s0)))) (G)) : mj_X d 11009 23 [none, none, none] [.inl (s0)] G Q := mj_X_ir rfl h1 h2
theorem mk_11009_24 {d : Nat} {Q : mj_O → mj_G → Prop} {G : mj_G} {v2 v4 : Int32} {r0 r1 v1 v3 : Nat} (h1 : mj_k (G) (r0) = 12) (h2 : mj_r (G) (r0) 5 = v1) (h3 : 20 ≤ mj_k (G) (v1)) (h4 : Int32.ofNat (mj_l (G) (v1)) = v2) (h5 : mj_k (G) (r1) = 12) (h6 : mj_r (G) (r1) 5 = v3) (h7 : 20 ≤ mj_k (G) (v3)) (h8 : Int32.ofNat (mj_l (G) (v3)) = v4) (h9 : (v2) = (v4) → mj_X d 11009 39 [some (.inr (.inr (r0))), some (.inr (.inr (r1))), none] [] G Q) (h10 : ¬ (v2) = (v4) → mj_X d 11009 37 [none, none, none] [] G Q) : mj_X d 11009 24 [some (.inr (.inr (r0))), some (.inr (.inr (r1))), none] [] G Q := by
  subst h2
  subst h4
  subst h6
  subst h8
  exact mj_X_sp (n := 7) (And.intro h1 (And.intro h3 (And.intro h5 (And.intro h7 (And.intro (fun q => (h9 q)) (fun q => (mj_X_wk (mj_le_n (mj_le_n (mj_le_n mj_le_0))) (h10 q))))))))
theorem mk_11009_37 {d : Nat} {Q : mj_O → mj_G → Prop} {G : mj_G} (h1 : mj_b (Int32.ofInt (0))) (h2 : Q (.inl (some (.inl (Int32.ofInt (0))))) (G)) : mj_X d 11009 37 [none, none, none] [] G Q := mj_X_sp (n := 1) (mj_X_ir rfl h1 h2)
theorem mk_11009_39 {d : Nat} {Q : mj_O → mj_G → Prop} {G : mj_G} {r0 r1 : Nat} (h1 : mj_X d 11009 41 [some (.inr (.inr (r0))), some (.inr (.inr (r1))), some (.inl (Int32.ofInt (0)))] [] G Q) : mj_X d 11009 39 [some (.inr (.inr (r0))), some (.inr (.inr (r1))), none] [] G Q := mj_X_sp (n := 2) (h1)
theorem mk_11009_41 {d : Nat} {Q : mj_O → mj_G → Prop} {G : mj_G} {x2 v2 : Int32} {r0 r1 v1 : Nat} (h1 : mj_k (G) (r0) = 12) (h2 : mj_r (G) (r0) 5 = v1) (h3 : 20 ≤ mj_k (G) (v1)) (h4 : Int32.ofNat (mj_l (G) (v1)) = v2) (h5 : (v2) ≤ (x2) → mj_X d 11009 76 [none, none, none] [] G Q) (h6 : ¬ (v2) ≤ (x2) → mj_X d 11009 50 [some (.inr (.inr (r0))), some (.inr (.inr (r1))), some (.inl (x2))] [] G Q) : mj_X d 11009 41 [some (.inr (.inr (r0))), some (.inr (.inr (r1))), some (.inl (x2))] [] G Q := by
  subst h2
  subst h4
  exact mj_X_sp (n := 5) (And.intro h1 (And.intro h3 (And.intro (fun q => (mj_X_wk (mj_le_n (mj_le_n (mj_le_n mj_le_0))) (h5 q))) (fun q => (h6 q)))))
theorem mk_11009_50 {d : Nat} {Q : mj_O → mj_G → Prop} {G : mj_G} {x2 : Int32} {r0 r1 v1 v2 v3 v4 : Nat} (h1 : mj_k (G) (r0) = 12) (h2 : mj_r (G) (r0) 5 = v1) (h3 : 30 ≤ mj_k (G) (v1)) (h4 : vp_in (x2) (mj_l (G) (v1))) (h5 : mj_r (G) (v1) (x2).toNatClampNeg = v2) (h6 : mj_k (G) (r1) = 12) (h7 : mj_r (G) (r1) 5 = v3) (h8 : 30 ≤ mj_k (G) (v3)) (h9 : vp_in (x2) (mj_l (G) (v3))) (h10 : mj_r (G) (v3) (x2).toNatClampNeg = v4) (h11 : mj_X d 11009 62 [some (.inr (.inr (r0))), some (.inr (.inr (r1))), some (.inl (x2))] [.inr (.inr (v4)), .inr (.inr (v2))] G Q) : mj_X d 11009 50 [some (.inr (.inr (r0))), some (.inr (.inr (r1))), some (.inl (x2))] [] G Q := by
  subst h2
  subst h5
  subst h7
  subst h10
  exact mj_X_sp (n := 8) (And.intro h1 (And.intro h3 (And.intro h4 (And.intro h6 (And.intro h8 (And.intro h9 (h11)))))))
theorem mc_11009_62 {d : Nat} {Q : mj_O → mj_G → Prop} {G : mj_G} {x2 : Int32} {r0 r1 t0 t1 : Nat} {R : Int32 → mj_G → Prop} (hk : mj_k G t0 = 12) (h1 : mj_X d 11010 0 [some (.inr (.inr (t0))), some (.inr (.inr (t1))), none, none] [] G (fun o G1 => ∃ v, o = .inl (some (.inl (v))) ∧ R v G1)) (k : ∀ v G1, R v G1 → mj_X (d + 1) 11009 65 [some (.inr (.inr (r0))), some (.inr (.inr (r1))), some (.inl (x2))] [.inl (v)] G1 Q) : mj_X (d + 1) 11009 62 [some (.inr (.inr (r0))), some (.inr (.inr (r1))), some (.inl (x2))] [.inr (.inr (t1)), .inr (.inr (t0))] G Q :=
  mj_X_callP rfl rfl rfl (Nat.le_of_ble_eq_true rfl) (And.intro (Nat.le_of_ble_eq_true rfl) hk) h1 (fun o G1 h => by
    obtain ⟨v, rfl, h⟩ := h
    exact mj_X_wk (mj_le_s (mj_le_s (mj_le_s mj_le_0))) (k v G1 h))
theorem mk_11009_65 {d : Nat} {Q : mj_O → mj_G → Prop} {G : mj_G} {x2 s0 : Int32} {r0 r1 : Nat} (h1 : ¬ (s0) = ((0 : Int32)) → mj_X d 11009 70 [some (.inr (.inr (r0))), some (.inr (.inr (r1))), some (.inl (x2))] [] G Q) (h2 : (s0) = ((0 : Int32)) → mj_X d 11009 68 [none, none, none] [] G Q) : mj_X d 11009 65 [some (.inr (.inr (r0))), some (.inr (.inr (r1))), some (.inl (x2))] [.inl (s0)] G Q := mj_X_sp (n := 1) (And.intro (fun q => (h1 q)) (fun q => (mj_X_wk (mj_le_n (mj_le_n (mj_le_n mj_le_0))) (h2 (Decidable.not_not.mp q)))))
theorem mk_11009_68 {d : Nat} {Q : mj_O → mj_G → Prop} {G : mj_G} (h1 : mj_b (Int32.ofInt (0))) (h2 : Q (.inl (some (.inl (Int32.ofInt (0))))) (G)) : mj_X d 11009 68 [none, none, none] [] G Q := mj_X_sp (n := 1) (mj_X_ir rfl h1 h2)
theorem mk_11009_70 {d : Nat} {Q : mj_O → mj_G → Prop} {G : mj_G} {x2 : Int32} {r0 r1 : Nat} (h1 : mj_X d 11009 41 [some (.inr (.inr (r0))), some (.inr (.inr (r1))), some (.inl ((x2) + Int32.ofInt (1)))] [] G Q) : mj_X d 11009 70 [some (.inr (.inr (r0))), some (.inr (.inr (r1))), some (.inl (x2))] [] G Q := mj_X_sp (n := 2) (h1)
theorem mk_11009_76 {d : Nat} {Q : mj_O → mj_G → Prop} {G : mj_G} (h1 : mj_b (Int32.ofInt (1))) (h2 : Q (.inl (some (.inl (Int32.ofInt (1))))) (G)) : mj_X d 11009 76 [none, none, none] [] G Q := mj_X_sp (n := 1) (mj_X_ir rfl h1 h2)
/-! 11010: TemplateQuarry$Value.isPlainlyLike(LTemplateQuarry$Value;)Z -/
theorem mk_11010_0 {d : Nat} {Q : mj_O → mj_G → Prop} {G : mj_G} {v1 v2 : Int32} {r0 r1 : Nat} (h1 : mj_k (G) (r0) = 12) (h2 : mj_i (G) (r0) 0 = v1) (h3 : mj_k (G) (r1) = 12) (h4 : mj_i (G) (r1) 0 = v2) (h5 : (v1) = (v2) → mj_X d 11010 13 [some (.inr (.inr (r0))), some (.inr (.inr (r1))), none, none] [] G Q) (h6 : ¬ (v1) = (v2) → mj_X d 11010 11 [none, none, none, none] [] G Q) : mj_X d 11010 0 [some (.inr (.inr (r0))), some (.inr (.inr (r1))), none, none] [] G Q := by
  subst h2
  subst h4
  exact mj_X_sp (n := 5) (And.intro h1 (And.intro h3 (And.intro (fun q => (h5 q)) (fun q => (mj_X_wk (mj_le_n (mj_le_n (mj_le_n (mj_le_n mj_le_0)))) (h6 q))))))
theorem mk_11010_11 {d : Nat} {Q : mj_O → mj_G → Prop} {G : mj_G} (h1 : mj_b (Int32.ofInt (0))) (h2 : Q (.inl (some (.inl (Int32.ofInt (0))))) (G)) : mj_X d 11010 11 [none, none, none, none] [] G Q := mj_X_sp (n := 1) (mj_X_ir rfl h1 h2)
theorem mk_11010_13 {d : Nat} {Q : mj_O → mj_G → Prop} {G : mj_G} {v1 : Int32} {r0 r1 : Nat} (h1 : mj_k (G) (r0) = 12) (h2 : mj_i (G) (r0) 0 = v1) (h3 : (v1) = (Int32.ofInt (4)) → mj_X d 11010 46 [some (.inr (.inr (r0))), some (.inr (.inr (r1))), none, none] [] G Q) (h4 : ¬ (v1) = (Int32.ofInt (4)) → mj_X d 11010 21 [some (.inr (.inr (r0))), some (.inr (.inr (r1))), none, none] [] G Q) : mj_X d 11010 13 [some (.inr (.inr (r0))), some (.inr (.inr (r1))), none, none] [] G Q := by
  subst h2
  exact mj_X_sp (n := 4) (And.intro h1 (And.intro (fun q => (h3 q)) (fun q => (h4 q))))
theorem mk_11010_21 {d : Nat} {Q : mj_O → mj_G → Prop} {G : mj_G} {v1 : Int32} {r0 r1 : Nat} (h1 : mj_k (G) (r0) = 12) (h2 : mj_i (G) (r0) 0 = v1) (h3 : (v1) = (Int32.ofInt (1)) → mj_X d 11010 40 [none, none, none, none] [] G Q) (h4 : ¬ (v1) = (Int32.ofInt (1)) → mj_X d 11010 29 [some (.inr (.inr (r0))), some (.inr (.inr (r1))), none, none] [] G Q) : mj_X d 11010 21 [some (.inr (.inr (r0))), some (.inr (.inr (r1))), none, none] [] G Q := by
  subst h2
  exact mj_X_sp (n := 4) (And.intro h1 (And.intro (fun q => (mj_X_wk (mj_le_n (mj_le_n (mj_le_n (mj_le_n mj_le_0)))) (h3 q))) (fun q => (h4 q))))
theorem mk_11010_29 {d : Nat} {Q : mj_O → mj_G → Prop} {G : mj_G} {v1 v2 : Int32} {r0 r1 : Nat} (h1 : mj_k (G) (r0) = 12) (h2 : mj_i (G) (r0) 1 = v1) (h3 : mj_k (G) (r1) = 12) (h4 : mj_i (G) (r1) 1 = v2) (h5 : ¬ (v1) = (v2) → mj_X d 11010 44 [none, none, none, none] [] G Q) (h6 : (v1) = (v2) → mj_X d 11010 40 [none, none, none, none] [] G Q) : mj_X d 11010 29 [some (.inr (.inr (r0))), some (.inr (.inr (r1))), none, none] [] G Q := by
  subst h2
  subst h4
  exact mj_X_sp (n := 5) (And.intro h1 (And.intro h3 (And.intro (fun q => (mj_X_wk (mj_le_n (mj_le_n (mj_le_n (mj_le_n mj_le_0)))) (h5 q))) (fun q => (mj_X_wk (mj_le_n (mj_le_n (mj_le_n (mj_le_n mj_le_0)))) (h6 (Decidable.not_not.mp q)))))))
theorem mk_11010_40 {d : Nat} {Q : mj_O → mj_G → Prop} {G : mj_G} (h1 : mj_X d 11010 45 [none, none, none, none] [.inl (Int32.ofInt (1))] G Q) : mj_X d 11010 40 [none, none, none, none] [] G Q := mj_X_sp (n := 2) (h1)
theorem mk_11010_44 {d : Nat} {Q : mj_O → mj_G → Prop} {G : mj_G} (h1 : mj_X d 11010 45 [none, none, none, none] [.inl (Int32.ofInt (0))] G Q) : mj_X d 11010 44 [none, none, none, none] [] G Q := mj_X_sp (n := 1) (h1)
theorem mk_11010_45 {d : Nat} {Q : mj_O → mj_G → Prop} {G : mj_G} {s0 : Int32} (h1 : mj_b (s0)) (h2 : Q (.inl (some (.inl (s0)))) (G)) : mj_X d 11010 45 [none, none, none, none] [.inl (s0)] G Q := mj_X_ir rfl h1 h2
theorem mk_11010_46 {d : Nat} {Q : mj_O → mj_G → Prop} {G : mj_G} {v1 v2 : Int32} {r0 r1 : Nat} (h1 : mj_k (G) (r0) = 12) (h2 : mj_i (G) (r0) 4 = v1) (h3 : mj_k (G) (r1) = 12) (h4 : mj_i (G) (r1) 4 = v2) (h5 : ¬ (v1) = (v2) → mj_X d 11010 61 [some (.inr (.inr (r0))), some (.inr (.inr (r1))), none, none] [] G Q) (h6 : (v1) = (v2) → mj_X d 11010 57 [some (.inr (.inr (r0))), some (.inr (.inr (r1))), none, none] [] G Q) : mj_X d 11010 46 [some (.inr (.inr (r0))), some (.inr (.inr (r1))), none, none] [] G Q := by
  subst h2
  subst h4
  exact mj_X_sp (n := 5) (And.intro h1 (And.intro h3 (And.intro (fun q => (h5 q)) (fun q => (h6 (Decidable.not_not.mp q))))))
theorem mk_11010_57 {d : Nat} {Q : mj_O → mj_G → Prop} {G : mj_G} {r0 r1 : Nat} (h1 : mj_X d 11010 62 [some (.inr (.inr (r0))), some (.inr (.inr (r1))), none, none] [.inl (Int32.ofInt (1))] G Q) : mj_X d 11010 57 [some (.inr (.inr (r0))), some (.inr (.inr (r1))), none, none] [] G Q := mj_X_sp (n := 2) (h1)
theorem mk_11010_61 {d : Nat} {Q : mj_O → mj_G → Prop} {G : mj_G} {r0 r1 : Nat} (h1 : mj_X d 11010 62 [some (.inr (.inr (r0))), some (.inr (.inr (r1))), none, none] [.inl (Int32.ofInt (0))] G Q) : mj_X d 11010 61 [some (.inr (.inr (r0))), some (.inr (.inr (r1))), none, none] [] G Q := mj_X_sp (n := 1) (h1)
theorem mk_11010_62 {d : Nat} {Q : mj_O → mj_G → Prop} {G : mj_G} {s0 : Int32} {r0 r1 : Nat} (h1 : mj_X d 11010 65 [some (.inr (.inr (r0))), some (.inr (.inr (r1))), some (.inl (s0)), some (.inl (Int32.ofInt (0)))] [] G Q) : mj_X d 11010 62 [some (.inr (.inr (r0))), some (.inr (.inr (r1))), none, none] [.inl (s0)] G Q := mj_X_sp (n := 3) (h1)
theorem mk_11010_65 {d : Nat} {Q : mj_O → mj_G → Prop} {G : mj_G} {x2 x3 : Int32} {r0 r1 : Nat} (h1 : (x2) = ((0 : Int32)) → mj_X d 11010 104 [none, none, some (.inl (x2)), none] [] G Q) (h2 : ¬ (x2) = ((0 : Int32)) → mj_X d 11010 69 [some (.inr (.inr (r0))), some (.inr (.inr (r1))), some (.inl (x2)), some (.inl (x3))] [] G Q) : mj_X d 11010 65 [some (.inr (.inr (r0))), some (.inr (.inr (r1))), some (.inl (x2)), some (.inl (x3))] [] G Q := mj_X_sp (n := 2) (And.intro (fun q => (mj_X_wk (mj_le_n (mj_le_n (mj_le_s (mj_le_n mj_le_0)))) (h1 q))) (fun q => (h2 q)))
theorem mk_11010_69 {d : Nat} {Q : mj_O → mj_G → Prop} {G : mj_G} {x2 x3 v1 : Int32} {r0 r1 : Nat} (h1 : mj_k (G) (r0) = 12) (h2 : mj_i (G) (r0) 4 = v1) (h3 : (v1) ≤ (x3) → mj_X d 11010 104 [none, none, some (.inl (x2)), none] [] G Q) (h4 : ¬ (v1) ≤ (x3) → mj_X d 11010 77 [some (.inr (.inr (r0))), some (.inr (.inr (r1))), none, some (.inl (x3))] [] G Q) : mj_X d 11010 69 [some (.inr (.inr (r0))), some (.inr (.inr (r1))), some (.inl (x2)), some (.inl (x3))] [] G Q := by
  subst h2
  exact mj_X_sp (n := 4) (And.intro h1 (And.intro (fun q => (mj_X_wk (mj_le_n (mj_le_n (mj_le_s (mj_le_n mj_le_0)))) (h3 q))) (fun q => (mj_X_wk (mj_le_s (mj_le_s (mj_le_n (mj_le_s mj_le_0)))) (h4 q)))))
theorem mk_11010_77 {d : Nat} {Q : mj_O → mj_G → Prop} {G : mj_G} {x3 v2 v4 : Int32} {r0 r1 v1 v3 : Nat} (h1 : mj_k (G) (r0) = 12) (h2 : mj_r (G) (r0) 3 = v1) (h3 : mj_k (G) (v1) = 22) (h4 : vp_in (x3) (mj_l (G) (v1))) (h5 : mj_i (G) (v1) (x3).toNatClampNeg = v2) (h6 : mj_k (G) (r1) = 12) (h7 : mj_r (G) (r1) 3 = v3) (h8 : mj_k (G) (v3) = 22) (h9 : vp_in (x3) (mj_l (G) (v3))) (h10 : mj_i (G) (v3) (x3).toNatClampNeg = v4) (h11 : ¬ (v2) = (v4) → mj_X d 11010 96 [some (.inr (.inr (r0))), some (.inr (.inr (r1))), none, some (.inl (x3))] [] G Q) (h12 : (v2) = (v4) → mj_X d 11010 92 [some (.inr (.inr (r0))), some (.inr (.inr (r1))), none, some (.inl (x3))] [] G Q) : mj_X d 11010 77 [some (.inr (.inr (r0))), some (.inr (.inr (r1))), none, some (.inl (x3))] [] G Q := by
  subst h2
  subst h5
  subst h7
  subst h10
  exact mj_X_sp (n := 9) (And.intro h1 (And.intro h3 (And.intro h4 (And.intro h6 (And.intro h8 (And.intro h9 (And.intro (fun q => (h11 q)) (fun q => (h12 (Decidable.not_not.mp q))))))))))
theorem mk_11010_92 {d : Nat} {Q : mj_O → mj_G → Prop} {G : mj_G} {x3 : Int32} {r0 r1 : Nat} (h1 : mj_X d 11010 97 [some (.inr (.inr (r0))), some (.inr (.inr (r1))), none, some (.inl (x3))] [.inl (Int32.ofInt (1))] G Q) : mj_X d 11010 92 [some (.inr (.inr (r0))), some (.inr (.inr (r1))), none, some (.inl (x3))] [] G Q := mj_X_sp (n := 2) (h1)
theorem mk_11010_96 {d : Nat} {Q : mj_O → mj_G → Prop} {G : mj_G} {x3 : Int32} {r0 r1 : Nat} (h1 : mj_X d 11010 97 [some (.inr (.inr (r0))), some (.inr (.inr (r1))), none, some (.inl (x3))] [.inl (Int32.ofInt (0))] G Q) : mj_X d 11010 96 [some (.inr (.inr (r0))), some (.inr (.inr (r1))), none, some (.inl (x3))] [] G Q := mj_X_sp (n := 1) (h1)
theorem mk_11010_97 {d : Nat} {Q : mj_O → mj_G → Prop} {G : mj_G} {x3 s0 : Int32} {r0 r1 : Nat} (h1 : mj_X d 11010 65 [some (.inr (.inr (r0))), some (.inr (.inr (r1))), some (.inl (s0)), some (.inl ((x3) + Int32.ofInt (1)))] [] G Q) : mj_X d 11010 97 [some (.inr (.inr (r0))), some (.inr (.inr (r1))), none, some (.inl (x3))] [.inl (s0)] G Q := mj_X_sp (n := 3) (h1)
theorem mk_11010_104 {d : Nat} {Q : mj_O → mj_G → Prop} {G : mj_G} {x2 : Int32} (h1 : mj_b (x2)) (h2 : Q (.inl (some (.inl (x2)))) (G)) : mj_X d 11010 104 [none, none, some (.inl (x2)), none] [] G Q := mj_X_sp (n := 1) (mj_X_ir rfl h1 h2)
/-! 11011: TemplateQuarry$Value.isSafeLike(LTemplateQuarry$Value;)Z -/
theorem mk_11011_0 {d : Nat} {Q : mj_O → mj_G → Prop} {G : mj_G} {v1 : Int32} {r0 r1 : Nat} (h1 : mj_k (G) (r0) = 12) (h2 : mj_i (G) (r0) 0 = v1) (h3 : ¬ (v1) = (Int32.ofInt (4)) → mj_X d 11011 19 [none, none] [] G Q) (h4 : (v1) = (Int32.ofInt (4)) → mj_X d 11011 8 [some (.inr (.inr (r0))), some (.inr (.inr (r1)))] [] G Q) : mj_X d 11011 0 [some (.inr (.inr (r0))), some (.inr (.inr (r1)))] [] G Q := by
  subst h2
  exact mj_X_sp (n := 4) (And.intro h1 (And.intro (fun q => (mj_X_wk (mj_le_n (mj_le_n mj_le_0)) (h3 q))) (fun q => (h4 (Decidable.not_not.mp q)))))
theorem mk_11011_8 {d : Nat} {Q : mj_O → mj_G → Prop} {G : mj_G} {v1 v2 : Int32} {r0 r1 : Nat} (h1 : mj_k (G) (r0) = 12) (h2 : mj_i (G) (r0) 2 = v1) (h3 : mj_k (G) (r1) = 12) (h4 : mj_i (G) (r1) 2 = v2) (h5 : ¬ (v1) = (v2) → mj_X d 11011 23 [none, none] [] G Q) (h6 : (v1) = (v2) → mj_X d 11011 19 [none, none] [] G Q) : mj_X d 11011 8 [some (.inr (.inr (r0))), some (.inr (.inr (r1)))] [] G Q := by
  subst h2
  subst h4
  exact mj_X_sp (n := 5) (And.intro h1 (And.intro h3 (And.intro (fun q => (mj_X_wk (mj_le_n (mj_le_n mj_le_0)) (h5 q))) (fun q => (mj_X_wk (mj_le_n (mj_le_n mj_le_0)) (h6 (Decidable.not_not.mp q)))))))
theorem mk_11011_19 {d : Nat} {Q : mj_O → mj_G → Prop} {G : mj_G} (h1 : mj_X d 11011 24 [none, none] [.inl (Int32.ofInt (1))] G Q) : mj_X d 11011 19 [none, none] [] G Q := mj_X_sp (n := 2) (h1)
theorem mk_11011_23 {d : Nat} {Q : mj_O → mj_G → Prop} {G : mj_G} (h1 : mj_X d 11011 24 [none, none] [.inl (Int32.ofInt (0))] G Q) : mj_X d 11011 23 [none, none] [] G Q := mj_X_sp (n := 1) (h1)
theorem mk_11011_24 {d : Nat} {Q : mj_O → mj_G → Prop} {G : mj_G} {s0 : Int32} (h1 : mj_b (s0)) (h2 : Q (.inl (some (.inl (s0)))) (G)) : mj_X d 11011 24 [none, none] [.inl (s0)] G Q := mj_X_ir rfl h1 h2
/-! 11012: TemplateQuarry$Value.isTextBefore(LTemplateQuarry$Value;)Z -/
theorem mk_11012_0 {d : Nat} {Q : mj_O → mj_G → Prop} {G : mj_G} {r0 r1 : Nat} (h1 : mj_X d 11012 2 [some (.inr (.inr (r0))), some (.inr (.inr (r1))), none] [.inr (.inr (r1)), .inr (.inr (r0))] G Q) : mj_X d 11012 0 [some (.inr (.inr (r0))), some (.inr (.inr (r1))), none] [] G Q := mj_X_sp (n := 2) (h1)
theorem mc_11012_2 {d : Nat} {Q : mj_O → mj_G → Prop} {G : mj_G} {r0 r1 t0 t1 : Nat} {R : Int32 → mj_G → Prop} (hk : mj_k G t0 = 12) (h1 : mj_X d 11013 0 [some (.inr (.inr (t0))), some (.inr (.inr (t1))), none, none] [] G (fun o G1 => ∃ v, o = .inl (some (.inl (v))) ∧ R v G1)) (k : ∀ v G1, R v G1 → mj_X (d + 1) 11012 5 [some (.inr (.inr (r0))), some (.inr (.inr (r1))), none] [.inl (v)] G1 Q) : mj_X (d + 1) 11012 2 [some (.inr (.inr (r0))), some (.inr (.inr (r1))), none] [.inr (.inr (t1)), .inr (.inr (t0))] G Q :=
  mj_X_callP rfl rfl rfl (Nat.le_of_ble_eq_true rfl) (And.intro (Nat.le_of_ble_eq_true rfl) hk) h1 (fun o G1 h => by
    obtain ⟨v, rfl, h⟩ := h
    exact mj_X_wk (mj_le_s (mj_le_s (mj_le_n mj_le_0))) (k v G1 h))
theorem mk_11012_5 {d : Nat} {Q : mj_O → mj_G → Prop} {G : mj_G} {s0 v1 : Int32} {r0 r1 : Nat} (h1 : mj_k (G) (r1) = 12) (h2 : mj_i (G) (r1) 4 = v1) (h3 : (s0) < (v1) → mj_X d 11012 16 [some (.inr (.inr (r0))), some (.inr (.inr (r1))), some (.inl (s0))] [] G Q) (h4 : ¬ (s0) < (v1) → mj_X d 11012 14 [none, none, none] [] G Q) : mj_X d 11012 5 [some (.inr (.inr (r0))), some (.inr (.inr (r1))), none] [.inl (s0)] G Q := by
  subst h2
  exact mj_X_sp (n := 5) (And.intro h1 (And.intro (fun q => (h3 q)) (fun q => (mj_X_wk (mj_le_n (mj_le_n (mj_le_n mj_le_0))) (h4 q)))))
theorem mk_11012_14 {d : Nat} {Q : mj_O → mj_G → Prop} {G : mj_G} (h1 : mj_b (Int32.ofInt (0))) (h2 : Q (.inl (some (.inl (Int32.ofInt (0))))) (G)) : mj_X d 11012 14 [none, none, none] [] G Q := mj_X_sp (n := 1) (mj_X_ir rfl h1 h2)
theorem mk_11012_16 {d : Nat} {Q : mj_O → mj_G → Prop} {G : mj_G} {x2 v1 : Int32} {r0 r1 : Nat} (h1 : mj_k (G) (r0) = 12) (h2 : mj_i (G) (r0) 4 = v1) (h3 : (v1) ≤ (x2) → mj_X d 11012 39 [none, none, none] [] G Q) (h4 : ¬ (v1) ≤ (x2) → mj_X d 11012 24 [some (.inr (.inr (r0))), some (.inr (.inr (r1))), some (.inl (x2))] [] G Q) : mj_X d 11012 16 [some (.inr (.inr (r0))), some (.inr (.inr (r1))), some (.inl (x2))] [] G Q := by
  subst h2
  exact mj_X_sp (n := 4) (And.intro h1 (And.intro (fun q => (mj_X_wk (mj_le_n (mj_le_n (mj_le_n mj_le_0))) (h3 q))) (fun q => (h4 q))))
theorem mk_11012_24 {d : Nat} {Q : mj_O → mj_G → Prop} {G : mj_G} {x2 v2 v4 : Int32} {r0 r1 v1 v3 : Nat} (h1 : mj_k (G) (r0) = 12) (h2 : mj_r (G) (r0) 3 = v1) (h3 : mj_k (G) (v1) = 22) (h4 : vp_in (x2) (mj_l (G) (v1))) (h5 : mj_i (G) (v1) (x2).toNatClampNeg = v2) (h6 : mj_k (G) (r1) = 12) (h7 : mj_r (G) (r1) 3 = v3) (h8 : mj_k (G) (v3) = 22) (h9 : vp_in (x2) (mj_l (G) (v3))) (h10 : mj_i (G) (v3) (x2).toNatClampNeg = v4) (h11 : (v4) ≤ (v2) → mj_X d 11012 43 [none, none, none] [] G Q) (h12 : ¬ (v4) ≤ (v2) → mj_X d 11012 39 [none, none, none] [] G Q) : mj_X d 11012 24 [some (.inr (.inr (r0))), some (.inr (.inr (r1))), some (.inl (x2))] [] G Q := by
  subst h2
  subst h5
  subst h7
  subst h10
  exact mj_X_sp (n := 9) (And.intro h1 (And.intro h3 (And.intro h4 (And.intro h6 (And.intro h8 (And.intro h9 (And.intro (fun q => (mj_X_wk (mj_le_n (mj_le_n (mj_le_n mj_le_0))) (h11 q))) (fun q => (mj_X_wk (mj_le_n (mj_le_n (mj_le_n mj_le_0))) (h12 q))))))))))
theorem mk_11012_39 {d : Nat} {Q : mj_O → mj_G → Prop} {G : mj_G} (h1 : mj_X d 11012 44 [none, none, none] [.inl (Int32.ofInt (1))] G Q) : mj_X d 11012 39 [none, none, none] [] G Q := mj_X_sp (n := 2) (h1)
theorem mk_11012_43 {d : Nat} {Q : mj_O → mj_G → Prop} {G : mj_G} (h1 : mj_X d 11012 44 [none, none, none] [.inl (Int32.ofInt (0))] G Q) : mj_X d 11012 43 [none, none, none] [] G Q := mj_X_sp (n := 1) (h1)
theorem mk_11012_44 {d : Nat} {Q : mj_O → mj_G → Prop} {G : mj_G} {s0 : Int32} (h1 : mj_b (s0)) (h2 : Q (.inl (some (.inl (s0)))) (G)) : mj_X d 11012 44 [none, none, none] [.inl (s0)] G Q := mj_X_ir rfl h1 h2
/-! 11013: TemplateQuarry$Value.firstDifference(LTemplateQuarry$Value;)I -/
theorem mk_11013_0 {d : Nat} {Q : mj_O → mj_G → Prop} {G : mj_G} {v1 v2 : Int32} {r0 r1 : Nat} (h1 : mj_k (G) (r0) = 12) (h2 : mj_i (G) (r0) 4 = v1) (h3 : mj_k (G) (r1) = 12) (h4 : mj_i (G) (r1) 4 = v2) (h5 : mj_X d 11013 14 [some (.inr (.inr (r0))), some (.inr (.inr (r1))), some (.inl (mj_mn (v1) (v2))), some (.inl (Int32.ofInt (0)))] [] G Q) : mj_X d 11013 0 [some (.inr (.inr (r0))), some (.inr (.inr (r1))), none, none] [] G Q := by
  subst h2
  subst h4
  exact mj_X_sp (n := 8) (And.intro h1 (And.intro h3 (And.intro (Nat.le_of_ble_eq_true rfl) (h5))))
theorem mk_11013_14 {d : Nat} {Q : mj_O → mj_G → Prop} {G : mj_G} {x2 x3 : Int32} {r0 r1 : Nat} (h1 : (x2) ≤ (x3) → mj_X d 11013 42 [none, none, some (.inl (x2)), none] [] G Q) (h2 : ¬ (x2) ≤ (x3) → mj_X d 11013 19 [some (.inr (.inr (r0))), some (.inr (.inr (r1))), some (.inl (x2)), some (.inl (x3))] [] G Q) : mj_X d 11013 14 [some (.inr (.inr (r0))), some (.inr (.inr (r1))), some (.inl (x2)), some (.inl (x3))] [] G Q := mj_X_sp (n := 3) (And.intro (fun q => (mj_X_wk (mj_le_n (mj_le_n (mj_le_s (mj_le_n mj_le_0)))) (h1 q))) (fun q => (h2 q)))
theorem mk_11013_19 {d : Nat} {Q : mj_O → mj_G → Prop} {G : mj_G} {x2 x3 v2 v4 : Int32} {r0 r1 v1 v3 : Nat} (h1 : mj_k (G) (r0) = 12) (h2 : mj_r (G) (r0) 3 = v1) (h3 : mj_k (G) (v1) = 22) (h4 : vp_in (x3) (mj_l (G) (v1))) (h5 : mj_i (G) (v1) (x3).toNatClampNeg = v2) (h6 : mj_k (G) (r1) = 12) (h7 : mj_r (G) (r1) 3 = v3) (h8 : mj_k (G) (v3) = 22) (h9 : vp_in (x3) (mj_l (G) (v3))) (h10 : mj_i (G) (v3) (x3).toNatClampNeg = v4) (h11 : (v2) = (v4) → mj_X d 11013 36 [some (.inr (.inr (r0))), some (.inr (.inr (r1))), some (.inl (x2)), some (.inl (x3))] [] G Q) (h12 : ¬ (v2) = (v4) → mj_X d 11013 34 [none, none, none, some (.inl (x3))] [] G Q) : mj_X d 11013 19 [some (.inr (.inr (r0))), some (.inr (.inr (r1))), some (.inl (x2)), some (.inl (x3))] [] G Q := by
  subst h2
  subst h5
  subst h7
  subst h10
  exact mj_X_sp (n := 9) (And.intro h1 (And.intro h3 (And.intro h4 (And.intro h6 (And.intro h8 (And.intro h9 (And.intro (fun q => (h11 q)) (fun q => (mj_X_wk (mj_le_n (mj_le_n (mj_le_n (mj_le_s mj_le_0)))) (h12 q))))))))))
theorem mk_11013_34 {d : Nat} {Q : mj_O → mj_G → Prop} {G : mj_G} {x3 : Int32} (h1 : Q (.inl (some (.inl (x3)))) (G)) : mj_X d 11013 34 [none, none, none, some (.inl (x3))] [] G Q := mj_X_sp (n := 1) (mj_X_ir rfl trivial h1)
theorem mk_11013_36 {d : Nat} {Q : mj_O → mj_G → Prop} {G : mj_G} {x2 x3 : Int32} {r0 r1 : Nat} (h1 : mj_X d 11013 14 [some (.inr (.inr (r0))), some (.inr (.inr (r1))), some (.inl (x2)), some (.inl ((x3) + Int32.ofInt (1)))] [] G Q) : mj_X d 11013 36 [some (.inr (.inr (r0))), some (.inr (.inr (r1))), some (.inl (x2)), some (.inl (x3))] [] G Q := mj_X_sp (n := 2) (h1)
theorem mk_11013_42 {d : Nat} {Q : mj_O → mj_G → Prop} {G : mj_G} {x2 : Int32} (h1 : Q (.inl (some (.inl (x2)))) (G)) : mj_X d 11013 42 [none, none, some (.inl (x2)), none] [] G Q := mj_X_sp (n := 1) (mj_X_ir rfl trivial h1)
