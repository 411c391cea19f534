/-! BLOCKS OF THE STACK (wip/tools/blk.py) -/
/-! 9000: TemplateQuarry$Stack.<init>()V -/
theorem mk_9000_0 {d : Nat} {Q : mj_O → mj_G → Prop} {G : mj_G} {r0 v1 v2 v3 : Nat} {G1 G2 G3 G4 G5 G6 G7 : mj_G} (h1 : mj_k (G) (r0) ≠ 0) (h2 : ¬ ((Int8.ofInt (26)).toInt32) < 0) (h3 : ((Int8.ofInt (26)).toInt32).toNatClampNeg ≤ 1000000) (h4 : mj_n (G) = v1) (h5 : G1 = mj_al (G) 41 ((Int8.ofInt (26)).toInt32).toNatClampNeg (fun _ => 0)) (h6 : mj_k (G1) (r0) = 10) (h7 : G2 = mj_pR (G1) (r0) 0 (v1)) (h8 : ¬ ((Int16.ofInt (320)).toInt32) < 0) (h9 : ((Int16.ofInt (320)).toInt32).toNatClampNeg ≤ 1000000) (h10 : mj_n (G2) = v2) (h11 : G3 = mj_al (G2) 41 ((Int16.ofInt (320)).toInt32).toNatClampNeg (fun _ => 0)) (h12 : mj_k (G3) (r0) = 10) (h13 : G4 = mj_pR (G3) (r0) 1 (v2)) (h14 : ¬ ((Int16.ofInt (200)).toInt32) < 0) (h15 : ((Int16.ofInt (200)).toInt32).toNatClampNeg ≤ 1000000) (h16 : mj_n (G4) = v3) (h17 : G5 = mj_al (G4) 34 ((Int16.ofInt (200)).toInt32).toNatClampNeg (fun _ => 0)) (h18 : mj_k (G5) (r0) = 10) (h19 : G6 = mj_pR (G5) (r0) 3 (v3)) (h20 : mj_k (G6) (r0) = 10) (h21 : G7 = mj_pI (G6) (r0) 4 (Int32.ofInt (-1))) (h22 : mj_X d 9000 40 [some (.inr (.inr (r0))), some (.inl (Int32.ofInt (0)))] [] G7 Q) : mj_X d 9000 0 [some (.inr (.inr (r0))), none] [] G Q := by
  subst h4
  subst h5
  subst h7
  subst h10
  subst h11
  subst h13
  subst h16
  subst h17
  subst h19
  subst h21
  exact mj_X_sp (n := 19) (And.intro h1 (And.intro (Nat.le_of_ble_eq_true rfl) (And.intro h2 (And.intro h3 (And.intro (And.intro rfl rfl) (And.intro h6 (And.intro trivial (And.intro h8 (And.intro h9 (And.intro (And.intro rfl rfl) (And.intro h12 (And.intro trivial (And.intro h14 (And.intro h15 (And.intro (And.intro rfl rfl) (And.intro h18 (And.intro trivial (And.intro trivial (And.intro h20 (And.intro trivial (And.intro trivial (h22))))))))))))))))))))))
theorem mk_9000_40 {d : Nat} {Q : mj_O → mj_G → Prop} {G : mj_G} {x1 : Int32} {r0 : Nat} (h1 : ((Int8.ofInt (26)).toInt32) ≤ (x1) → mj_X d 9000 65 [some (.inr (.inr (r0))), none] [] G Q) (h2 : ¬ ((Int8.ofInt (26)).toInt32) ≤ (x1) → mj_X d 9000 46 [some (.inr (.inr (r0))), some (.inl (x1))] [] G Q) : mj_X d 9000 40 [some (.inr (.inr (r0))), some (.inl (x1))] [] G Q := mj_X_sp (n := 3) (And.intro (fun q => (mj_X_wk (mj_le_s (mj_le_n mj_le_0)) (h1 q))) (fun q => (h2 q)))
theorem mk_9000_46 {d : Nat} {Q : mj_O → mj_G → Prop} {G : mj_G} {x1 : Int32} {r0 v1 v2 : Nat} {G1 : mj_G} (h1 : mj_k (G) (r0) = 10) (h2 : mj_r (G) (r0) 0 = v1) (h3 : mj_n (G) = v2) (h4 : G1 = mj_al (G) 12 (mj_N 11) (fun _ => 0)) (h5 : mj_X d 9000 55 [some (.inr (.inr (r0))), some (.inl (x1))] [.inr (.inr (v2)), .inr (.inr (v2)), .inl (x1), .inr (.inr (v1))] G1 Q) : mj_X d 9000 46 [some (.inr (.inr (r0))), some (.inl (x1))] [] G Q := by
  subst h2
  subst h3
  subst h4
  exact mj_X_sp (n := 5) (And.intro h1 (h5))
theorem mc_9000_55 {d : Nat} {Q : mj_O → mj_G → Prop} {G : mj_G} {x1 s1 : Int32} {r0 t0 t2 t3 : Nat} {R : mj_G → Prop} (hk : mj_k G t3 = 12) (h1 : mj_X d 11000 0 [some (.inr (.inr (t3)))] [] G (fun o G1 => o = .inl none ∧ R G1)) (k : ∀ G1, R G1 → mj_X (d + 1) 9000 58 [some (.inr (.inr (r0))), some (.inl (x1))] [.inr (.inr (t2)), .inl (s1), .inr (.inr (t0))] G1 Q) : mj_X (d + 1) 9000 55 [some (.inr (.inr (r0))), some (.inl (x1))] [.inr (.inr (t3)), .inr (.inr (t2)), .inl (s1), .inr (.inr (t0))] G Q :=
  mj_X_callP rfl rfl rfl (Nat.le_of_ble_eq_true rfl) (And.intro (Nat.le_of_ble_eq_true rfl) hk) h1 (fun o G1 h => by
    obtain ⟨rfl, h⟩ := h
    exact mj_X_wk (mj_le_s (mj_le_s mj_le_0)) (k G1 h))
theorem mk_9000_58 {d : Nat} {Q : mj_O → mj_G → Prop} {G : mj_G} {x1 s1 : Int32} {r0 t0 t2 : Nat} {G1 : mj_G} (h1 : 30 ≤ mj_k (G) (t0)) (h2 : vp_in (s1) (mj_l (G) (t0))) (h3 : (t2) = 0 ∨ mj_k (G) (t2) + 29 = mj_k (G) (t0)) (h4 : G1 = mj_pR (G) (t0) (s1).toNatClampNeg (t2)) (h5 : mj_X d 9000 40 [some (.inr (.inr (r0))), some (.inl ((x1) + Int32.ofInt (1)))] [] G1 Q) : mj_X d 9000 58 [some (.inr (.inr (r0))), some (.inl (x1))] [.inr (.inr (t2)), .inl (s1), .inr (.inr (t0))] G Q := by
  subst h4
  exact mj_X_sp (n := 3) (And.intro h1 (And.intro h2 (And.intro h3 (h5))))
theorem mk_9000_65 {d : Nat} {Q : mj_O → mj_G → Prop} {G : mj_G} {r0 : Nat} (h1 : mj_X d 9000 67 [some (.inr (.inr (r0))), some (.inl (Int32.ofInt (0)))] [] G Q) : mj_X d 9000 65 [some (.inr (.inr (r0))), none] [] G Q := mj_X_sp (n := 2) (h1)
theorem mk_9000_67 {d : Nat} {Q : mj_O → mj_G → Prop} {G : mj_G} {x1 : Int32} {r0 : Nat} (h1 : ((Int16.ofInt (320)).toInt32) ≤ (x1) → mj_X d 9000 93 [some (.inr (.inr (r0))), none] [] G Q) (h2 : ¬ ((Int16.ofInt (320)).toInt32) ≤ (x1) → mj_X d 9000 74 [some (.inr (.inr (r0))), some (.inl (x1))] [] G Q) : mj_X d 9000 67 [some (.inr (.inr (r0))), some (.inl (x1))] [] G Q := mj_X_sp (n := 3) (And.intro (fun q => (mj_X_wk (mj_le_s (mj_le_n mj_le_0)) (h1 q))) (fun q => (h2 q)))
theorem mk_9000_74 {d : Nat} {Q : mj_O → mj_G → Prop} {G : mj_G} {x1 : Int32} {r0 v1 v2 : Nat} {G1 : mj_G} (h1 : mj_k (G) (r0) = 10) (h2 : mj_r (G) (r0) 1 = v1) (h3 : mj_n (G) = v2) (h4 : G1 = mj_al (G) 12 (mj_N 11) (fun _ => 0)) (h5 : mj_X d 9000 83 [some (.inr (.inr (r0))), some (.inl (x1))] [.inr (.inr (v2)), .inr (.inr (v2)), .inl (x1), .inr (.inr (v1))] G1 Q) : mj_X d 9000 74 [some (.inr (.inr (r0))), some (.inl (x1))] [] G Q := by
  subst h2
  subst h3
  subst h4
  exact mj_X_sp (n := 5) (And.intro h1 (h5))
theorem mc_9000_83 {d : Nat} {Q : mj_O → mj_G → Prop} {G : mj_G} {x1 s1 : Int32} {r0 t0 t2 t3 : Nat} {R : mj_G → Prop} (hk : mj_k G t3 = 12) (h1 : mj_X d 11000 0 [some (.inr (.inr (t3)))] [] G (fun o G1 => o = .inl none ∧ R G1)) (k : ∀ G1, R G1 → mj_X (d + 1) 9000 86 [some (.inr (.inr (r0))), some (.inl (x1))] [.inr (.inr (t2)), .inl (s1), .inr (.inr (t0))] G1 Q) : mj_X (d + 1) 9000 83 [some (.inr (.inr (r0))), some (.inl (x1))] [.inr (.inr (t3)), .inr (.inr (t2)), .inl (s1), .inr (.inr (t0))] G Q :=
  mj_X_callP rfl rfl rfl (Nat.le_of_ble_eq_true rfl) (And.intro (Nat.le_of_ble_eq_true rfl) hk) h1 (fun o G1 h => by
    obtain ⟨rfl, h⟩ := h
    exact mj_X_wk (mj_le_s (mj_le_s mj_le_0)) (k G1 h))
theorem mk_9000_86 {d : Nat} {Q : mj_O → mj_G → Prop} {G : mj_G} {x1 s1 : Int32} {r0 t0 t2 : Nat} {G1 : mj_G} (h1 : 30 ≤ mj_k (G) (t0)) (h2 : vp_in (s1) (mj_l (G) (t0))) (h3 : (t2) = 0 ∨ mj_k (G) (t2) + 29 = mj_k (G) (t0)) (h4 : G1 = mj_pR (G) (t0) (s1).toNatClampNeg (t2)) (h5 : mj_X d 9000 67 [some (.inr (.inr (r0))), some (.inl ((x1) + Int32.ofInt (1)))] [] G1 Q) : mj_X d 9000 86 [some (.inr (.inr (r0))), some (.inl (x1))] [.inr (.inr (t2)), .inl (s1), .inr (.inr (t0))] G Q := by
  subst h4
  exact mj_X_sp (n := 3) (And.intro h1 (And.intro h2 (And.intro h3 (h5))))
theorem mk_9000_93 {d : Nat} {Q : mj_O → mj_G → Prop} {G : mj_G} {r0 : Nat} (h1 : mj_X d 9000 95 [some (.inr (.inr (r0))), some (.inl (Int32.ofInt (0)))] [] G Q) : mj_X d 9000 93 [some (.inr (.inr (r0))), none] [] G Q := mj_X_sp (n := 2) (h1)
theorem mk_9000_95 {d : Nat} {Q : mj_O → mj_G → Prop} {G : mj_G} {x1 : Int32} {r0 : Nat} (h1 : ((Int16.ofInt (200)).toInt32) ≤ (x1) → mj_X d 9000 121 [none, none] [] G Q) (h2 : ¬ ((Int16.ofInt (200)).toInt32) ≤ (x1) → mj_X d 9000 102 [some (.inr (.inr (r0))), some (.inl (x1))] [] G Q) : mj_X d 9000 95 [some (.inr (.inr (r0))), some (.inl (x1))] [] G Q := mj_X_sp (n := 3) (And.intro (fun q => (mj_X_wk (mj_le_n (mj_le_n mj_le_0)) (h1 q))) (fun q => (h2 q)))
theorem mk_9000_102 {d : Nat} {Q : mj_O → mj_G → Prop} {G : mj_G} {x1 : Int32} {r0 v1 v2 : Nat} {G1 : mj_G} (h1 : mj_k (G) (r0) = 10) (h2 : mj_r (G) (r0) 3 = v1) (h3 : mj_n (G) = v2) (h4 : G1 = mj_al (G) 5 (mj_N 4) (fun _ => 0)) (h5 : mj_X d 9000 111 [some (.inr (.inr (r0))), some (.inl (x1))] [.inr (.inr (v2)), .inr (.inr (v2)), .inl (x1), .inr (.inr (v1))] G1 Q) : mj_X d 9000 102 [some (.inr (.inr (r0))), some (.inl (x1))] [] G Q := by
  subst h2
  subst h3
  subst h4
  exact mj_X_sp (n := 5) (And.intro h1 (h5))
theorem mc_9000_111 {d : Nat} {Q : mj_O → mj_G → Prop} {G : mj_G} {x1 s1 : Int32} {r0 t0 t2 t3 : Nat} {R : mj_G → Prop} (hk : mj_k G t3 = 5) (h1 : mj_X d 4000 0 [some (.inr (.inr (t3)))] [] G (fun o G1 => o = .inl none ∧ R G1)) (k : ∀ G1, R G1 → mj_X (d + 1) 9000 114 [some (.inr (.inr (r0))), some (.inl (x1))] [.inr (.inr (t2)), .inl (s1), .inr (.inr (t0))] G1 Q) : mj_X (d + 1) 9000 111 [some (.inr (.inr (r0))), some (.inl (x1))] [.inr (.inr (t3)), .inr (.inr (t2)), .inl (s1), .inr (.inr (t0))] G Q :=
  mj_X_callP rfl rfl rfl (Nat.le_of_ble_eq_true rfl) (And.intro (Nat.le_of_ble_eq_true rfl) hk) h1 (fun o G1 h => by
    obtain ⟨rfl, h⟩ := h
    exact mj_X_wk (mj_le_s (mj_le_s mj_le_0)) (k G1 h))
theorem mk_9000_114 {d : Nat} {Q : mj_O → mj_G → Prop} {G : mj_G} {x1 s1 : Int32} {r0 t0 t2 : Nat} {G1 : mj_G} (h1 : 30 ≤ mj_k (G) (t0)) (h2 : vp_in (s1) (mj_l (G) (t0))) (h3 : (t2) = 0 ∨ mj_k (G) (t2) + 29 = mj_k (G) (t0)) (h4 : G1 = mj_pR (G) (t0) (s1).toNatClampNeg (t2)) (h5 : mj_X d 9000 95 [some (.inr (.inr (r0))), some (.inl ((x1) + Int32.ofInt (1)))] [] G1 Q) : mj_X d 9000 114 [some (.inr (.inr (r0))), some (.inl (x1))] [.inr (.inr (t2)), .inl (s1), .inr (.inr (t0))] G Q := by
  subst h4
  exact mj_X_sp (n := 3) (And.intro h1 (And.intro h2 (And.intro h3 (h5))))
theorem mk_9000_121 {d : Nat} {Q : mj_O → mj_G → Prop} {G : mj_G} (h1 : Q (.inl none) (G)) : mj_X d 9000 121 [none, none] [] G Q := mj_X_vr rfl rfl h1
/-! 9001: TemplateQuarry$Stack.begin()V -/
theorem mk_9001_0 {d : Nat} {Q : mj_O → mj_G → Prop} {G : mj_G} {r0 v1 v2 : Nat} {G1 G2 G3 G4 G5 G6 G7 G8 G9 G10 G11 G12 : mj_G} (h1 : mj_k (G) (r0) = 10) (h2 : mj_r (G) (r0) 3 = v1) (h3 : 30 ≤ mj_k (G) (v1)) (h4 : vp_in (Int32.ofInt (0)) (mj_l (G) (v1))) (h5 : mj_r (G) (v1) (Int32.ofInt (0)).toNatClampNeg = v2) (h6 : mj_k (G) (v2) = 5) (h7 : G1 = mj_pI (G) (v2) 0 (Int32.ofInt (1))) (h8 : mj_k (G1) (v2) = 5) (h9 : G2 = mj_pR (G1) (v2) 2 (0)) (h10 : mj_k (G2) (v2) = 5) (h11 : G3 = mj_pI (G2) (v2) 3 (Int32.ofInt (0))) (h12 : mj_k (G3) (v2) = 5) (h13 : G4 = mj_pI (G3) (v2) 4 (Int32.ofInt (-1))) (h14 : mj_k (G4) (v2) = 5) (h15 : G5 = mj_pI (G4) (v2) 5 (Int32.ofInt (0))) (h16 : mj_k (G5) (v2) = 5) (h17 : G6 = mj_pI (G5) (v2) 6 (Int32.ofInt (0))) (h18 : mj_k (G6) (v2) = 5) (h19 : G7 = mj_pI (G6) (v2) 7 (Int32.ofInt (0))) (h20 : mj_k (G7) (v2) = 5) (h21 : G8 = mj_pI (G7) (v2) 10 (Int32.ofInt (-1))) (h22 : mj_k (G8) (v2) = 5) (h23 : G9 = mj_pI (G8) (v2) 11 (Int32.ofInt (-1))) (h24 : mj_k (G9) (v2) = 5) (h25 : G10 = mj_pI (G9) (v2) 12 (Int32.ofInt (0))) (h26 : mj_k (G10) (r0) = 10) (h27 : G11 = mj_pI (G10) (r0) 4 (Int32.ofInt (0))) (h28 : mj_k (G11) (r0) = 10) (h29 : G12 = mj_pI (G11) (r0) 2 (Int32.ofInt (0))) (h30 : Q (.inl none) (G12)) : mj_X d 9001 0 [some (.inr (.inr (r0))), none] [] G Q := by
  subst h2
  subst h5
  subst h7
  subst h9
  subst h11
  subst h13
  subst h15
  subst h17
  subst h19
  subst h21
  subst h23
  subst h25
  subst h27
  subst h29
  exact mj_X_sp (n := 41) (And.intro h1 (And.intro h3 (And.intro h4 (And.intro trivial (And.intro h6 (And.intro trivial (And.intro trivial (And.intro trivial (And.intro h8 (And.intro trivial (And.intro trivial (And.intro h10 (And.intro trivial (And.intro trivial (And.intro trivial (And.intro h12 (And.intro trivial (And.intro trivial (And.intro trivial (And.intro h14 (And.intro trivial (And.intro trivial (And.intro trivial (And.intro h16 (And.intro trivial (And.intro trivial (And.intro trivial (And.intro h18 (And.intro trivial (And.intro trivial (And.intro trivial (And.intro h20 (And.intro trivial (And.intro trivial (And.intro trivial (And.intro h22 (And.intro trivial (And.intro trivial (And.intro trivial (And.intro h24 (And.intro trivial (And.intro trivial (And.intro trivial (And.intro h26 (And.intro trivial (And.intro trivial (And.intro trivial (And.intro h28 (And.intro trivial (And.intro trivial (mj_X_vr rfl rfl h30)))))))))))))))))))))))))))))))))))))))))))))))))))
/-! 9002: TemplateQuarry$Stack.push(ILTemplateQuarry$Node;LTemplateQuarry$Node;)LTemplateQuarry$Frame; -/
theorem mk_9002_0 {d : Nat} {Q : mj_O → mj_G → Prop} {G : mj_G} {x1 v1 : Int32} {r0 r2 r3 : Nat} (h1 : mj_k (G) (r0) = 10) (h2 : mj_i (G) (r0) 4 = v1) (h3 : (v1) < ((0 : Int32)) → mj_X d 9002 17 [none, none, none, none, none, none] [] G Q) (h4 : ¬ (v1) < ((0 : Int32)) → mj_X d 9002 7 [some (.inr (.inr (r0))), some (.inl (x1)), some (.inr (.inr (r2))), some (.inr (.inr (r3))), none, none] [] G Q) : mj_X d 9002 0 [some (.inr (.inr (r0))), some (.inl (x1)), some (.inr (.inr (r2))), some (.inr (.inr (r3))), none, none] [] G Q := by
  subst h2
  exact mj_X_sp (n := 3) (And.intro h1 (And.intro (fun q => (mj_X_wk (mj_le_n (mj_le_n (mj_le_n (mj_le_n (mj_le_n (mj_le_n mj_le_0)))))) (h3 q))) (fun q => (h4 q))))
theorem mk_9002_7 {d : Nat} {Q : mj_O → mj_G → Prop} {G : mj_G} {x1 v1 : Int32} {r0 r2 r3 : Nat} (h1 : mj_k (G) (r0) = 10) (h2 : mj_i (G) (r0) 4 = v1) (h3 : (v1) < ((Int16.ofInt (199)).toInt32) → mj_X d 9002 19 [some (.inr (.inr (r0))), some (.inl (x1)), some (.inr (.inr (r2))), some (.inr (.inr (r3))), none, none] [] G Q) (h4 : ¬ (v1) < ((Int16.ofInt (199)).toInt32) → mj_X d 9002 17 [none, none, none, none, none, none] [] G Q) : mj_X d 9002 7 [some (.inr (.inr (r0))), some (.inl (x1)), some (.inr (.inr (r2))), some (.inr (.inr (r3))), none, none] [] G Q := by
  subst h2
  exact mj_X_sp (n := 4) (And.intro h1 (And.intro (fun q => (h3 q)) (fun q => (mj_X_wk (mj_le_n (mj_le_n (mj_le_n (mj_le_n (mj_le_n (mj_le_n mj_le_0)))))) (h4 q)))))
theorem mk_9002_17 {d : Nat} {Q : mj_O → mj_G → Prop} {G : mj_G} (h1 : Q (.inl (some (.inr (.inr (0))))) (G)) : mj_X d 9002 17 [none, none, none, none, none, none] [] G Q := mj_X_sp (n := 1) (mj_X_ar rfl rfl h1)
theorem mk_9002_19 {d : Nat} {Q : mj_O → mj_G → Prop} {G : mj_G} {x1 v2 v5 v7 v8 v9 v10 v11 v12 : Int32} {r0 r2 r3 v1 v3 v4 v6 : Nat} {G1 G2 G3 G4 G5 G6 G7 G8 G9 : mj_G} (h1 : mj_k (G) (r0) = 10) (h2 : mj_r (G) (r0) 3 = v1) (h3 : mj_k (G) (r0) = 10) (h4 : mj_i (G) (r0) 4 = v2) (h5 : 30 ≤ mj_k (G) (v1)) (h6 : vp_in (v2) (mj_l (G) (v1))) (h7 : mj_r (G) (v1) (v2).toNatClampNeg = v3) (h8 : mj_k (G) (r0) = 10) (h9 : mj_r (G) (r0) 3 = v4) (h10 : mj_k (G) (r0) = 10) (h11 : mj_i (G) (r0) 4 = v5) (h12 : 30 ≤ mj_k (G) (v4)) (h13 : vp_in ((v5) + (Int32.ofInt (1))) (mj_l (G) (v4))) (h14 : mj_r (G) (v4) ((v5) + (Int32.ofInt (1))).toNatClampNeg = v6) (h15 : mj_k (G) (v3) = 5) (h16 : mj_i (G) (v3) 3 = v7) (h17 : mj_k (G) (v6) = 5) (h18 : G1 = mj_pI (G) (v6) 3 (v7)) (h19 : mj_k (G1) (v3) = 5) (h20 : mj_i (G1) (v3) 7 = v8) (h21 : mj_k (G1) (v6) = 5) (h22 : G2 = mj_pI (G1) (v6) 7 (v8)) (h23 : mj_k (G2) (v3) = 5) (h24 : mj_i (G2) (v3) 10 = v9) (h25 : mj_k (G2) (v6) = 5) (h26 : G3 = mj_pI (G2) (v6) 10 (v9)) (h27 : mj_k (G3) (v3) = 5) (h28 : mj_i (G3) (v3) 11 = v10) (h29 : mj_k (G3) (v6) = 5) (h30 : G4 = mj_pI (G3) (v6) 11 (v10)) (h31 : mj_k (G4) (v3) = 5) (h32 : mj_i (G4) (v3) 12 = v11) (h33 : mj_k (G4) (v6) = 5) (h34 : G5 = mj_pI (G4) (v6) 12 (v11)) (h35 : mj_k (G5) (v6) = 5) (h36 : G6 = mj_pI (G5) (v6) 0 (x1)) (h37 : mj_k (G6) (v6) = 5) (h38 : G7 = mj_pR (G6) (v6) 1 (r2)) (h39 : mj_k (G7) (v6) = 5) (h40 : G8 = mj_pR (G7) (v6) 2 (r3)) (h41 : mj_k (G8) (r0) = 10) (h42 : mj_i (G8) (r0) 4 = v12) (h43 : mj_k (G8) (r0) = 10) (h44 : G9 = mj_pI (G8) (r0) 4 ((v12) + (Int32.ofInt (1)))) (h45 : Q (.inl (some (.inr (.inr (v6))))) (G9)) : mj_X d 9002 19 [some (.inr (.inr (r0))), some (.inl (x1)), some (.inr (.inr (r2))), some (.inr (.inr (r3))), none, none] [] G Q := by
  subst h2
  subst h4
  subst h7
  subst h9
  subst h11
  subst h14
  subst h16
  subst h18
  subst h20
  subst h22
  subst h24
  subst h26
  subst h28
  subst h30
  subst h32
  subst h34
  subst h36
  subst h38
  subst h40
  subst h42
  subst h44
  exact mj_X_sp (n := 50) (And.intro h1 (And.intro h3 (And.intro h5 (And.intro h6 (And.intro h8 (And.intro h10 (And.intro h12 (And.intro h13 (And.intro h15 (And.intro trivial (And.intro h17 (And.intro trivial (And.intro trivial (And.intro h19 (And.intro trivial (And.intro h21 (And.intro trivial (And.intro trivial (And.intro h23 (And.intro trivial (And.intro h25 (And.intro trivial (And.intro trivial (And.intro h27 (And.intro trivial (And.intro h29 (And.intro trivial (And.intro trivial (And.intro h31 (And.intro trivial (And.intro h33 (And.intro trivial (And.intro trivial (And.intro trivial (And.intro h35 (And.intro trivial (And.intro trivial (And.intro trivial (And.intro h37 (And.intro trivial (And.intro trivial (And.intro h39 (And.intro trivial (And.intro h41 (And.intro trivial (And.intro h43 (And.intro trivial (And.intro trivial (mj_X_ar rfl rfl h45)))))))))))))))))))))))))))))))))))))))))))))))))
/-! 9003: TemplateQuarry$Stack.pushScope(ILTemplateQuarry$Node;LTemplateQuarry$Node;)LTemplateQuarry$Frame; -/
theorem mk_9003_0 {d : Nat} {Q : mj_O → mj_G → Prop} {G : mj_G} {x1 : Int32} {r0 r2 r3 : Nat} (h1 : mj_X d 9003 4 [some (.inr (.inr (r0))), none, none, none, none] [.inr (.inr (r3)), .inr (.inr (r2)), .inl (x1), .inr (.inr (r0))] G Q) : mj_X d 9003 0 [some (.inr (.inr (r0))), some (.inl (x1)), some (.inr (.inr (r2))), some (.inr (.inr (r3))), none] [] G Q := mj_X_sp (n := 4) ((mj_X_wk (mj_le_s (mj_le_n (mj_le_n (mj_le_n (mj_le_n mj_le_0))))) h1))
theorem mc_9003_4 {d : Nat} {Q : mj_O → mj_G → Prop} {G : mj_G} {s1 : Int32} {r0 t0 t2 t3 : Nat} {R : Nat → mj_G → Prop} (hk : mj_k G t0 = 10) (h1 : mj_X d 9002 0 [some (.inr (.inr (t0))), some (.inl (s1)), some (.inr (.inr (t2))), some (.inr (.inr (t3))), none, none] [] G (fun o G1 => ∃ v, o = .inl (some (.inr (.inr (v)))) ∧ R v G1)) (k : ∀ v G1, R v G1 → mj_X (d + 1) 9003 7 [some (.inr (.inr (r0))), none, none, none, none] [.inr (.inr (v))] G1 Q) : mj_X (d + 1) 9003 4 [some (.inr (.inr (r0))), none, none, none, none] [.inr (.inr (t3)), .inr (.inr (t2)), .inl (s1), .inr (.inr (t0))] G Q :=
  mj_X_callP rfl rfl rfl (Nat.le_of_ble_eq_true rfl) (And.intro (Nat.le_of_ble_eq_true rfl) hk) h1 (fun o G1 h => by
    obtain ⟨v, rfl, h⟩ := h
    exact mj_X_wk (mj_le_s (mj_le_n (mj_le_n (mj_le_n (mj_le_n mj_le_0))))) (k v G1 h))
theorem mk_9003_7 {d : Nat} {Q : mj_O → mj_G → Prop} {G : mj_G} {r0 t0 : Nat} (h1 : (t0) = 0 → mj_X d 9003 48 [none, none, none, none, some (.inr (.inr (t0)))] [] G Q) (h2 : ¬ (t0) = 0 → mj_X d 9003 14 [some (.inr (.inr (r0))), none, none, none, some (.inr (.inr (t0)))] [] G Q) : mj_X d 9003 7 [some (.inr (.inr (r0))), none, none, none, none] [.inr (.inr (t0))] G Q := mj_X_sp (n := 3) (And.intro (fun q => (mj_X_wk (mj_le_n (mj_le_n (mj_le_n (mj_le_n (mj_le_s mj_le_0))))) (h1 q))) (fun q => (h2 q)))
theorem mk_9003_14 {d : Nat} {Q : mj_O → mj_G → Prop} {G : mj_G} {v1 v2 v3 : Int32} {r0 r4 : Nat} {G1 G2 G3 G4 : mj_G} (h1 : mj_k (G) (r4) = 5) (h2 : mj_i (G) (r4) 3 = v1) (h3 : mj_k (G) (r4) = 5) (h4 : G1 = mj_pI (G) (r4) 4 (v1)) (h5 : mj_k (G1) (r0) = 10) (h6 : mj_i (G1) (r0) 4 = v2) (h7 : mj_k (G1) (r4) = 5) (h8 : G2 = mj_pI (G1) (r4) 3 (v2)) (h9 : mj_k (G2) (r0) = 10) (h10 : mj_i (G2) (r0) 2 = v3) (h11 : mj_k (G2) (r4) = 5) (h12 : G3 = mj_pI (G2) (r4) 5 (v3)) (h13 : mj_k (G3) (r4) = 5) (h14 : G4 = mj_pI (G3) (r4) 6 (Int32.ofInt (0))) (h15 : mj_X d 9003 48 [none, none, none, none, some (.inr (.inr (r4)))] [] G4 Q) : mj_X d 9003 14 [some (.inr (.inr (r0))), none, none, none, some (.inr (.inr (r4)))] [] G Q := by
  subst h2
  subst h4
  subst h6
  subst h8
  subst h10
  subst h12
  subst h14
  exact mj_X_sp (n := 15) (And.intro h1 (And.intro trivial (And.intro h3 (And.intro trivial (And.intro trivial (And.intro h5 (And.intro trivial (And.intro h7 (And.intro trivial (And.intro trivial (And.intro h9 (And.intro trivial (And.intro h11 (And.intro trivial (And.intro trivial (And.intro trivial (And.intro h13 (And.intro trivial (And.intro trivial ((mj_X_wk (mj_le_n (mj_le_n (mj_le_n (mj_le_n (mj_le_s mj_le_0))))) h15)))))))))))))))))))))
theorem mk_9003_48 {d : Nat} {Q : mj_O → mj_G → Prop} {G : mj_G} {r4 : Nat} (h1 : Q (.inl (some (.inr (.inr (r4))))) (G)) : mj_X d 9003 48 [none, none, none, none, some (.inr (.inr (r4)))] [] G Q := mj_X_sp (n := 1) (mj_X_ar rfl rfl h1)
/-! 9004: TemplateQuarry$Stack.open(LTemplateQuarry$Node;LTemplateQuarry$Node;)LTemplateQuarry$Frame; -/
theorem mk_9004_0 {d : Nat} {Q : mj_O → mj_G → Prop} {G : mj_G} {v1 : Int32} {r0 r1 r2 : Nat} (h1 : mj_k (G) (r0) = 10) (h2 : mj_i (G) (r0) 4 = v1) (h3 : (v1) < ((0 : Int32)) → mj_X d 9004 24 [none, none, none, none] [] G Q) (h4 : ¬ (v1) < ((0 : Int32)) → mj_X d 9004 7 [some (.inr (.inr (r0))), some (.inr (.inr (r1))), some (.inr (.inr (r2))), none] [] G Q) : mj_X d 9004 0 [some (.inr (.inr (r0))), some (.inr (.inr (r1))), some (.inr (.inr (r2))), none] [] G Q := by
  subst h2
  exact mj_X_sp (n := 3) (And.intro h1 (And.intro (fun q => (mj_X_wk (mj_le_n (mj_le_n (mj_le_n (mj_le_n mj_le_0)))) (h3 q))) (fun q => (h4 q))))
theorem mk_9004_7 {d : Nat} {Q : mj_O → mj_G → Prop} {G : mj_G} {v2 v4 : Int32} {r0 r1 r2 v1 v3 : Nat} (h1 : mj_k (G) (r0) = 10) (h2 : mj_r (G) (r0) 3 = v1) (h3 : mj_k (G) (r0) = 10) (h4 : mj_i (G) (r0) 4 = v2) (h5 : 30 ≤ mj_k (G) (v1)) (h6 : vp_in (v2) (mj_l (G) (v1))) (h7 : mj_r (G) (v1) (v2).toNatClampNeg = v3) (h8 : mj_k (G) (v3) = 5) (h9 : mj_i (G) (v3) 12 = v4) (h10 : (v4) < ((Int8.ofInt (12)).toInt32) → mj_X d 9004 26 [some (.inr (.inr (r0))), some (.inr (.inr (r1))), some (.inr (.inr (r2))), none] [] G Q) (h11 : ¬ (v4) < ((Int8.ofInt (12)).toInt32) → mj_X d 9004 24 [none, none, none, none] [] G Q) : mj_X d 9004 7 [some (.inr (.inr (r0))), some (.inr (.inr (r1))), some (.inr (.inr (r2))), none] [] G Q := by
  subst h2
  subst h4
  subst h7
  subst h9
  exact mj_X_sp (n := 8) (And.intro h1 (And.intro h3 (And.intro h5 (And.intro h6 (And.intro h8 (And.intro (fun q => (h10 q)) (fun q => (mj_X_wk (mj_le_n (mj_le_n (mj_le_n (mj_le_n mj_le_0)))) (h11 q)))))))))
theorem mk_9004_24 {d : Nat} {Q : mj_O → mj_G → Prop} {G : mj_G} (h1 : Q (.inl (some (.inr (.inr (0))))) (G)) : mj_X d 9004 24 [none, none, none, none] [] G Q := mj_X_sp (n := 1) (mj_X_ar rfl rfl h1)
theorem mk_9004_26 {d : Nat} {Q : mj_O → mj_G → Prop} {G : mj_G} {v1 : Int32} {r0 r1 r2 : Nat} (h1 : mj_k (G) (r1) = 6) (h2 : mj_i (G) (r1) 0 = v1) (h3 : mj_X d 9004 33 [none, none, none, none] [.inr (.inr (r2)), .inr (.inr (r1)), .inl (v1), .inr (.inr (r0))] G Q) : mj_X d 9004 26 [some (.inr (.inr (r0))), some (.inr (.inr (r1))), some (.inr (.inr (r2))), none] [] G Q := by
  subst h2
  exact mj_X_sp (n := 5) (And.intro h1 ((mj_X_wk (mj_le_n (mj_le_n (mj_le_n (mj_le_n mj_le_0)))) h3)))
theorem mc_9004_33 {d : Nat} {Q : mj_O → mj_G → Prop} {G : mj_G} {s1 : Int32} {t0 t2 t3 : Nat} {R : Nat → mj_G → Prop} (hk : mj_k G t0 = 10) (h1 : mj_X d 9003 0 [some (.inr (.inr (t0))), some (.inl (s1)), some (.inr (.inr (t2))), some (.inr (.inr (t3))), none] [] G (fun o G1 => ∃ v, o = .inl (some (.inr (.inr (v)))) ∧ R v G1)) (k : ∀ v G1, R v G1 → mj_X (d + 1) 9004 36 [none, none, none, none] [.inr (.inr (v))] G1 Q) : mj_X (d + 1) 9004 33 [none, none, none, none] [.inr (.inr (t3)), .inr (.inr (t2)), .inl (s1), .inr (.inr (t0))] G Q :=
  mj_X_callP rfl rfl rfl (Nat.le_of_ble_eq_true rfl) (And.intro (Nat.le_of_ble_eq_true rfl) hk) h1 (fun o G1 h => by
    obtain ⟨v, rfl, h⟩ := h
    exact mj_X_wk (mj_le_n (mj_le_n (mj_le_n (mj_le_n mj_le_0)))) (k v G1 h))
theorem mk_9004_36 {d : Nat} {Q : mj_O → mj_G → Prop} {G : mj_G} {t0 : Nat} (h1 : (t0) = 0 → mj_X d 9004 51 [none, none, none, some (.inr (.inr (t0)))] [] G Q) (h2 : ¬ (t0) = 0 → mj_X d 9004 41 [none, none, none, some (.inr (.inr (t0)))] [] G Q) : mj_X d 9004 36 [none, none, none, none] [.inr (.inr (t0))] G Q := mj_X_sp (n := 3) (And.intro (fun q => (h1 q)) (fun q => (h2 q)))
theorem mk_9004_41 {d : Nat} {Q : mj_O → mj_G → Prop} {G : mj_G} {v1 : Int32} {r3 : Nat} {G1 : mj_G} (h1 : mj_k (G) (r3) = 5) (h2 : mj_i (G) (r3) 12 = v1) (h3 : mj_k (G) (r3) = 5) (h4 : G1 = mj_pI (G) (r3) 12 ((v1) + (Int32.ofInt (1)))) (h5 : mj_X d 9004 51 [none, none, none, some (.inr (.inr (r3)))] [] G1 Q) : mj_X d 9004 41 [none, none, none, some (.inr (.inr (r3)))] [] G Q := by
  subst h2
  subst h4
  exact mj_X_sp (n := 6) (And.intro h1 (And.intro trivial (And.intro h3 (And.intro trivial (And.intro trivial (h5))))))
theorem mk_9004_51 {d : Nat} {Q : mj_O → mj_G → Prop} {G : mj_G} {r3 : Nat} (h1 : Q (.inl (some (.inr (.inr (r3))))) (G)) : mj_X d 9004 51 [none, none, none, some (.inr (.inr (r3)))] [] G Q := mj_X_sp (n := 1) (mj_X_ar rfl rfl h1)
/-! 9005: TemplateQuarry$Stack.cut(I)V -/
theorem mk_9005_0 {d : Nat} {Q : mj_O → mj_G → Prop} {G : mj_G} {x1 v1 : Int32} {r0 : Nat} (h1 : mj_k (G) (r0) = 10) (h2 : mj_i (G) (r0) 4 = v1) (h3 : mj_X d 9005 5 [some (.inr (.inr (r0))), some (.inl (x1)), some (.inl (v1))] [] G Q) : mj_X d 9005 0 [some (.inr (.inr (r0))), some (.inl (x1)), none] [] G Q := by
  subst h2
  exact mj_X_sp (n := 3) (And.intro h1 (h3))
theorem mk_9005_5 {d : Nat} {Q : mj_O → mj_G → Prop} {G : mj_G} {x1 x2 : Int32} {r0 : Nat} (h1 : (x2) < (x1) → mj_X d 9005 46 [some (.inr (.inr (r0))), some (.inl (x1)), none] [] G Q) (h2 : ¬ (x2) < (x1) → mj_X d 9005 10 [some (.inr (.inr (r0))), some (.inl (x1)), some (.inl (x2))] [] G Q) : mj_X d 9005 5 [some (.inr (.inr (r0))), some (.inl (x1)), some (.inl (x2))] [] G Q := mj_X_sp (n := 3) (And.intro (fun q => (mj_X_wk (mj_le_s (mj_le_s (mj_le_n mj_le_0))) (h1 q))) (fun q => (h2 q)))
theorem mk_9005_10 {d : Nat} {Q : mj_O → mj_G → Prop} {G : mj_G} {x1 x2 : Int32} {r0 : Nat} (h1 : (x2) < ((0 : Int32)) → mj_X d 9005 46 [some (.inr (.inr (r0))), some (.inl (x1)), none] [] G Q) (h2 : ¬ (x2) < ((0 : Int32)) → mj_X d 9005 14 [some (.inr (.inr (r0))), some (.inl (x1)), some (.inl (x2))] [] G Q) : mj_X d 9005 10 [some (.inr (.inr (r0))), some (.inl (x1)), some (.inl (x2))] [] G Q := mj_X_sp (n := 2) (And.intro (fun q => (mj_X_wk (mj_le_s (mj_le_s (mj_le_n mj_le_0))) (h1 q))) (fun q => (h2 q)))
theorem mk_9005_14 {d : Nat} {Q : mj_O → mj_G → Prop} {G : mj_G} {x1 x2 v3 : Int32} {r0 v1 v2 : Nat} (h1 : mj_k (G) (r0) = 10) (h2 : mj_r (G) (r0) 3 = v1) (h3 : 30 ≤ mj_k (G) (v1)) (h4 : vp_in (x2) (mj_l (G) (v1))) (h5 : mj_r (G) (v1) (x2).toNatClampNeg = v2) (h6 : mj_k (G) (v2) = 5) (h7 : mj_i (G) (v2) 3 = v3) (h8 : ¬ (v3) = (x2) → mj_X d 9005 40 [some (.inr (.inr (r0))), some (.inl (x1)), some (.inl (x2))] [] G Q) (h9 : (v3) = (x2) → mj_X d 9005 27 [some (.inr (.inr (r0))), some (.inl (x1)), some (.inl (x2))] [] G Q) : mj_X d 9005 14 [some (.inr (.inr (r0))), some (.inl (x1)), some (.inl (x2))] [] G Q := by
  subst h2
  subst h5
  subst h7
  exact mj_X_sp (n := 7) (And.intro h1 (And.intro h3 (And.intro h4 (And.intro h6 (And.intro (fun q => (h8 q)) (fun q => (h9 (Decidable.not_not.mp q))))))))
theorem mk_9005_27 {d : Nat} {Q : mj_O → mj_G → Prop} {G : mj_G} {x1 x2 v3 : Int32} {r0 v1 v2 : Nat} {G1 : mj_G} (h1 : mj_k (G) (r0) = 10) (h2 : mj_r (G) (r0) 3 = v1) (h3 : 30 ≤ mj_k (G) (v1)) (h4 : vp_in (x2) (mj_l (G) (v1))) (h5 : mj_r (G) (v1) (x2).toNatClampNeg = v2) (h6 : mj_k (G) (v2) = 5) (h7 : mj_i (G) (v2) 5 = v3) (h8 : mj_k (G) (r0) = 10) (h9 : G1 = mj_pI (G) (r0) 2 (v3)) (h10 : mj_X d 9005 40 [some (.inr (.inr (r0))), some (.inl (x1)), some (.inl (x2))] [] G1 Q) : mj_X d 9005 27 [some (.inr (.inr (r0))), some (.inl (x1)), some (.inl (x2))] [] G Q := by
  subst h2
  subst h5
  subst h7
  subst h9
  exact mj_X_sp (n := 7) (And.intro h1 (And.intro h3 (And.intro h4 (And.intro h6 (And.intro trivial (And.intro h8 (And.intro trivial (And.intro trivial (h10)))))))))
theorem mk_9005_40 {d : Nat} {Q : mj_O → mj_G → Prop} {G : mj_G} {x1 x2 : Int32} {r0 : Nat} (h1 : mj_X d 9005 5 [some (.inr (.inr (r0))), some (.inl (x1)), some (.inl ((x2) + Int32.ofInt (-1)))] [] G Q) : mj_X d 9005 40 [some (.inr (.inr (r0))), some (.inl (x1)), some (.inl (x2))] [] G Q := mj_X_sp (n := 2) (h1)
theorem mk_9005_46 {d : Nat} {Q : mj_O → mj_G → Prop} {G : mj_G} {x1 : Int32} {r0 : Nat} {G1 : mj_G} (h1 : mj_k (G) (r0) = 10) (h2 : G1 = mj_pI (G) (r0) 4 ((x1) - (Int32.ofInt (1)))) (h3 : Q (.inl none) (G1)) : mj_X d 9005 46 [some (.inr (.inr (r0))), some (.inl (x1)), none] [] G Q := by
  subst h2
  exact mj_X_sp (n := 5) (And.intro trivial (And.intro h1 (And.intro trivial (And.intro trivial (mj_X_vr rfl rfl h3)))))
/-! 9006: TemplateQuarry$Stack.scope()I -/
theorem mk_9006_0 {d : Nat} {Q : mj_O → mj_G → Prop} {G : mj_G} {v1 : Int32} {r0 : Nat} (h1 : mj_k (G) (r0) = 10) (h2 : mj_i (G) (r0) 4 = v1) (h3 : (v1) < ((0 : Int32)) → mj_X d 9006 22 [none] [] G Q) (h4 : ¬ (v1) < ((0 : Int32)) → mj_X d 9006 7 [some (.inr (.inr (r0)))] [] G Q) : mj_X d 9006 0 [some (.inr (.inr (r0)))] [] G Q := by
  subst h2
  exact mj_X_sp (n := 3) (And.intro h1 (And.intro (fun q => (mj_X_wk (mj_le_n mj_le_0) (h3 q))) (fun q => (h4 q))))
theorem mk_9006_7 {d : Nat} {Q : mj_O → mj_G → Prop} {G : mj_G} {v2 v4 : Int32} {r0 v1 v3 : Nat} (h1 : mj_k (G) (r0) = 10) (h2 : mj_r (G) (r0) 3 = v1) (h3 : mj_k (G) (r0) = 10) (h4 : mj_i (G) (r0) 4 = v2) (h5 : 30 ≤ mj_k (G) (v1)) (h6 : vp_in (v2) (mj_l (G) (v1))) (h7 : mj_r (G) (v1) (v2).toNatClampNeg = v3) (h8 : mj_k (G) (v3) = 5) (h9 : mj_i (G) (v3) 3 = v4) (h10 : mj_X d 9006 23 [none] [.inl (v4)] G Q) : mj_X d 9006 7 [some (.inr (.inr (r0)))] [] G Q := by
  subst h2
  subst h4
  subst h7
  subst h9
  exact mj_X_sp (n := 7) (And.intro h1 (And.intro h3 (And.intro h5 (And.intro h6 (And.intro h8 ((mj_X_wk (mj_le_n mj_le_0) h10)))))))
theorem mk_9006_22 {d : Nat} {Q : mj_O → mj_G → Prop} {G : mj_G} (h1 : mj_X d 9006 23 [none] [.inl (Int32.ofInt (-1))] G Q) : mj_X d 9006 22 [none] [] G Q := mj_X_sp (n := 1) (h1)
theorem mk_9006_23 {d : Nat} {Q : mj_O → mj_G → Prop} {G : mj_G} {s0 : Int32} (h1 : Q (.inl (some (.inl (s0)))) (G)) : mj_X d 9006 23 [none] [.inl (s0)] G Q := mj_X_ir rfl trivial h1
/-! 9007: TemplateQuarry$Stack.set(ILTemplateQuarry$Value;)Z -/
theorem mk_9007_0 {d : Nat} {Q : mj_O → mj_G → Prop} {G : mj_G} {x1 v1 : Int32} {r0 r2 : Nat} (h1 : mj_k (G) (r0) = 10) (h2 : mj_i (G) (r0) 4 = v1) (h3 : ((0 : Int32)) ≤ (v1) → mj_X d 9007 9 [some (.inr (.inr (r0))), some (.inl (x1)), some (.inr (.inr (r2))), none, none] [] G Q) (h4 : ¬ ((0 : Int32)) ≤ (v1) → mj_X d 9007 7 [none, none, none, none, none] [] G Q) : mj_X d 9007 0 [some (.inr (.inr (r0))), some (.inl (x1)), some (.inr (.inr (r2))), none, none] [] G Q := by
  subst h2
  exact mj_X_sp (n := 3) (And.intro h1 (And.intro (fun q => (h3 q)) (fun q => (mj_X_wk (mj_le_n (mj_le_n (mj_le_n (mj_le_n (mj_le_n mj_le_0))))) (h4 q)))))
theorem mk_9007_7 {d : Nat} {Q : mj_O → mj_G → Prop} {G : mj_G} (h1 : mj_b (Int32.ofInt (0))) (h2 : Q (.inl (some (.inl (Int32.ofInt (0))))) (G)) : mj_X d 9007 7 [none, none, none, none, none] [] G Q := mj_X_sp (n := 1) (mj_X_ir rfl h1 h2)
theorem mk_9007_9 {d : Nat} {Q : mj_O → mj_G → Prop} {G : mj_G} {x1 v3 v5 : Int32} {r0 r2 v1 v2 v4 v6 : Nat} (h1 : mj_k (G) (r0) = 10) (h2 : mj_r (G) (r0) 3 = v1) (h3 : mj_k (G) (r0) = 10) (h4 : mj_r (G) (r0) 3 = v2) (h5 : mj_k (G) (r0) = 10) (h6 : mj_i (G) (r0) 4 = v3) (h7 : 30 ≤ mj_k (G) (v2)) (h8 : vp_in (v3) (mj_l (G) (v2))) (h9 : mj_r (G) (v2) (v3).toNatClampNeg = v4) (h10 : mj_k (G) (v4) = 5) (h11 : mj_i (G) (v4) 3 = v5) (h12 : 30 ≤ mj_k (G) (v1)) (h13 : vp_in (v5) (mj_l (G) (v1))) (h14 : mj_r (G) (v1) (v5).toNatClampNeg = v6) (h15 : mj_X d 9007 30 [some (.inr (.inr (r0))), some (.inl (x1)), some (.inr (.inr (r2))), some (.inr (.inr (v6))), none] [.inl (x1), .inr (.inr (v6)), .inr (.inr (r0))] G Q) : mj_X d 9007 9 [some (.inr (.inr (r0))), some (.inl (x1)), some (.inr (.inr (r2))), none, none] [] G Q := by
  subst h2
  subst h4
  subst h6
  subst h9
  subst h11
  subst h14
  exact mj_X_sp (n := 13) (And.intro h1 (And.intro h3 (And.intro h5 (And.intro h7 (And.intro h8 (And.intro h10 (And.intro h12 (And.intro h13 (h15)))))))))
theorem mc_9007_30 {d : Nat} {Q : mj_O → mj_G → Prop} {G : mj_G} {x1 s2 : Int32} {r0 r2 r3 t0 t1 : Nat} {R : Int32 → mj_G → Prop} (hk : mj_k G t0 = 10) (h1 : mj_X d 9008 0 [some (.inr (.inr (t0))), some (.inr (.inr (t1))), some (.inl (s2)), none, none] [] G (fun o G1 => ∃ v, o = .inl (some (.inl (v))) ∧ R v G1)) (k : ∀ v G1, R v G1 → mj_X (d + 1) 9007 33 [some (.inr (.inr (r0))), some (.inl (x1)), some (.inr (.inr (r2))), some (.inr (.inr (r3))), none] [.inl (v)] G1 Q) : mj_X (d + 1) 9007 30 [some (.inr (.inr (r0))), some (.inl (x1)), some (.inr (.inr (r2))), some (.inr (.inr (r3))), none] [.inl (s2), .inr (.inr (t1)), .inr (.inr (t0))] G Q :=
  mj_X_callP rfl rfl rfl (Nat.le_of_ble_eq_true rfl) (And.intro (Nat.le_of_ble_eq_true rfl) hk) h1 (fun o G1 h => by
    obtain ⟨v, rfl, h⟩ := h
    exact mj_X_wk (mj_le_s (mj_le_s (mj_le_s (mj_le_s (mj_le_n mj_le_0))))) (k v G1 h))
theorem mk_9007_33 {d : Nat} {Q : mj_O → mj_G → Prop} {G : mj_G} {x1 s0 : Int32} {r0 r2 r3 : Nat} (h1 : ¬ (s0) = (Int32.ofInt (-1)) → mj_X d 9007 90 [some (.inr (.inr (r0))), none, some (.inr (.inr (r2))), none, some (.inl (s0))] [] G Q) (h2 : (s0) = (Int32.ofInt (-1)) → mj_X d 9007 41 [some (.inr (.inr (r0))), some (.inl (x1)), some (.inr (.inr (r2))), some (.inr (.inr (r3))), none] [] G Q) : mj_X d 9007 33 [some (.inr (.inr (r0))), some (.inl (x1)), some (.inr (.inr (r2))), some (.inr (.inr (r3))), none] [.inl (s0)] G Q := mj_X_sp (n := 4) (And.intro (fun q => (mj_X_wk (mj_le_s (mj_le_n (mj_le_s (mj_le_n (mj_le_s mj_le_0))))) (h1 q))) (fun q => (mj_X_wk (mj_le_s (mj_le_s (mj_le_s (mj_le_s (mj_le_n mj_le_0))))) (h2 (Decidable.not_not.mp q)))))
theorem mk_9007_41 {d : Nat} {Q : mj_O → mj_G → Prop} {G : mj_G} {x1 v1 : Int32} {r0 r2 r3 : Nat} (h1 : mj_k (G) (r0) = 10) (h2 : mj_i (G) (r0) 2 = v1) (h3 : (v1) < ((Int16.ofInt (320)).toInt32) → mj_X d 9007 53 [some (.inr (.inr (r0))), some (.inl (x1)), some (.inr (.inr (r2))), some (.inr (.inr (r3))), none] [] G Q) (h4 : ¬ (v1) < ((Int16.ofInt (320)).toInt32) → mj_X d 9007 51 [none, none, none, none, none] [] G Q) : mj_X d 9007 41 [some (.inr (.inr (r0))), some (.inl (x1)), some (.inr (.inr (r2))), some (.inr (.inr (r3))), none] [] G Q := by
  subst h2
  exact mj_X_sp (n := 4) (And.intro h1 (And.intro (fun q => (h3 q)) (fun q => (mj_X_wk (mj_le_n (mj_le_n (mj_le_n (mj_le_n (mj_le_n mj_le_0))))) (h4 q)))))
theorem mk_9007_51 {d : Nat} {Q : mj_O → mj_G → Prop} {G : mj_G} (h1 : mj_b (Int32.ofInt (0))) (h2 : Q (.inl (some (.inl (Int32.ofInt (0))))) (G)) : mj_X d 9007 51 [none, none, none, none, none] [] G Q := mj_X_sp (n := 1) (mj_X_ir rfl h1 h2)
theorem mk_9007_53 {d : Nat} {Q : mj_O → mj_G → Prop} {G : mj_G} {x1 v1 v4 v5 : Int32} {r0 r2 r3 v2 v3 : Nat} {G1 G2 G3 : mj_G} (h1 : mj_k (G) (r0) = 10) (h2 : mj_i (G) (r0) 2 = v1) (h3 : mj_k (G) (r0) = 10) (h4 : mj_r (G) (r0) 1 = v2) (h5 : 30 ≤ mj_k (G) (v2)) (h6 : vp_in (v1) (mj_l (G) (v2))) (h7 : mj_r (G) (v2) (v1).toNatClampNeg = v3) (h8 : mj_k (G) (v3) = 12) (h9 : G1 = mj_pI (G) (v3) 6 (x1)) (h10 : mj_k (G1) (r0) = 10) (h11 : mj_i (G1) (r0) 2 = v4) (h12 : mj_k (G1) (r0) = 10) (h13 : G2 = mj_pI (G1) (r0) 2 ((v4) + (Int32.ofInt (1)))) (h14 : mj_k (G2) (r3) = 5) (h15 : mj_i (G2) (r3) 6 = v5) (h16 : mj_k (G2) (r3) = 5) (h17 : G3 = mj_pI (G2) (r3) 6 ((v5) + (Int32.ofInt (1)))) (h18 : mj_X d 9007 90 [some (.inr (.inr (r0))), none, some (.inr (.inr (r2))), none, some (.inl (v1))] [] G3 Q) : mj_X d 9007 53 [some (.inr (.inr (r0))), some (.inl (x1)), some (.inr (.inr (r2))), some (.inr (.inr (r3))), none] [] G Q := by
  subst h2
  subst h4
  subst h7
  subst h9
  subst h11
  subst h13
  subst h15
  subst h17
  exact mj_X_sp (n := 21) (And.intro h1 (And.intro h3 (And.intro h5 (And.intro h6 (And.intro trivial (And.intro h8 (And.intro trivial (And.intro trivial (And.intro h10 (And.intro trivial (And.intro h12 (And.intro trivial (And.intro trivial (And.intro h14 (And.intro trivial (And.intro h16 (And.intro trivial (And.intro trivial ((mj_X_wk (mj_le_s (mj_le_n (mj_le_s (mj_le_n (mj_le_s mj_le_0))))) h18))))))))))))))))))))
theorem mk_9007_90 {d : Nat} {Q : mj_O → mj_G → Prop} {G : mj_G} {x4 : Int32} {r0 r2 v1 v2 : Nat} (h1 : mj_k (G) (r0) = 10) (h2 : mj_r (G) (r0) 1 = v1) (h3 : 30 ≤ mj_k (G) (v1)) (h4 : vp_in (x4) (mj_l (G) (v1))) (h5 : mj_r (G) (v1) (x4).toNatClampNeg = v2) (h6 : mj_X d 9007 98 [none, none, none, none, none] [.inr (.inr (r2)), .inr (.inr (v2))] G Q) : mj_X d 9007 90 [some (.inr (.inr (r0))), none, some (.inr (.inr (r2))), none, some (.inl (x4))] [] G Q := by
  subst h2
  subst h5
  exact mj_X_sp (n := 5) (And.intro h1 (And.intro h3 (And.intro h4 ((mj_X_wk (mj_le_n (mj_le_n (mj_le_n (mj_le_n (mj_le_n mj_le_0))))) h6)))))
theorem mc_9007_98 {d : Nat} {Q : mj_O → mj_G → Prop} {G : mj_G} {t0 t1 : Nat} {R : mj_G → Prop} (hk : mj_k G t0 = 12) (h1 : mj_X d 11006 0 [some (.inr (.inr (t0))), some (.inr (.inr (t1))), none, none] [] G (fun o G1 => o = .inl none ∧ R G1)) (k : ∀ G1, R G1 → mj_X (d + 1) 9007 101 [none, none, none, none, none] [] G1 Q) : mj_X (d + 1) 9007 98 [none, none, none, none, none] [.inr (.inr (t1)), .inr (.inr (t0))] G Q :=
  mj_X_callP rfl rfl rfl (Nat.le_of_ble_eq_true rfl) (And.intro (Nat.le_of_ble_eq_true rfl) hk) h1 (fun o G1 h => by
    obtain ⟨rfl, h⟩ := h
    exact mj_X_wk (mj_le_n (mj_le_n (mj_le_n (mj_le_n (mj_le_n mj_le_0))))) (k G1 h))
theorem mk_9007_101 {d : Nat} {Q : mj_O → mj_G → Prop} {G : mj_G} (h1 : mj_b (Int32.ofInt (1))) (h2 : Q (.inl (some (.inl (Int32.ofInt (1))))) (G)) : mj_X d 9007 101 [none, none, none, none, none] [] G Q := mj_X_sp (n := 1) (mj_X_ir rfl h1 h2)
/-! 9008: TemplateQuarry$Stack.placeIn(LTemplateQuarry$Frame;I)I -/
theorem mk_9008_0 {d : Nat} {Q : mj_O → mj_G → Prop} {G : mj_G} {x2 v1 v2 v3 v4 : Int32} {r0 r1 : Nat} (h1 : mj_k (G) (r1) = 5) (h2 : mj_i (G) (r1) 5 = v1) (h3 : mj_k (G) (r1) = 5) (h4 : mj_i (G) (r1) 6 = v2) (h5 : mj_mn ((v1) + (v2)) ((Int16.ofInt (320)).toInt32) = v3) (h6 : mj_k (G) (r1) = 5) (h7 : mj_i (G) (r1) 5 = v4) (h8 : mj_X d 9008 22 [some (.inr (.inr (r0))), none, some (.inl (x2)), some (.inl (v3)), some (.inl (v4))] [] G Q) : mj_X d 9008 0 [some (.inr (.inr (r0))), some (.inr (.inr (r1))), some (.inl (x2)), none, none] [] G Q := by
  subst h2
  subst h4
  subst h5
  subst h7
  exact mj_X_sp (n := 11) (And.intro h1 (And.intro h3 (And.intro (Nat.le_of_ble_eq_true rfl) (And.intro h6 ((mj_X_wk (mj_le_s (mj_le_n (mj_le_s (mj_le_s (mj_le_s mj_le_0))))) h8))))))
theorem mk_9008_22 {d : Nat} {Q : mj_O → mj_G → Prop} {G : mj_G} {x2 x3 x4 : Int32} {r0 : Nat} (h1 : (x3) ≤ (x4) → mj_X d 9008 51 [none, none, none, none, none] [] G Q) (h2 : ¬ (x3) ≤ (x4) → mj_X d 9008 28 [some (.inr (.inr (r0))), none, some (.inl (x2)), some (.inl (x3)), some (.inl (x4))] [] G Q) : mj_X d 9008 22 [some (.inr (.inr (r0))), none, some (.inl (x2)), some (.inl (x3)), some (.inl (x4))] [] G Q := mj_X_sp (n := 3) (And.intro (fun q => (mj_X_wk (mj_le_n (mj_le_n (mj_le_n (mj_le_n (mj_le_n mj_le_0))))) (h1 q))) (fun q => (h2 q)))
theorem mk_9008_28 {d : Nat} {Q : mj_O → mj_G → Prop} {G : mj_G} {x2 x3 x4 v3 : Int32} {r0 v1 v2 : Nat} (h1 : mj_k (G) (r0) = 10) (h2 : mj_r (G) (r0) 1 = v1) (h3 : 30 ≤ mj_k (G) (v1)) (h4 : vp_in (x4) (mj_l (G) (v1))) (h5 : mj_r (G) (v1) (x4).toNatClampNeg = v2) (h6 : mj_k (G) (v2) = 12) (h7 : mj_i (G) (v2) 6 = v3) (h8 : ¬ (v3) = (x2) → mj_X d 9008 45 [some (.inr (.inr (r0))), none, some (.inl (x2)), some (.inl (x3)), some (.inl (x4))] [] G Q) (h9 : (v3) = (x2) → mj_X d 9008 42 [none, none, none, none, some (.inl (x4))] [] G Q) : mj_X d 9008 28 [some (.inr (.inr (r0))), none, some (.inl (x2)), some (.inl (x3)), some (.inl (x4))] [] G Q := by
  subst h2
  subst h5
  subst h7
  exact mj_X_sp (n := 7) (And.intro h1 (And.intro h3 (And.intro h4 (And.intro h6 (And.intro (fun q => (h8 q)) (fun q => (mj_X_wk (mj_le_n (mj_le_n (mj_le_n (mj_le_n (mj_le_s mj_le_0))))) (h9 (Decidable.not_not.mp q)))))))))
theorem mk_9008_42 {d : Nat} {Q : mj_O → mj_G → Prop} {G : mj_G} {x4 : Int32} (h1 : Q (.inl (some (.inl (x4)))) (G)) : mj_X d 9008 42 [none, none, none, none, some (.inl (x4))] [] G Q := mj_X_sp (n := 1) (mj_X_ir rfl trivial h1)
theorem mk_9008_45 {d : Nat} {Q : mj_O → mj_G → Prop} {G : mj_G} {x2 x3 x4 : Int32} {r0 : Nat} (h1 : mj_X d 9008 22 [some (.inr (.inr (r0))), none, some (.inl (x2)), some (.inl (x3)), some (.inl ((x4) + Int32.ofInt (1)))] [] G Q) : mj_X d 9008 45 [some (.inr (.inr (r0))), none, some (.inl (x2)), some (.inl (x3)), some (.inl (x4))] [] G Q := mj_X_sp (n := 2) (h1)
theorem mk_9008_51 {d : Nat} {Q : mj_O → mj_G → Prop} {G : mj_G} (h1 : Q (.inl (some (.inl (Int32.ofInt (-1))))) (G)) : mj_X d 9008 51 [none, none, none, none, none] [] G Q := mj_X_sp (n := 1) (mj_X_ir rfl trivial h1)
/-! 9009: TemplateQuarry$Stack.placeFrom(II)I -/
theorem mk_9009_0 {d : Nat} {Q : mj_O → mj_G → Prop} {G : mj_G} {x1 x2 : Int32} {r0 : Nat} (h1 : mj_X d 9009 5 [some (.inr (.inr (r0))), none, some (.inl (x2)), some (.inl (x1)), some (.inl (Int32.ofInt (0))), none, none, none] [] G Q) : mj_X d 9009 0 [some (.inr (.inr (r0))), some (.inl (x1)), some (.inl (x2)), none, none, none, none, none] [] G Q := mj_X_sp (n := 4) ((mj_X_wk (mj_le_s (mj_le_n (mj_le_s (mj_le_s (mj_le_s (mj_le_n (mj_le_n (mj_le_n mj_le_0)))))))) h1))
theorem mk_9009_5 {d : Nat} {Q : mj_O → mj_G → Prop} {G : mj_G} {x2 x3 x4 : Int32} {r0 : Nat} (h1 : ((Int16.ofInt (200)).toInt32) ≤ (x4) → mj_X d 9009 93 [none, none, none, none, none, none, none, none] [] G Q) (h2 : ¬ ((Int16.ofInt (200)).toInt32) ≤ (x4) → mj_X d 9009 13 [some (.inr (.inr (r0))), none, some (.inl (x2)), some (.inl (x3)), some (.inl (x4)), none, none, none] [] G Q) : mj_X d 9009 5 [some (.inr (.inr (r0))), none, some (.inl (x2)), some (.inl (x3)), some (.inl (x4)), none, none, none] [] G Q := mj_X_sp (n := 3) (And.intro (fun q => (mj_X_wk (mj_le_n (mj_le_n (mj_le_n (mj_le_n (mj_le_n (mj_le_n (mj_le_n (mj_le_n mj_le_0)))))))) (h1 q))) (fun q => (h2 q)))
theorem mk_9009_13 {d : Nat} {Q : mj_O → mj_G → Prop} {G : mj_G} {x2 x3 x4 : Int32} {r0 : Nat} (h1 : (x3) < ((0 : Int32)) → mj_X d 9009 93 [none, none, none, none, none, none, none, none] [] G Q) (h2 : ¬ (x3) < ((0 : Int32)) → mj_X d 9009 17 [some (.inr (.inr (r0))), none, some (.inl (x2)), some (.inl (x3)), some (.inl (x4)), none, none, none] [] G Q) : mj_X d 9009 13 [some (.inr (.inr (r0))), none, some (.inl (x2)), some (.inl (x3)), some (.inl (x4)), none, none, none] [] G Q := mj_X_sp (n := 2) (And.intro (fun q => (mj_X_wk (mj_le_n (mj_le_n (mj_le_n (mj_le_n (mj_le_n (mj_le_n (mj_le_n (mj_le_n mj_le_0)))))))) (h1 q))) (fun q => (h2 q)))
theorem mk_9009_17 {d : Nat} {Q : mj_O → mj_G → Prop} {G : mj_G} {x2 x3 x4 v3 v4 v5 v6 : Int32} {r0 v1 v2 : Nat} (h1 : mj_k (G) (r0) = 10) (h2 : mj_r (G) (r0) 3 = v1) (h3 : 30 ≤ mj_k (G) (v1)) (h4 : vp_in (x3) (mj_l (G) (v1))) (h5 : mj_r (G) (v1) (x3).toNatClampNeg = v2) (h6 : mj_k (G) (v2) = 5) (h7 : mj_i (G) (v2) 5 = v3) (h8 : mj_k (G) (v2) = 5) (h9 : mj_i (G) (v2) 6 = v4) (h10 : mj_mn ((v3) + (v4)) ((Int16.ofInt (320)).toInt32) = v5) (h11 : mj_k (G) (v2) = 5) (h12 : mj_i (G) (v2) 5 = v6) (h13 : mj_X d 9009 51 [some (.inr (.inr (r0))), none, some (.inl (x2)), none, some (.inl (x4)), some (.inr (.inr (v2))), some (.inl (v5)), some (.inl (v6))] [] G Q) : mj_X d 9009 17 [some (.inr (.inr (r0))), none, some (.inl (x2)), some (.inl (x3)), some (.inl (x4)), none, none, none] [] G Q := by
  subst h2
  subst h5
  subst h7
  subst h9
  subst h10
  subst h12
  exact mj_X_sp (n := 16) (And.intro h1 (And.intro h3 (And.intro h4 (And.intro h6 (And.intro h8 (And.intro (Nat.le_of_ble_eq_true rfl) (And.intro h11 ((mj_X_wk (mj_le_s (mj_le_n (mj_le_s (mj_le_n (mj_le_s (mj_le_s (mj_le_s (mj_le_s mj_le_0)))))))) h13)))))))))
theorem mk_9009_51 {d : Nat} {Q : mj_O → mj_G → Prop} {G : mj_G} {x2 x4 x6 x7 : Int32} {r0 r5 : Nat} (h1 : (x6) ≤ (x7) → mj_X d 9009 81 [some (.inr (.inr (r0))), none, some (.inl (x2)), none, some (.inl (x4)), some (.inr (.inr (r5))), none, none] [] G Q) (h2 : ¬ (x6) ≤ (x7) → mj_X d 9009 58 [some (.inr (.inr (r0))), none, some (.inl (x2)), none, some (.inl (x4)), some (.inr (.inr (r5))), some (.inl (x6)), some (.inl (x7))] [] G Q) : mj_X d 9009 51 [some (.inr (.inr (r0))), none, some (.inl (x2)), none, some (.inl (x4)), some (.inr (.inr (r5))), some (.inl (x6)), some (.inl (x7))] [] G Q := mj_X_sp (n := 3) (And.intro (fun q => (mj_X_wk (mj_le_s (mj_le_n (mj_le_s (mj_le_n (mj_le_s (mj_le_s (mj_le_n (mj_le_n mj_le_0)))))))) (h1 q))) (fun q => (h2 q)))
theorem mk_9009_58 {d : Nat} {Q : mj_O → mj_G → Prop} {G : mj_G} {x2 x4 x6 x7 v3 : Int32} {r0 r5 v1 v2 : Nat} (h1 : mj_k (G) (r0) = 10) (h2 : mj_r (G) (r0) 1 = v1) (h3 : 30 ≤ mj_k (G) (v1)) (h4 : vp_in (x7) (mj_l (G) (v1))) (h5 : mj_r (G) (v1) (x7).toNatClampNeg = v2) (h6 : mj_k (G) (v2) = 12) (h7 : mj_i (G) (v2) 6 = v3) (h8 : ¬ (v3) = (x2) → mj_X d 9009 75 [some (.inr (.inr (r0))), none, some (.inl (x2)), none, some (.inl (x4)), some (.inr (.inr (r5))), some (.inl (x6)), some (.inl (x7))] [] G Q) (h9 : (v3) = (x2) → mj_X d 9009 72 [none, none, none, none, none, none, none, some (.inl (x7))] [] G Q) : mj_X d 9009 58 [some (.inr (.inr (r0))), none, some (.inl (x2)), none, some (.inl (x4)), some (.inr (.inr (r5))), some (.inl (x6)), some (.inl (x7))] [] G Q := by
  subst h2
  subst h5
  subst h7
  exact mj_X_sp (n := 7) (And.intro h1 (And.intro h3 (And.intro h4 (And.intro h6 (And.intro (fun q => (h8 q)) (fun q => (mj_X_wk (mj_le_n (mj_le_n (mj_le_n (mj_le_n (mj_le_n (mj_le_n (mj_le_n (mj_le_s mj_le_0)))))))) (h9 (Decidable.not_not.mp q)))))))))
theorem mk_9009_72 {d : Nat} {Q : mj_O → mj_G → Prop} {G : mj_G} {x7 : Int32} (h1 : Q (.inl (some (.inl (x7)))) (G)) : mj_X d 9009 72 [none, none, none, none, none, none, none, some (.inl (x7))] [] G Q := mj_X_sp (n := 1) (mj_X_ir rfl trivial h1)
theorem mk_9009_75 {d : Nat} {Q : mj_O → mj_G → Prop} {G : mj_G} {x2 x4 x6 x7 : Int32} {r0 r5 : Nat} (h1 : mj_X d 9009 51 [some (.inr (.inr (r0))), none, some (.inl (x2)), none, some (.inl (x4)), some (.inr (.inr (r5))), some (.inl (x6)), some (.inl ((x7) + Int32.ofInt (1)))] [] G Q) : mj_X d 9009 75 [some (.inr (.inr (r0))), none, some (.inl (x2)), none, some (.inl (x4)), some (.inr (.inr (r5))), some (.inl (x6)), some (.inl (x7))] [] G Q := mj_X_sp (n := 2) (h1)
theorem mk_9009_81 {d : Nat} {Q : mj_O → mj_G → Prop} {G : mj_G} {x2 x4 v1 : Int32} {r0 r5 : Nat} (h1 : mj_k (G) (r5) = 5) (h2 : mj_i (G) (r5) 4 = v1) (h3 : mj_X d 9009 5 [some (.inr (.inr (r0))), none, some (.inl (x2)), some (.inl (v1)), some (.inl ((x4) + Int32.ofInt (1))), none, none, none] [] G Q) : mj_X d 9009 81 [some (.inr (.inr (r0))), none, some (.inl (x2)), none, some (.inl (x4)), some (.inr (.inr (r5))), none, none] [] G Q := by
  subst h2
  exact mj_X_sp (n := 5) (And.intro h1 ((mj_X_wk (mj_le_s (mj_le_n (mj_le_s (mj_le_s (mj_le_s (mj_le_n (mj_le_n (mj_le_n mj_le_0)))))))) h3)))
theorem mk_9009_93 {d : Nat} {Q : mj_O → mj_G → Prop} {G : mj_G} (h1 : Q (.inl (some (.inl (Int32.ofInt (-1))))) (G)) : mj_X d 9009 93 [none, none, none, none, none, none, none, none] [] G Q := mj_X_sp (n := 1) (mj_X_ir rfl trivial h1)
/-! 9010: TemplateQuarry$Stack.valueFrom(II)LTemplateQuarry$Value; -/
theorem mk_9010_0 {d : Nat} {Q : mj_O → mj_G → Prop} {G : mj_G} {x1 x2 : Int32} {r0 : Nat} (h1 : mj_X d 9010 3 [some (.inr (.inr (r0))), none, some (.inl (x2)), none] [.inl (x2), .inl (x1), .inr (.inr (r0))] G Q) : mj_X d 9010 0 [some (.inr (.inr (r0))), some (.inl (x1)), some (.inl (x2)), none] [] G Q := mj_X_sp (n := 3) ((mj_X_wk (mj_le_s (mj_le_n (mj_le_s (mj_le_n mj_le_0)))) h1))
theorem mc_9010_3 {d : Nat} {Q : mj_O → mj_G → Prop} {G : mj_G} {x2 s1 s2 : Int32} {r0 t0 : Nat} {R : Int32 → mj_G → Prop} (hk : mj_k G t0 = 10) (h1 : mj_X d 9009 0 [some (.inr (.inr (t0))), some (.inl (s1)), some (.inl (s2)), none, none, none, none, none] [] G (fun o G1 => ∃ v, o = .inl (some (.inl (v))) ∧ R v G1)) (k : ∀ v G1, R v G1 → mj_X (d + 1) 9010 6 [some (.inr (.inr (r0))), none, some (.inl (x2)), none] [.inl (v)] G1 Q) : mj_X (d + 1) 9010 3 [some (.inr (.inr (r0))), none, some (.inl (x2)), none] [.inl (s2), .inl (s1), .inr (.inr (t0))] G Q :=
  mj_X_callP rfl rfl rfl (Nat.le_of_ble_eq_true rfl) (And.intro (Nat.le_of_ble_eq_true rfl) hk) h1 (fun o G1 h => by
    obtain ⟨v, rfl, h⟩ := h
    exact mj_X_wk (mj_le_s (mj_le_n (mj_le_s (mj_le_n mj_le_0)))) (k v G1 h))
theorem mk_9010_6 {d : Nat} {Q : mj_O → mj_G → Prop} {G : mj_G} {x2 s0 : Int32} {r0 : Nat} (h1 : ¬ (s0) = (Int32.ofInt (-1)) → mj_X d 9010 21 [some (.inr (.inr (r0))), none, none, some (.inl (s0))] [] G Q) (h2 : (s0) = (Int32.ofInt (-1)) → mj_X d 9010 12 [some (.inr (.inr (r0))), none, some (.inl (x2)), none] [] G Q) : mj_X d 9010 6 [some (.inr (.inr (r0))), none, some (.inl (x2)), none] [.inl (s0)] G Q := mj_X_sp (n := 4) (And.intro (fun q => (mj_X_wk (mj_le_s (mj_le_n (mj_le_n (mj_le_s mj_le_0)))) (h1 q))) (fun q => (mj_X_wk (mj_le_s (mj_le_n (mj_le_s (mj_le_n mj_le_0)))) (h2 (Decidable.not_not.mp q)))))
theorem mk_9010_12 {d : Nat} {Q : mj_O → mj_G → Prop} {G : mj_G} {x2 : Int32} {r0 v1 v2 : Nat} (h1 : mj_k (G) (r0) = 10) (h2 : mj_r (G) (r0) 0 = v1) (h3 : 30 ≤ mj_k (G) (v1)) (h4 : vp_in (x2) (mj_l (G) (v1))) (h5 : mj_r (G) (v1) (x2).toNatClampNeg = v2) (h6 : mj_X d 9010 27 [none, none, none, none] [.inr (.inr (v2))] G Q) : mj_X d 9010 12 [some (.inr (.inr (r0))), none, some (.inl (x2)), none] [] G Q := by
  subst h2
  subst h5
  exact mj_X_sp (n := 5) (And.intro h1 (And.intro h3 (And.intro h4 ((mj_X_wk (mj_le_n (mj_le_n (mj_le_n (mj_le_n mj_le_0)))) h6)))))
theorem mk_9010_21 {d : Nat} {Q : mj_O → mj_G → Prop} {G : mj_G} {x3 : Int32} {r0 v1 v2 : Nat} (h1 : mj_k (G) (r0) = 10) (h2 : mj_r (G) (r0) 1 = v1) (h3 : 30 ≤ mj_k (G) (v1)) (h4 : vp_in (x3) (mj_l (G) (v1))) (h5 : mj_r (G) (v1) (x3).toNatClampNeg = v2) (h6 : mj_X d 9010 27 [none, none, none, none] [.inr (.inr (v2))] G Q) : mj_X d 9010 21 [some (.inr (.inr (r0))), none, none, some (.inl (x3))] [] G Q := by
  subst h2
  subst h5
  exact mj_X_sp (n := 4) (And.intro h1 (And.intro h3 (And.intro h4 ((mj_X_wk (mj_le_n (mj_le_n (mj_le_n (mj_le_n mj_le_0)))) h6)))))
theorem mk_9010_27 {d : Nat} {Q : mj_O → mj_G → Prop} {G : mj_G} {t0 : Nat} (h1 : Q (.inl (some (.inr (.inr (t0))))) (G)) : mj_X d 9010 27 [none, none, none, none] [.inr (.inr (t0))] G Q := mj_X_ar rfl rfl h1
/-! 9011: TemplateQuarry$Stack.read(II)LTemplateQuarry$Value; -/
theorem mk_9011_0 {d : Nat} {Q : mj_O → mj_G → Prop} {G : mj_G} {x1 x2 : Int32} {r0 : Nat} (h1 : mj_X d 9011 3 [some (.inr (.inr (r0))), some (.inl (x1)), some (.inl (x2)), none] [.inl (x2), .inl (x1), .inr (.inr (r0))] G Q) : mj_X d 9011 0 [some (.inr (.inr (r0))), some (.inl (x1)), some (.inl (x2)), none] [] G Q := mj_X_sp (n := 3) (h1)
theorem mc_9011_3 {d : Nat} {Q : mj_O → mj_G → Prop} {G : mj_G} {x1 x2 s1 s2 : Int32} {r0 t0 : Nat} {R : Int32 → mj_G → Prop} (hk : mj_k G t0 = 10) (h1 : mj_X d 9009 0 [some (.inr (.inr (t0))), some (.inl (s1)), some (.inl (s2)), none, none, none, none, none] [] G (fun o G1 => ∃ v, o = .inl (some (.inl (v))) ∧ R v G1)) (k : ∀ v G1, R v G1 → mj_X (d + 1) 9011 6 [some (.inr (.inr (r0))), some (.inl (x1)), some (.inl (x2)), none] [.inl (v)] G1 Q) : mj_X (d + 1) 9011 3 [some (.inr (.inr (r0))), some (.inl (x1)), some (.inl (x2)), none] [.inl (s2), .inl (s1), .inr (.inr (t0))] G Q :=
  mj_X_callP rfl rfl rfl (Nat.le_of_ble_eq_true rfl) (And.intro (Nat.le_of_ble_eq_true rfl) hk) h1 (fun o G1 h => by
    obtain ⟨v, rfl, h⟩ := h
    exact mj_X_wk (mj_le_s (mj_le_s (mj_le_s (mj_le_n mj_le_0)))) (k v G1 h))
theorem mk_9011_6 {d : Nat} {Q : mj_O → mj_G → Prop} {G : mj_G} {x1 x2 s0 v1 : Int32} {r0 : Nat} (h1 : mj_k (G) (r0) = 10) (h2 : mj_i (G) (r0) 4 = v1) (h3 : (v1) < ((0 : Int32)) → mj_X d 9011 37 [some (.inr (.inr (r0))), none, some (.inl (x2)), some (.inl (s0))] [] G Q) (h4 : ¬ (v1) < ((0 : Int32)) → mj_X d 9011 14 [some (.inr (.inr (r0))), some (.inl (x1)), some (.inl (x2)), some (.inl (s0))] [] G Q) : mj_X d 9011 6 [some (.inr (.inr (r0))), some (.inl (x1)), some (.inl (x2)), none] [.inl (s0)] G Q := by
  subst h2
  exact mj_X_sp (n := 4) (And.intro h1 (And.intro (fun q => (mj_X_wk (mj_le_s (mj_le_n (mj_le_s (mj_le_s mj_le_0)))) (h3 q))) (fun q => (h4 q))))
theorem mk_9011_14 {d : Nat} {Q : mj_O → mj_G → Prop} {G : mj_G} {x1 x2 x3 v2 v4 : Int32} {r0 v1 v3 : Nat} (h1 : mj_k (G) (r0) = 10) (h2 : mj_r (G) (r0) 3 = v1) (h3 : mj_k (G) (r0) = 10) (h4 : mj_i (G) (r0) 4 = v2) (h5 : 30 ≤ mj_k (G) (v1)) (h6 : vp_in (v2) (mj_l (G) (v1))) (h7 : mj_r (G) (v1) (v2).toNatClampNeg = v3) (h8 : mj_k (G) (v3) = 5) (h9 : mj_i (G) (v3) 11 = v4) (h10 : (v4) = (Int32.ofInt (-1)) → mj_X d 9011 37 [some (.inr (.inr (r0))), none, some (.inl (x2)), some (.inl (x3))] [] G Q) (h11 : ¬ (v4) = (Int32.ofInt (-1)) → mj_X d 9011 30 [some (.inr (.inr (r0))), some (.inl (x1)), some (.inl (x2)), some (.inl (x3))] [] G Q) : mj_X d 9011 14 [some (.inr (.inr (r0))), some (.inl (x1)), some (.inl (x2)), some (.inl (x3))] [] G Q := by
  subst h2
  subst h4
  subst h7
  subst h9
  exact mj_X_sp (n := 8) (And.intro h1 (And.intro h3 (And.intro h5 (And.intro h6 (And.intro h8 (And.intro (fun q => (mj_X_wk (mj_le_s (mj_le_n (mj_le_s (mj_le_s mj_le_0)))) (h10 q))) (fun q => (h11 q))))))))
theorem mk_9011_30 {d : Nat} {Q : mj_O → mj_G → Prop} {G : mj_G} {x1 x2 x3 : Int32} {r0 : Nat} (h1 : mj_X d 9011 34 [some (.inr (.inr (r0))), none, some (.inl (x2)), some (.inl (x3))] [.inl (x2), .inl (x3), .inl (x1), .inr (.inr (r0))] G Q) : mj_X d 9011 30 [some (.inr (.inr (r0))), some (.inl (x1)), some (.inl (x2)), some (.inl (x3))] [] G Q := mj_X_sp (n := 4) ((mj_X_wk (mj_le_s (mj_le_n (mj_le_s (mj_le_s mj_le_0)))) h1))
theorem mc_9011_34 {d : Nat} {Q : mj_O → mj_G → Prop} {G : mj_G} {x2 x3 s1 s2 s3 : Int32} {r0 t0 : Nat} {R : mj_G → Prop} (hk : mj_k G t0 = 10) (h1 : mj_X d 9012 0 [some (.inr (.inr (t0))), some (.inl (s1)), some (.inl (s2)), some (.inl (s3)), none, none, none, none] [] G (fun o G1 => o = .inl none ∧ R G1)) (k : ∀ G1, R G1 → mj_X (d + 1) 9011 37 [some (.inr (.inr (r0))), none, some (.inl (x2)), some (.inl (x3))] [] G1 Q) : mj_X (d + 1) 9011 34 [some (.inr (.inr (r0))), none, some (.inl (x2)), some (.inl (x3))] [.inl (s3), .inl (s2), .inl (s1), .inr (.inr (t0))] G Q :=
  mj_X_callP rfl rfl rfl (Nat.le_of_ble_eq_true rfl) (And.intro (Nat.le_of_ble_eq_true rfl) hk) h1 (fun o G1 h => by
    obtain ⟨rfl, h⟩ := h
    exact mj_X_wk (mj_le_s (mj_le_n (mj_le_s (mj_le_s mj_le_0)))) (k G1 h))
theorem mk_9011_37 {d : Nat} {Q : mj_O → mj_G → Prop} {G : mj_G} {x2 x3 : Int32} {r0 : Nat} (h1 : ¬ (x3) = (Int32.ofInt (-1)) → mj_X d 9011 51 [some (.inr (.inr (r0))), none, none, some (.inl (x3))] [] G Q) (h2 : (x3) = (Int32.ofInt (-1)) → mj_X d 9011 42 [some (.inr (.inr (r0))), none, some (.inl (x2)), none] [] G Q) : mj_X d 9011 37 [some (.inr (.inr (r0))), none, some (.inl (x2)), some (.inl (x3))] [] G Q := mj_X_sp (n := 3) (And.intro (fun q => (mj_X_wk (mj_le_s (mj_le_n (mj_le_n (mj_le_s mj_le_0)))) (h1 q))) (fun q => (mj_X_wk (mj_le_s (mj_le_n (mj_le_s (mj_le_n mj_le_0)))) (h2 (Decidable.not_not.mp q)))))
theorem mk_9011_42 {d : Nat} {Q : mj_O → mj_G → Prop} {G : mj_G} {x2 : Int32} {r0 v1 v2 : Nat} (h1 : mj_k (G) (r0) = 10) (h2 : mj_r (G) (r0) 0 = v1) (h3 : 30 ≤ mj_k (G) (v1)) (h4 : vp_in (x2) (mj_l (G) (v1))) (h5 : mj_r (G) (v1) (x2).toNatClampNeg = v2) (h6 : mj_X d 9011 57 [none, none, none, none] [.inr (.inr (v2))] G Q) : mj_X d 9011 42 [some (.inr (.inr (r0))), none, some (.inl (x2)), none] [] G Q := by
  subst h2
  subst h5
  exact mj_X_sp (n := 5) (And.intro h1 (And.intro h3 (And.intro h4 ((mj_X_wk (mj_le_n (mj_le_n (mj_le_n (mj_le_n mj_le_0)))) h6)))))
theorem mk_9011_51 {d : Nat} {Q : mj_O → mj_G → Prop} {G : mj_G} {x3 : Int32} {r0 v1 v2 : Nat} (h1 : mj_k (G) (r0) = 10) (h2 : mj_r (G) (r0) 1 = v1) (h3 : 30 ≤ mj_k (G) (v1)) (h4 : vp_in (x3) (mj_l (G) (v1))) (h5 : mj_r (G) (v1) (x3).toNatClampNeg = v2) (h6 : mj_X d 9011 57 [none, none, none, none] [.inr (.inr (v2))] G Q) : mj_X d 9011 51 [some (.inr (.inr (r0))), none, none, some (.inl (x3))] [] G Q := by
  subst h2
  subst h5
  exact mj_X_sp (n := 4) (And.intro h1 (And.intro h3 (And.intro h4 ((mj_X_wk (mj_le_n (mj_le_n (mj_le_n (mj_le_n mj_le_0)))) h6)))))
theorem mk_9011_57 {d : Nat} {Q : mj_O → mj_G → Prop} {G : mj_G} {t0 : Nat} (h1 : Q (.inl (some (.inr (.inr (t0))))) (G)) : mj_X d 9011 57 [none, none, none, none] [.inr (.inr (t0))] G Q := mj_X_ar rfl rfl h1
/-! 9012: TemplateQuarry$Stack.noteRead(III)V -/
theorem mk_9012_0 {d : Nat} {Q : mj_O → mj_G → Prop} {G : mj_G} {x1 x2 x3 v2 v4 : Int32} {r0 v1 v3 : Nat} (h1 : mj_k (G) (r0) = 10) (h2 : mj_r (G) (r0) 3 = v1) (h3 : mj_k (G) (r0) = 10) (h4 : mj_i (G) (r0) 4 = v2) (h5 : 30 ≤ mj_k (G) (v1)) (h6 : vp_in (v2) (mj_l (G) (v1))) (h7 : mj_r (G) (v1) (v2).toNatClampNeg = v3) (h8 : mj_k (G) (v3) = 5) (h9 : mj_i (G) (v3) 11 = v4) (h10 : mj_X d 9012 17 [some (.inr (.inr (r0))), some (.inl (x1)), some (.inl (x2)), some (.inl (x3)), some (.inl (v4)), some (.inl (Int32.ofInt (0))), none, none] [] G Q) : mj_X d 9012 0 [some (.inr (.inr (r0))), some (.inl (x1)), some (.inl (x2)), some (.inl (x3)), none, none, none, none] [] G Q := by
  subst h2
  subst h4
  subst h7
  subst h9
  exact mj_X_sp (n := 9) (And.intro h1 (And.intro h3 (And.intro h5 (And.intro h6 (And.intro h8 (h10))))))
theorem mk_9012_17 {d : Nat} {Q : mj_O → mj_G → Prop} {G : mj_G} {x1 x2 x3 x4 x5 : Int32} {r0 : Nat} (h1 : ((Int16.ofInt (200)).toInt32) ≤ (x5) → mj_X d 9012 147 [none, none, none, none, none, none, none, none] [] G Q) (h2 : ¬ ((Int16.ofInt (200)).toInt32) ≤ (x5) → mj_X d 9012 25 [some (.inr (.inr (r0))), some (.inl (x1)), some (.inl (x2)), some (.inl (x3)), some (.inl (x4)), some (.inl (x5)), none, none] [] G Q) : mj_X d 9012 17 [some (.inr (.inr (r0))), some (.inl (x1)), some (.inl (x2)), some (.inl (x3)), some (.inl (x4)), some (.inl (x5)), none, none] [] G Q := mj_X_sp (n := 3) (And.intro (fun q => (mj_X_wk (mj_le_n (mj_le_n (mj_le_n (mj_le_n (mj_le_n (mj_le_n (mj_le_n (mj_le_n mj_le_0)))))))) (h1 q))) (fun q => (h2 q)))
theorem mk_9012_25 {d : Nat} {Q : mj_O → mj_G → Prop} {G : mj_G} {x1 x2 x3 x4 x5 : Int32} {r0 : Nat} (h1 : (x4) ≤ ((0 : Int32)) → mj_X d 9012 147 [none, none, none, none, none, none, none, none] [] G Q) (h2 : ¬ (x4) ≤ ((0 : Int32)) → mj_X d 9012 30 [some (.inr (.inr (r0))), some (.inl (x1)), some (.inl (x2)), some (.inl (x3)), some (.inl (x4)), some (.inl (x5)), none, none] [] G Q) : mj_X d 9012 25 [some (.inr (.inr (r0))), some (.inl (x1)), some (.inl (x2)), some (.inl (x3)), some (.inl (x4)), some (.inl (x5)), none, none] [] G Q := mj_X_sp (n := 2) (And.intro (fun q => (mj_X_wk (mj_le_n (mj_le_n (mj_le_n (mj_le_n (mj_le_n (mj_le_n (mj_le_n (mj_le_n mj_le_0)))))))) (h1 q))) (fun q => (h2 q)))
theorem mk_9012_30 {d : Nat} {Q : mj_O → mj_G → Prop} {G : mj_G} {x1 x2 x3 x4 x5 v3 : Int32} {r0 v1 v2 : Nat} (h1 : mj_k (G) (r0) = 10) (h2 : mj_r (G) (r0) 3 = v1) (h3 : 30 ≤ mj_k (G) (v1)) (h4 : vp_in (x4) (mj_l (G) (v1))) (h5 : mj_r (G) (v1) (x4).toNatClampNeg = v2) (h6 : mj_k (G) (v2) = 5) (h7 : mj_i (G) (v2) 5 = v3) (h8 : (v3) ≤ (x2) → mj_X d 9012 147 [none, none, none, none, none, none, none, none] [] G Q) (h9 : ¬ (v3) ≤ (x2) → mj_X d 9012 44 [some (.inr (.inr (r0))), some (.inl (x1)), some (.inl (x2)), some (.inl (x3)), some (.inl (x4)), some (.inl (x5)), none, none] [] G Q) : mj_X d 9012 30 [some (.inr (.inr (r0))), some (.inl (x1)), some (.inl (x2)), some (.inl (x3)), some (.inl (x4)), some (.inl (x5)), none, none] [] G Q := by
  subst h2
  subst h5
  subst h7
  exact mj_X_sp (n := 7) (And.intro h1 (And.intro h3 (And.intro h4 (And.intro h6 (And.intro (fun q => (mj_X_wk (mj_le_n (mj_le_n (mj_le_n (mj_le_n (mj_le_n (mj_le_n (mj_le_n (mj_le_n mj_le_0)))))))) (h8 q))) (fun q => (h9 q)))))))
theorem mk_9012_44 {d : Nat} {Q : mj_O → mj_G → Prop} {G : mj_G} {x1 x2 x3 x4 x5 : Int32} {r0 : Nat} (h1 : mj_X d 9012 50 [some (.inr (.inr (r0))), some (.inl (x1)), some (.inl (x2)), some (.inl (x3)), some (.inl (x4)), some (.inl (x5)), some (.inl (x1)), some (.inl (Int32.ofInt (0)))] [] G Q) : mj_X d 9012 44 [some (.inr (.inr (r0))), some (.inl (x1)), some (.inl (x2)), some (.inl (x3)), some (.inl (x4)), some (.inl (x5)), none, none] [] G Q := mj_X_sp (n := 4) (h1)
theorem mk_9012_50 {d : Nat} {Q : mj_O → mj_G → Prop} {G : mj_G} {x1 x2 x3 x4 x5 x6 x7 : Int32} {r0 : Nat} (h1 : ((Int16.ofInt (200)).toInt32) ≤ (x7) → mj_X d 9012 83 [some (.inr (.inr (r0))), some (.inl (x1)), some (.inl (x2)), some (.inl (x3)), some (.inl (x4)), some (.inl (x5)), some (.inl (x6)), none] [] G Q) (h2 : ¬ ((Int16.ofInt (200)).toInt32) ≤ (x7) → mj_X d 9012 58 [some (.inr (.inr (r0))), some (.inl (x1)), some (.inl (x2)), some (.inl (x3)), some (.inl (x4)), some (.inl (x5)), some (.inl (x6)), some (.inl (x7))] [] G Q) : mj_X d 9012 50 [some (.inr (.inr (r0))), some (.inl (x1)), some (.inl (x2)), some (.inl (x3)), some (.inl (x4)), some (.inl (x5)), some (.inl (x6)), some (.inl (x7))] [] G Q := mj_X_sp (n := 3) (And.intro (fun q => (mj_X_wk (mj_le_s (mj_le_s (mj_le_s (mj_le_s (mj_le_s (mj_le_s (mj_le_s (mj_le_n mj_le_0)))))))) (h1 q))) (fun q => (h2 q)))
theorem mk_9012_58 {d : Nat} {Q : mj_O → mj_G → Prop} {G : mj_G} {x1 x2 x3 x4 x5 x6 x7 : Int32} {r0 : Nat} (h1 : (x6) < (x4) → mj_X d 9012 83 [some (.inr (.inr (r0))), some (.inl (x1)), some (.inl (x2)), some (.inl (x3)), some (.inl (x4)), some (.inl (x5)), some (.inl (x6)), none] [] G Q) (h2 : ¬ (x6) < (x4) → mj_X d 9012 65 [some (.inr (.inr (r0))), some (.inl (x1)), some (.inl (x2)), some (.inl (x3)), some (.inl (x4)), some (.inl (x5)), some (.inl (x6)), some (.inl (x7))] [] G Q) : mj_X d 9012 58 [some (.inr (.inr (r0))), some (.inl (x1)), some (.inl (x2)), some (.inl (x3)), some (.inl (x4)), some (.inl (x5)), some (.inl (x6)), some (.inl (x7))] [] G Q := mj_X_sp (n := 3) (And.intro (fun q => (mj_X_wk (mj_le_s (mj_le_s (mj_le_s (mj_le_s (mj_le_s (mj_le_s (mj_le_s (mj_le_n mj_le_0)))))))) (h1 q))) (fun q => (h2 q)))
theorem mk_9012_65 {d : Nat} {Q : mj_O → mj_G → Prop} {G : mj_G} {x1 x2 x3 x4 x5 x6 x7 v3 : Int32} {r0 v1 v2 : Nat} (h1 : mj_k (G) (r0) = 10) (h2 : mj_r (G) (r0) 3 = v1) (h3 : 30 ≤ mj_k (G) (v1)) (h4 : vp_in (x6) (mj_l (G) (v1))) (h5 : mj_r (G) (v1) (x6).toNatClampNeg = v2) (h6 : mj_k (G) (v2) = 5) (h7 : mj_i (G) (v2) 4 = v3) (h8 : mj_X d 9012 50 [some (.inr (.inr (r0))), some (.inl (x1)), some (.inl (x2)), some (.inl (x3)), some (.inl (x4)), some (.inl (x5)), some (.inl (v3)), some (.inl ((x7) + Int32.ofInt (1)))] [] G Q) : mj_X d 9012 65 [some (.inr (.inr (r0))), some (.inl (x1)), some (.inl (x2)), some (.inl (x3)), some (.inl (x4)), some (.inl (x5)), some (.inl (x6)), some (.inl (x7))] [] G Q := by
  subst h2
  subst h5
  subst h7
  exact mj_X_sp (n := 8) (And.intro h1 (And.intro h3 (And.intro h4 (And.intro h6 (h8)))))
theorem mk_9012_83 {d : Nat} {Q : mj_O → mj_G → Prop} {G : mj_G} {x1 x2 x3 x4 x5 x6 : Int32} {r0 : Nat} (h1 : (x6) < ((0 : Int32)) → mj_X d 9012 109 [some (.inr (.inr (r0))), some (.inl (x1)), some (.inl (x2)), some (.inl (x3)), some (.inl (x4)), some (.inl (x5)), none, none] [] G Q) (h2 : ¬ (x6) < ((0 : Int32)) → mj_X d 9012 88 [some (.inr (.inr (r0))), some (.inl (x1)), some (.inl (x2)), some (.inl (x3)), some (.inl (x4)), some (.inl (x5)), none, none] [] G Q) : mj_X d 9012 83 [some (.inr (.inr (r0))), some (.inl (x1)), some (.inl (x2)), some (.inl (x3)), some (.inl (x4)), some (.inl (x5)), some (.inl (x6)), none] [] G Q := mj_X_sp (n := 2) (And.intro (fun q => (mj_X_wk (mj_le_s (mj_le_s (mj_le_s (mj_le_s (mj_le_s (mj_le_s (mj_le_n (mj_le_n mj_le_0)))))))) (h1 q))) (fun q => (mj_X_wk (mj_le_s (mj_le_s (mj_le_s (mj_le_s (mj_le_s (mj_le_s (mj_le_n (mj_le_n mj_le_0)))))))) (h2 q))))
theorem mk_9012_88 {d : Nat} {Q : mj_O → mj_G → Prop} {G : mj_G} {x1 x2 x3 x4 x5 v3 : Int32} {r0 v1 v2 : Nat} {G1 : mj_G} (h1 : mj_k (G) (r0) = 10) (h2 : mj_r (G) (r0) 3 = v1) (h3 : 30 ≤ mj_k (G) (v1)) (h4 : vp_in (x4) (mj_l (G) (v1))) (h5 : mj_r (G) (v1) (x4).toNatClampNeg = v2) (h6 : mj_k (G) (v2) = 5) (h7 : mj_i (G) (v2) 19 = v3) (h8 : mj_k (G) (v2) = 5) (h9 : G1 = mj_pI (G) (v2) 19 ((v3) ||| ((Int32.ofInt (1)) <<< ((x3) &&& 31)))) (h10 : mj_X d 9012 127 [some (.inr (.inr (r0))), some (.inl (x1)), some (.inl (x2)), some (.inl (x3)), some (.inl (x4)), some (.inl (x5)), none, none] [] G1 Q) : mj_X d 9012 88 [some (.inr (.inr (r0))), some (.inl (x1)), some (.inl (x2)), some (.inl (x3)), some (.inl (x4)), some (.inl (x5)), none, none] [] G Q := by
  subst h2
  subst h5
  subst h7
  subst h9
  exact mj_X_sp (n := 12) (And.intro h1 (And.intro h3 (And.intro h4 (And.intro h6 (And.intro trivial (And.intro h8 (And.intro trivial (And.intro trivial (h10)))))))))
theorem mk_9012_109 {d : Nat} {Q : mj_O → mj_G → Prop} {G : mj_G} {x1 x2 x3 x4 x5 v3 : Int32} {r0 v1 v2 : Nat} {G1 : mj_G} (h1 : mj_k (G) (r0) = 10) (h2 : mj_r (G) (r0) 3 = v1) (h3 : 30 ≤ mj_k (G) (v1)) (h4 : vp_in (x4) (mj_l (G) (v1))) (h5 : mj_r (G) (v1) (x4).toNatClampNeg = v2) (h6 : mj_k (G) (v2) = 5) (h7 : mj_i (G) (v2) 20 = v3) (h8 : mj_k (G) (v2) = 5) (h9 : G1 = mj_pI (G) (v2) 20 ((v3) ||| ((Int32.ofInt (1)) <<< ((x3) &&& 31)))) (h10 : mj_X d 9012 127 [some (.inr (.inr (r0))), some (.inl (x1)), some (.inl (x2)), some (.inl (x3)), some (.inl (x4)), some (.inl (x5)), none, none] [] G1 Q) : mj_X d 9012 109 [some (.inr (.inr (r0))), some (.inl (x1)), some (.inl (x2)), some (.inl (x3)), some (.inl (x4)), some (.inl (x5)), none, none] [] G Q := by
  subst h2
  subst h5
  subst h7
  subst h9
  exact mj_X_sp (n := 11) (And.intro h1 (And.intro h3 (And.intro h4 (And.intro h6 (And.intro trivial (And.intro h8 (And.intro trivial (And.intro trivial (h10)))))))))
theorem mk_9012_127 {d : Nat} {Q : mj_O → mj_G → Prop} {G : mj_G} {x1 x2 x3 x4 x5 v3 : Int32} {r0 v1 v2 : Nat} (h1 : mj_k (G) (r0) = 10) (h2 : mj_r (G) (r0) 3 = v1) (h3 : 30 ≤ mj_k (G) (v1)) (h4 : vp_in ((x4) - (Int32.ofInt (1))) (mj_l (G) (v1))) (h5 : mj_r (G) (v1) ((x4) - (Int32.ofInt (1))).toNatClampNeg = v2) (h6 : mj_k (G) (v2) = 5) (h7 : mj_i (G) (v2) 11 = v3) (h8 : mj_X d 9012 17 [some (.inr (.inr (r0))), some (.inl (x1)), some (.inl (x2)), some (.inl (x3)), some (.inl (v3)), some (.inl ((x5) + Int32.ofInt (1))), none, none] [] G Q) : mj_X d 9012 127 [some (.inr (.inr (r0))), some (.inl (x1)), some (.inl (x2)), some (.inl (x3)), some (.inl (x4)), some (.inl (x5)), none, none] [] G Q := by
  subst h2
  subst h5
  subst h7
  exact mj_X_sp (n := 10) (And.intro h1 (And.intro h3 (And.intro h4 (And.intro h6 (h8)))))
theorem mk_9012_147 {d : Nat} {Q : mj_O → mj_G → Prop} {G : mj_G} (h1 : Q (.inl none) (G)) : mj_X d 9012 147 [none, none, none, none, none, none, none, none] [] G Q := mj_X_vr rfl rfl h1
/-! 9013: TemplateQuarry$Stack.spoilKeeping()V -/
theorem mk_9013_0 {d : Nat} {Q : mj_O → mj_G → Prop} {G : mj_G} {v1 : Int32} {r0 : Nat} (h1 : mj_k (G) (r0) = 10) (h2 : mj_i (G) (r0) 4 = v1) (h3 : (v1) < ((0 : Int32)) → mj_X d 9013 22 [some (.inr (.inr (r0))), none, none] [] G Q) (h4 : ¬ (v1) < ((0 : Int32)) → mj_X d 9013 7 [some (.inr (.inr (r0))), none, none] [] G Q) : mj_X d 9013 0 [some (.inr (.inr (r0))), none, none] [] G Q := by
  subst h2
  exact mj_X_sp (n := 3) (And.intro h1 (And.intro (fun q => (h3 q)) (fun q => (h4 q))))
theorem mk_9013_7 {d : Nat} {Q : mj_O → mj_G → Prop} {G : mj_G} {v2 v4 : Int32} {r0 v1 v3 : Nat} (h1 : mj_k (G) (r0) = 10) (h2 : mj_r (G) (r0) 3 = v1) (h3 : mj_k (G) (r0) = 10) (h4 : mj_i (G) (r0) 4 = v2) (h5 : 30 ≤ mj_k (G) (v1)) (h6 : vp_in (v2) (mj_l (G) (v1))) (h7 : mj_r (G) (v1) (v2).toNatClampNeg = v3) (h8 : mj_k (G) (v3) = 5) (h9 : mj_i (G) (v3) 11 = v4) (h10 : mj_X d 9013 23 [some (.inr (.inr (r0))), none, none] [.inl (v4)] G Q) : mj_X d 9013 7 [some (.inr (.inr (r0))), none, none] [] G Q := by
  subst h2
  subst h4
  subst h7
  subst h9
  exact mj_X_sp (n := 7) (And.intro h1 (And.intro h3 (And.intro h5 (And.intro h6 (And.intro h8 (h10))))))
theorem mk_9013_22 {d : Nat} {Q : mj_O → mj_G → Prop} {G : mj_G} {r0 : Nat} (h1 : mj_X d 9013 23 [some (.inr (.inr (r0))), none, none] [.inl (Int32.ofInt (-1))] G Q) : mj_X d 9013 22 [some (.inr (.inr (r0))), none, none] [] G Q := mj_X_sp (n := 1) (h1)
theorem mk_9013_23 {d : Nat} {Q : mj_O → mj_G → Prop} {G : mj_G} {s0 : Int32} {r0 : Nat} (h1 : mj_X d 9013 26 [some (.inr (.inr (r0))), some (.inl (s0)), some (.inl (Int32.ofInt (0)))] [] G Q) : mj_X d 9013 23 [some (.inr (.inr (r0))), none, none] [.inl (s0)] G Q := mj_X_sp (n := 3) (h1)
theorem mk_9013_26 {d : Nat} {Q : mj_O → mj_G → Prop} {G : mj_G} {x1 x2 : Int32} {r0 : Nat} (h1 : ((Int16.ofInt (200)).toInt32) ≤ (x2) → mj_X d 9013 65 [none, none, none] [] G Q) (h2 : ¬ ((Int16.ofInt (200)).toInt32) ≤ (x2) → mj_X d 9013 33 [some (.inr (.inr (r0))), some (.inl (x1)), some (.inl (x2))] [] G Q) : mj_X d 9013 26 [some (.inr (.inr (r0))), some (.inl (x1)), some (.inl (x2))] [] G Q := mj_X_sp (n := 3) (And.intro (fun q => (mj_X_wk (mj_le_n (mj_le_n (mj_le_n mj_le_0))) (h1 q))) (fun q => (h2 q)))
theorem mk_9013_33 {d : Nat} {Q : mj_O → mj_G → Prop} {G : mj_G} {x1 x2 : Int32} {r0 : Nat} (h1 : (x1) ≤ ((0 : Int32)) → mj_X d 9013 65 [none, none, none] [] G Q) (h2 : ¬ (x1) ≤ ((0 : Int32)) → mj_X d 9013 37 [some (.inr (.inr (r0))), some (.inl (x1)), some (.inl (x2))] [] G Q) : mj_X d 9013 33 [some (.inr (.inr (r0))), some (.inl (x1)), some (.inl (x2))] [] G Q := mj_X_sp (n := 2) (And.intro (fun q => (mj_X_wk (mj_le_n (mj_le_n (mj_le_n mj_le_0))) (h1 q))) (fun q => (h2 q)))
theorem mk_9013_37 {d : Nat} {Q : mj_O → mj_G → Prop} {G : mj_G} {x1 x2 v5 : Int32} {r0 v1 v2 v3 v4 : Nat} {G1 : mj_G} (h1 : mj_k (G) (r0) = 10) (h2 : mj_r (G) (r0) 3 = v1) (h3 : 30 ≤ mj_k (G) (v1)) (h4 : vp_in (x1) (mj_l (G) (v1))) (h5 : mj_r (G) (v1) (x1).toNatClampNeg = v2) (h6 : mj_k (G) (v2) = 5) (h7 : mj_b (Int32.ofInt (0))) (h8 : G1 = mj_pI (G) (v2) 21 (Int32.ofInt (0))) (h9 : mj_k (G1) (r0) = 10) (h10 : mj_r (G1) (r0) 3 = v3) (h11 : 30 ≤ mj_k (G1) (v3)) (h12 : vp_in ((x1) - (Int32.ofInt (1))) (mj_l (G1) (v3))) (h13 : mj_r (G1) (v3) ((x1) - (Int32.ofInt (1))).toNatClampNeg = v4) (h14 : mj_k (G1) (v4) = 5) (h15 : mj_i (G1) (v4) 11 = v5) (h16 : mj_X d 9013 26 [some (.inr (.inr (r0))), some (.inl (v5)), some (.inl ((x2) + Int32.ofInt (1)))] [] G1 Q) : mj_X d 9013 37 [some (.inr (.inr (r0))), some (.inl (x1)), some (.inl (x2))] [] G Q := by
  subst h2
  subst h5
  subst h8
  subst h10
  subst h13
  subst h15
  exact mj_X_sp (n := 16) (And.intro h1 (And.intro h3 (And.intro h4 (And.intro trivial (And.intro h6 (And.intro trivial (And.intro h7 (And.intro h9 (And.intro h11 (And.intro h12 (And.intro h14 (h16))))))))))))
theorem mk_9013_65 {d : Nat} {Q : mj_O → mj_G → Prop} {G : mj_G} (h1 : Q (.inl none) (G)) : mj_X d 9013 65 [none, none, none] [] G Q := mj_X_vr rfl rfl h1
