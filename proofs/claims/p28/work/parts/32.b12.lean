/-! BLOCKS OF THE SYSTEM (wip/tools/blk.py) -/
/-! 12000: TemplateQuarry.<init>()V -/
theorem mk_12000_0 {d : Nat} {Q : mj_O → mj_G → Prop} {G : mj_G} {r0 v1 v2 v3 : Nat} {G1 G2 G3 G4 G5 : mj_G} (h1 : mj_k (G) (r0) ≠ 0) (h2 : ¬ ((Int8.ofInt (80)).toInt32) < 0) (h3 : ((Int8.ofInt (80)).toInt32).toNatClampNeg ≤ 1000000) (h4 : mj_n (G) = v1) (h5 : G1 = mj_al (G) 22 ((Int8.ofInt (80)).toInt32).toNatClampNeg (fun _ => 0)) (h6 : mj_k (G1) (r0) = 13) (h7 : G2 = mj_pR (G1) (r0) 0 (v1)) (h8 : ¬ ((Int8.ofInt (26)).toInt32) < 0) (h9 : ((Int8.ofInt (26)).toInt32).toNatClampNeg ≤ 1000000) (h10 : mj_n (G2) = v2) (h11 : G3 = mj_al (G2) 20 ((Int8.ofInt (26)).toInt32).toNatClampNeg (fun _ => 0)) (h12 : mj_k (G3) (r0) = 13) (h13 : G4 = mj_pR (G3) (r0) 2 (v2)) (h14 : mj_n (G4) = v3) (h15 : G5 = mj_al (G4) 9 (mj_N 8) (fun _ => 0)) (h16 : mj_X d 12000 25 [some (.inr (.inr (r0))), none] [.inr (.inr (v3)), .inr (.inr (v3)), .inr (.inr (r0))] G5 Q) : mj_X d 12000 0 [some (.inr (.inr (r0))), none] [] G Q := by
  subst h4
  subst h5
  subst h7
  subst h10
  subst h11
  subst h13
  subst h14
  subst h15
  exact mj_X_sp (n := 13) (And.intro h1 (And.intro (Nat.le_of_ble_eq_true rfl) (And.intro h2 (And.intro h3 (And.intro trivial (And.intro (And.intro rfl rfl) (And.intro h6 (And.intro trivial (And.intro h8 (And.intro h9 (And.intro trivial (And.intro (And.intro rfl rfl) (And.intro h12 (And.intro trivial (h16)))))))))))))))
theorem mc_12000_25 {d : Nat} {Q : mj_O → mj_G → Prop} {G : mj_G} {r0 t0 t1 t2 : Nat} {R : mj_G → Prop} (hk : mj_k G t2 = 9) (h1 : mj_X d 8000 0 [some (.inr (.inr (t2))), none] [] G (fun o G1 => o = .inl none ∧ R G1)) (k : ∀ G1, R G1 → mj_X (d + 1) 12000 28 [some (.inr (.inr (r0))), none] [.inr (.inr (t1)), .inr (.inr (t0))] G1 Q) : mj_X (d + 1) 12000 25 [some (.inr (.inr (r0))), none] [.inr (.inr (t2)), .inr (.inr (t1)), .inr (.inr (t0))] G Q :=
  mj_X_callP rfl rfl rfl (Nat.le_of_ble_eq_true rfl) (And.intro (Nat.le_of_ble_eq_true rfl) hk) h1 (fun o G1 h => by
    obtain ⟨rfl, h⟩ := h
    exact mj_X_wk (mj_le_s (mj_le_n mj_le_0)) (k G1 h))
theorem mk_12000_28 {d : Nat} {Q : mj_O → mj_G → Prop} {G : mj_G} {r0 t0 t1 : Nat} {G1 : mj_G} (h1 : mj_k (G) (t0) = 13) (h2 : G1 = mj_pR (G) (t0) 3 (t1)) (h3 : mj_X d 12000 33 [some (.inr (.inr (r0))), some (.inl (Int32.ofInt (0)))] [] G1 Q) : mj_X d 12000 28 [some (.inr (.inr (r0))), none] [.inr (.inr (t1)), .inr (.inr (t0))] G Q := by
  subst h2
  exact mj_X_sp (n := 3) (And.intro (And.intro rfl rfl) (And.intro h1 (And.intro trivial (h3))))
theorem mk_12000_33 {d : Nat} {Q : mj_O → mj_G → Prop} {G : mj_G} {x1 : Int32} {r0 : Nat} (h1 : ((Int8.ofInt (26)).toInt32) ≤ (x1) → mj_X d 12000 53 [none, none] [] G Q) (h2 : ¬ ((Int8.ofInt (26)).toInt32) ≤ (x1) → mj_X d 12000 39 [some (.inr (.inr (r0))), some (.inl (x1))] [] G Q) : mj_X d 12000 33 [some (.inr (.inr (r0))), some (.inl (x1))] [] G Q := mj_X_sp (n := 3) (And.intro (fun q => (mj_X_wk (mj_le_n (mj_le_n mj_le_0)) (h1 q))) (fun q => (h2 q)))
theorem mk_12000_39 {d : Nat} {Q : mj_O → mj_G → Prop} {G : mj_G} {x1 : Int32} {r0 v1 : Nat} {G1 : mj_G} (h1 : mj_k (G) (r0) = 13) (h2 : mj_r (G) (r0) 2 = v1) (h3 : mj_k (G) (v1) = 20) (h4 : 3 ≤ (v1)) (h5 : vp_in (x1) (mj_l (G) (v1))) (h6 : G1 = mj_pI (G) (v1) (x1).toNatClampNeg ((Int8.ofInt (15)).toInt32)) (h7 : mj_X d 12000 33 [some (.inr (.inr (r0))), some (.inl ((x1) + Int32.ofInt (1)))] [] G1 Q) : mj_X d 12000 39 [some (.inr (.inr (r0))), some (.inl (x1))] [] G Q := by
  subst h2
  subst h6
  exact mj_X_sp (n := 7) (And.intro h1 (And.intro h3 (And.intro h4 (And.intro h5 (And.intro trivial (h7))))))
theorem mk_12000_53 {d : Nat} {Q : mj_O → mj_G → Prop} {G : mj_G} (h1 : Q (.inl none) (G)) : mj_X d 12000 53 [none, none] [] G Q := mj_X_vr rfl rfl h1
/-! 12001: TemplateQuarry.type(C)I -/
theorem mk_12001_0 {d : Nat} {Q : mj_O → mj_G → Prop} {G : mj_G} {x1 : Int32} {r0 : Nat} (h1 : (x1) < ((Int8.ofInt (32)).toInt32) → mj_X d 12001 12 [none, none] [] G Q) (h2 : ¬ (x1) < ((Int8.ofInt (32)).toInt32) → mj_X d 12001 6 [some (.inr (.inr (r0))), some (.inl (x1))] [] G Q) : mj_X d 12001 0 [some (.inr (.inr (r0))), some (.inl (x1))] [] G Q := mj_X_sp (n := 3) (And.intro (fun q => (mj_X_wk (mj_le_n (mj_le_n mj_le_0)) (h1 q))) (fun q => (h2 q)))
theorem mk_12001_6 {d : Nat} {Q : mj_O → mj_G → Prop} {G : mj_G} {x1 : Int32} {r0 : Nat} (h1 : (x1) ≤ ((Int8.ofInt (126)).toInt32) → mj_X d 12001 20 [some (.inr (.inr (r0))), some (.inl (x1))] [] G Q) (h2 : ¬ (x1) ≤ ((Int8.ofInt (126)).toInt32) → mj_X d 12001 12 [none, none] [] G Q) : mj_X d 12001 6 [some (.inr (.inr (r0))), some (.inl (x1))] [] G Q := mj_X_sp (n := 3) (And.intro (fun q => (h1 q)) (fun q => (mj_X_wk (mj_le_n (mj_le_n mj_le_0)) (h2 q))))
theorem mk_12001_12 {d : Nat} {Q : mj_O → mj_G → Prop} {G : mj_G} (h1 : 8 ≤ d) (h2 : Q (.inr 15) (mj_al (G) 16 6 (fun _ => 0))) : mj_X d 12001 12 [none, none] [] G Q := mj_X_th (c := 15) rfl rfl rfl rfl h1 h2
theorem mk_12001_20 {d : Nat} {Q : mj_O → mj_G → Prop} {G : mj_G} {x1 v1 : Int32} {r0 : Nat} (h1 : mj_k (G) (r0) = 13) (h2 : mj_i (G) (r0) 1 = v1) (h3 : (v1) < ((Int8.ofInt (80)).toInt32) → mj_X d 12001 37 [some (.inr (.inr (r0))), some (.inl (x1))] [] G Q) (h4 : ¬ (v1) < ((Int8.ofInt (80)).toInt32) → mj_X d 12001 29 [none, none] [] G Q) : mj_X d 12001 20 [some (.inr (.inr (r0))), some (.inl (x1))] [] G Q := by
  subst h2
  exact mj_X_sp (n := 4) (And.intro h1 (And.intro (fun q => (h3 q)) (fun q => (mj_X_wk (mj_le_n (mj_le_n mj_le_0)) (h4 q)))))
theorem mk_12001_29 {d : Nat} {Q : mj_O → mj_G → Prop} {G : mj_G} (h1 : 8 ≤ d) (h2 : Q (.inr 16) (mj_al (G) 17 6 (fun _ => 0))) : mj_X d 12001 29 [none, none] [] G Q := mj_X_th (c := 16) rfl rfl rfl rfl h1 h2
theorem mk_12001_37 {d : Nat} {Q : mj_O → mj_G → Prop} {G : mj_G} {x1 v2 v3 v4 : Int32} {r0 v1 : Nat} {G1 G2 : mj_G} (h1 : mj_k (G) (r0) = 13) (h2 : mj_r (G) (r0) 0 = v1) (h3 : mj_k (G) (r0) = 13) (h4 : mj_i (G) (r0) 1 = v2) (h5 : mj_k (G) (v1) = 22) (h6 : 3 ≤ (v1)) (h7 : vp_in (v2) (mj_l (G) (v1))) (h8 : mj_c (x1)) (h9 : G1 = mj_pI (G) (v1) (v2).toNatClampNeg (x1)) (h10 : mj_k (G1) (r0) = 13) (h11 : mj_i (G1) (r0) 1 = v3) (h12 : mj_k (G1) (r0) = 13) (h13 : G2 = mj_pI (G1) (r0) 1 ((v3) + (Int32.ofInt (1)))) (h14 : mj_k (G2) (r0) = 13) (h15 : mj_i (G2) (r0) 1 = v4) (h16 : Q (.inl (some (.inl (v4)))) (G2)) : mj_X d 12001 37 [some (.inr (.inr (r0))), some (.inl (x1))] [] G Q := by
  subst h2
  subst h4
  subst h9
  subst h11
  subst h13
  subst h15
  exact mj_X_sp (n := 14) (And.intro h1 (And.intro h3 (And.intro h5 (And.intro h6 (And.intro h7 (And.intro h8 (And.intro h10 (And.intro trivial (And.intro h12 (And.intro trivial (And.intro trivial (And.intro h14 (mj_X_ir rfl trivial h16)))))))))))))
/-! 12002: TemplateQuarry.wipe()I -/
theorem mk_12002_0 {d : Nat} {Q : mj_O → mj_G → Prop} {G : mj_G} {v1 : Int32} {r0 : Nat} {G1 : mj_G} (h1 : mj_k (G) (r0) = 13) (h2 : mj_i (G) (r0) 1 = v1) (h3 : mj_k (G) (r0) = 13) (h4 : G1 = mj_pI (G) (r0) 1 (Int32.ofInt (0))) (h5 : Q (.inl (some (.inl (v1)))) (G1)) : mj_X d 12002 0 [some (.inr (.inr (r0))), none] [] G Q := by
  subst h2
  subst h4
  exact mj_X_sp (n := 7) (And.intro h1 (And.intro trivial (And.intro h3 (And.intro trivial (And.intro trivial (mj_X_ir rfl trivial h5))))))
/-! 12003: TemplateQuarry.fault()I -/
theorem mk_12003_0 {d : Nat} {Q : mj_O → mj_G → Prop} {G : mj_G} {v3 : Int32} {r0 v1 v2 : Nat} {G1 : mj_G} (h1 : mj_n (G) = v1) (h2 : G1 = mj_al (G) 8 (mj_N 7) (fun _ => 0)) (h3 : mj_k (G1) (r0) = 13) (h4 : mj_r (G1) (r0) 0 = v2) (h5 : mj_k (G1) (r0) = 13) (h6 : mj_i (G1) (r0) 1 = v3) (h7 : mj_X d 12003 13 [none, none] [.inl (Int32.ofInt (0)), .inl (v3), .inr (.inr (v2)), .inr (.inr (v1)), .inr (.inr (v1))] G1 Q) : mj_X d 12003 0 [some (.inr (.inr (r0))), none] [] G Q := by
  subst h1
  subst h2
  subst h4
  subst h6
  exact mj_X_sp (n := 7) (And.intro h3 (And.intro h5 ((mj_X_wk (mj_le_n (mj_le_n mj_le_0)) h7))))
theorem mc_12003_13 {d : Nat} {Q : mj_O → mj_G → Prop} {G : mj_G} {s3 s4 : Int32} {t0 t1 t2 : Nat} {R : mj_G → Prop} (hk : mj_k G t1 = 8) (h1 : mj_X d 7000 0 [some (.inr (.inr (t1))), some (.inr (.inr (t2))), some (.inl (s3)), some (.inl (s4))] [] G (fun o G1 => o = .inl none ∧ R G1)) (k : ∀ G1, R G1 → mj_X (d + 1) 12003 16 [none, none] [.inr (.inr (t0))] G1 Q) : mj_X (d + 1) 12003 13 [none, none] [.inl (s4), .inl (s3), .inr (.inr (t2)), .inr (.inr (t1)), .inr (.inr (t0))] G Q :=
  mj_X_callP rfl rfl rfl (Nat.le_of_ble_eq_true rfl) (And.intro (Nat.le_of_ble_eq_true rfl) hk) h1 (fun o G1 h => by
    obtain ⟨rfl, h⟩ := h
    exact mj_X_wk (mj_le_n (mj_le_n mj_le_0)) (k G1 h))
theorem mk_12003_16 {d : Nat} {Q : mj_O → mj_G → Prop} {G : mj_G} {t0 : Nat} (h1 : mj_X d 12003 21 [none, some (.inr (.inr (t0)))] [.inl (Int32.ofInt (0)), .inl (Int32.ofInt (-1)), .inl (Int32.ofInt (0)), .inr (.inr (t0))] G Q) : mj_X d 12003 16 [none, none] [.inr (.inr (t0))] G Q := mj_X_sp (n := 5) (h1)
theorem mc_12003_21 {d : Nat} {Q : mj_O → mj_G → Prop} {G : mj_G} {s1 s2 s3 : Int32} {r1 t0 : Nat} {R : Nat → mj_G → Prop} (hk : mj_k G t0 = 8) (h1 : mj_X d 7009 0 [some (.inr (.inr (t0))), some (.inl (s1)), some (.inl (s2)), some (.inl (s3)), none, none, none, none] [] G (fun o G1 => ∃ v, o = .inl (some (.inr (.inr (v)))) ∧ R v G1)) (k : ∀ v G1, R v G1 → mj_X (d + 1) 12003 24 [none, some (.inr (.inr (r1)))] [.inr (.inr (v))] G1 Q) : mj_X (d + 1) 12003 21 [none, some (.inr (.inr (r1)))] [.inl (s3), .inl (s2), .inl (s1), .inr (.inr (t0))] G Q :=
  mj_X_callP rfl rfl rfl (Nat.le_of_ble_eq_true rfl) (And.intro (Nat.le_of_ble_eq_true rfl) hk) h1 (fun o G1 h => by
    obtain ⟨v, rfl, h⟩ := h
    exact mj_X_wk (mj_le_n (mj_le_s mj_le_0)) (k v G1 h))
theorem mk_12003_24 {d : Nat} {Q : mj_O → mj_G → Prop} {G : mj_G} {v1 : Int32} {r1 t0 : Nat} (h1 : mj_k (G) (r1) = 8) (h2 : mj_i (G) (r1) 5 = v1) (h3 : Q (.inl (some (.inl (v1)))) (G)) : mj_X d 12003 24 [none, some (.inr (.inr (r1)))] [.inr (.inr (t0))] G Q := by
  subst h2
  exact mj_X_sp (n := 3) (And.intro h1 (mj_X_ir rfl trivial h3))
/-! 12004: TemplateQuarry.template(I)I -/
theorem mk_12004_0 {d : Nat} {Q : mj_O → mj_G → Prop} {G : mj_G} {x1 : Int32} {r0 : Nat} (h1 : (x1) < ((0 : Int32)) → mj_X d 12004 10 [none, none, none, none] [] G Q) (h2 : ¬ (x1) < ((0 : Int32)) → mj_X d 12004 4 [some (.inr (.inr (r0))), some (.inl (x1)), none, none] [] G Q) : mj_X d 12004 0 [some (.inr (.inr (r0))), some (.inl (x1)), none, none] [] G Q := mj_X_sp (n := 2) (And.intro (fun q => (mj_X_wk (mj_le_n (mj_le_n (mj_le_n (mj_le_n mj_le_0)))) (h1 q))) (fun q => (h2 q)))
theorem mk_12004_4 {d : Nat} {Q : mj_O → mj_G → Prop} {G : mj_G} {x1 : Int32} {r0 : Nat} (h1 : (x1) < ((Int8.ofInt (10)).toInt32) → mj_X d 12004 18 [some (.inr (.inr (r0))), some (.inl (x1)), none, none] [] G Q) (h2 : ¬ (x1) < ((Int8.ofInt (10)).toInt32) → mj_X d 12004 10 [none, none, none, none] [] G Q) : mj_X d 12004 4 [some (.inr (.inr (r0))), some (.inl (x1)), none, none] [] G Q := mj_X_sp (n := 3) (And.intro (fun q => (h1 q)) (fun q => (mj_X_wk (mj_le_n (mj_le_n (mj_le_n (mj_le_n mj_le_0)))) (h2 q))))
theorem mk_12004_10 {d : Nat} {Q : mj_O → mj_G → Prop} {G : mj_G} (h1 : 8 ≤ d) (h2 : Q (.inr 17) (mj_al (G) 18 6 (fun _ => 0))) : mj_X d 12004 10 [none, none, none, none] [] G Q := mj_X_th (c := 17) rfl rfl rfl rfl h1 h2
theorem mk_12004_18 {d : Nat} {Q : mj_O → mj_G → Prop} {G : mj_G} {x1 v3 : Int32} {r0 v1 v2 : Nat} {G1 : mj_G} (h1 : mj_n (G) = v1) (h2 : G1 = mj_al (G) 8 (mj_N 7) (fun _ => 0)) (h3 : mj_k (G1) (r0) = 13) (h4 : mj_r (G1) (r0) 0 = v2) (h5 : mj_k (G1) (r0) = 13) (h6 : mj_i (G1) (r0) 1 = v3) (h7 : mj_X d 12004 31 [some (.inr (.inr (r0))), some (.inl (x1)), none, none] [.inl (x1), .inl (v3), .inr (.inr (v2)), .inr (.inr (v1)), .inr (.inr (v1))] G1 Q) : mj_X d 12004 18 [some (.inr (.inr (r0))), some (.inl (x1)), none, none] [] G Q := by
  subst h1
  subst h2
  subst h4
  subst h6
  exact mj_X_sp (n := 7) (And.intro h3 (And.intro h5 (h7)))
theorem mc_12004_31 {d : Nat} {Q : mj_O → mj_G → Prop} {G : mj_G} {x1 s3 s4 : Int32} {r0 t0 t1 t2 : Nat} {R : mj_G → Prop} (hk : mj_k G t1 = 8) (h1 : mj_X d 7000 0 [some (.inr (.inr (t1))), some (.inr (.inr (t2))), some (.inl (s3)), some (.inl (s4))] [] G (fun o G1 => o = .inl none ∧ R G1)) (k : ∀ G1, R G1 → mj_X (d + 1) 12004 34 [some (.inr (.inr (r0))), some (.inl (x1)), none, none] [.inr (.inr (t0))] G1 Q) : mj_X (d + 1) 12004 31 [some (.inr (.inr (r0))), some (.inl (x1)), none, none] [.inl (s4), .inl (s3), .inr (.inr (t2)), .inr (.inr (t1)), .inr (.inr (t0))] G Q :=
  mj_X_callP rfl rfl rfl (Nat.le_of_ble_eq_true rfl) (And.intro (Nat.le_of_ble_eq_true rfl) hk) h1 (fun o G1 h => by
    obtain ⟨rfl, h⟩ := h
    exact mj_X_wk (mj_le_s (mj_le_s (mj_le_n (mj_le_n mj_le_0)))) (k G1 h))
theorem mk_12004_34 {d : Nat} {Q : mj_O → mj_G → Prop} {G : mj_G} {x1 : Int32} {r0 t0 : Nat} (h1 : mj_X d 12004 39 [some (.inr (.inr (r0))), some (.inl (x1)), some (.inr (.inr (t0))), none] [.inl (Int32.ofInt (0)), .inl (Int32.ofInt (-1)), .inl (Int32.ofInt (0)), .inr (.inr (t0))] G Q) : mj_X d 12004 34 [some (.inr (.inr (r0))), some (.inl (x1)), none, none] [.inr (.inr (t0))] G Q := mj_X_sp (n := 5) (h1)
theorem mc_12004_39 {d : Nat} {Q : mj_O → mj_G → Prop} {G : mj_G} {x1 s1 s2 s3 : Int32} {r0 r2 t0 : Nat} {R : Nat → mj_G → Prop} (hk : mj_k G t0 = 8) (h1 : mj_X d 7009 0 [some (.inr (.inr (t0))), some (.inl (s1)), some (.inl (s2)), some (.inl (s3)), none, none, none, none] [] G (fun o G1 => ∃ v, o = .inl (some (.inr (.inr (v)))) ∧ R v G1)) (k : ∀ v G1, R v G1 → mj_X (d + 1) 12004 42 [some (.inr (.inr (r0))), some (.inl (x1)), some (.inr (.inr (r2))), none] [.inr (.inr (v))] G1 Q) : mj_X (d + 1) 12004 39 [some (.inr (.inr (r0))), some (.inl (x1)), some (.inr (.inr (r2))), none] [.inl (s3), .inl (s2), .inl (s1), .inr (.inr (t0))] G Q :=
  mj_X_callP rfl rfl rfl (Nat.le_of_ble_eq_true rfl) (And.intro (Nat.le_of_ble_eq_true rfl) hk) h1 (fun o G1 h => by
    obtain ⟨v, rfl, h⟩ := h
    exact mj_X_wk (mj_le_s (mj_le_s (mj_le_s (mj_le_n mj_le_0)))) (k v G1 h))
theorem mk_12004_42 {d : Nat} {Q : mj_O → mj_G → Prop} {G : mj_G} {x1 v1 : Int32} {r0 r2 t0 : Nat} (h1 : mj_k (G) (r2) = 8) (h2 : mj_i (G) (r2) 5 = v1) (h3 : (v1) = (Int32.ofInt (-1)) → mj_X d 12004 59 [some (.inr (.inr (r0))), some (.inl (x1)), some (.inr (.inr (r2))), some (.inr (.inr (t0)))] [] G Q) (h4 : ¬ (v1) = (Int32.ofInt (-1)) → mj_X d 12004 51 [none, none, none, none] [] G Q) : mj_X d 12004 42 [some (.inr (.inr (r0))), some (.inl (x1)), some (.inr (.inr (r2))), none] [.inr (.inr (t0))] G Q := by
  subst h2
  exact mj_X_sp (n := 5) (And.intro h1 (And.intro (fun q => (h3 q)) (fun q => (mj_X_wk (mj_le_n (mj_le_n (mj_le_n (mj_le_n mj_le_0)))) (h4 q)))))
theorem mk_12004_51 {d : Nat} {Q : mj_O → mj_G → Prop} {G : mj_G} (h1 : 8 ≤ d) (h2 : Q (.inr 15) (mj_al (G) 16 6 (fun _ => 0))) : mj_X d 12004 51 [none, none, none, none] [] G Q := mj_X_th (c := 15) rfl rfl rfl rfl h1 h2
theorem mk_12004_59 {d : Nat} {Q : mj_O → mj_G → Prop} {G : mj_G} {x1 : Int32} {r0 r2 r3 v1 v2 v3 v4 v5 : Nat} {G1 G2 : mj_G} (h1 : mj_k (G) (r2) = 8) (h2 : mj_r (G) (r2) 3 = v1) (h3 : mj_k (G) (v1) = 11) (h4 : G1 = mj_pR (G) (v1) 0 (r3)) (h5 : mj_k (G1) (r0) = 13) (h6 : mj_r (G1) (r0) 3 = v2) (h7 : mj_k (G1) (v2) = 9) (h8 : mj_r (G1) (v2) 0 = v3) (h9 : mj_k (G1) (r2) = 8) (h10 : mj_r (G1) (r2) 3 = v4) (h11 : 30 ≤ mj_k (G1) (v3)) (h12 : vp_in (x1) (mj_l (G1) (v3))) (h13 : (v4) = 0 ∨ mj_k (G1) (v4) + 29 = mj_k (G1) (v3)) (h14 : G2 = mj_pR (G1) (v3) (x1).toNatClampNeg (v4)) (h15 : mj_k (G2) (r0) = 13) (h16 : mj_r (G2) (r0) 3 = v5) (h17 : mj_X d 12004 84 [some (.inr (.inr (r0))), none, some (.inr (.inr (r2))), none] [.inr (.inr (v5))] G2 Q) : mj_X d 12004 59 [some (.inr (.inr (r0))), some (.inl (x1)), some (.inr (.inr (r2))), some (.inr (.inr (r3)))] [] G Q := by
  subst h2
  subst h4
  subst h6
  subst h8
  subst h10
  subst h14
  subst h16
  exact mj_X_sp (n := 13) (And.intro h1 (And.intro trivial (And.intro h3 (And.intro trivial (And.intro h5 (And.intro h7 (And.intro h9 (And.intro h11 (And.intro h12 (And.intro h13 (And.intro h15 ((mj_X_wk (mj_le_s (mj_le_n (mj_le_s (mj_le_n mj_le_0)))) h17)))))))))))))
theorem mc_12004_84 {d : Nat} {Q : mj_O → mj_G → Prop} {G : mj_G} {r0 r2 t0 : Nat} {R : mj_G → Prop} (hk : mj_k G t0 = 9) (h1 : mj_X d 8001 0 [some (.inr (.inr (t0))), none] [] G (fun o G1 => o = .inl none ∧ R G1)) (k : ∀ G1, R G1 → mj_X (d + 1) 12004 87 [some (.inr (.inr (r0))), none, some (.inr (.inr (r2))), none] [] G1 Q) : mj_X (d + 1) 12004 84 [some (.inr (.inr (r0))), none, some (.inr (.inr (r2))), none] [.inr (.inr (t0))] G Q :=
  mj_X_callP rfl rfl rfl (Nat.le_of_ble_eq_true rfl) (And.intro (Nat.le_of_ble_eq_true rfl) hk) h1 (fun o G1 h => by
    obtain ⟨rfl, h⟩ := h
    exact mj_X_wk (mj_le_s (mj_le_n (mj_le_s (mj_le_n mj_le_0)))) (k G1 h))
theorem mk_12004_87 {d : Nat} {Q : mj_O → mj_G → Prop} {G : mj_G} {v2 : Int32} {r0 r2 v1 : Nat} {G1 : mj_G} (h1 : mj_k (G) (r0) = 13) (h2 : G1 = mj_pI (G) (r0) 1 (Int32.ofInt (0))) (h3 : mj_k (G1) (r2) = 8) (h4 : mj_r (G1) (r2) 3 = v1) (h5 : mj_k (G1) (v1) = 11) (h6 : mj_i (G1) (v1) 2 = v2) (h7 : Q (.inl (some (.inl (v2)))) (G1)) : mj_X d 12004 87 [some (.inr (.inr (r0))), none, some (.inr (.inr (r2))), none] [] G Q := by
  subst h2
  subst h4
  subst h6
  exact mj_X_sp (n := 6) (And.intro trivial (And.intro h1 (And.intro trivial (And.intro trivial (And.intro h3 (And.intro h5 (mj_X_ir rfl trivial h7)))))))
/-! 12005: TemplateQuarry.message(II)I -/
theorem mk_12005_0 {d : Nat} {Q : mj_O → mj_G → Prop} {G : mj_G} {x1 x2 : Int32} {r0 : Nat} (h1 : (x1) < ((0 : Int32)) → mj_X d 12005 10 [none, none, none, none, none] [] G Q) (h2 : ¬ (x1) < ((0 : Int32)) → mj_X d 12005 4 [some (.inr (.inr (r0))), some (.inl (x1)), some (.inl (x2)), none, none] [] G Q) : mj_X d 12005 0 [some (.inr (.inr (r0))), some (.inl (x1)), some (.inl (x2)), none, none] [] G Q := mj_X_sp (n := 2) (And.intro (fun q => (mj_X_wk (mj_le_n (mj_le_n (mj_le_n (mj_le_n (mj_le_n mj_le_0))))) (h1 q))) (fun q => (h2 q)))
theorem mk_12005_4 {d : Nat} {Q : mj_O → mj_G → Prop} {G : mj_G} {x1 x2 : Int32} {r0 : Nat} (h1 : (x1) < ((Int8.ofInt (10)).toInt32) → mj_X d 12005 18 [some (.inr (.inr (r0))), some (.inl (x1)), some (.inl (x2)), none, none] [] G Q) (h2 : ¬ (x1) < ((Int8.ofInt (10)).toInt32) → mj_X d 12005 10 [none, none, none, none, none] [] G Q) : mj_X d 12005 4 [some (.inr (.inr (r0))), some (.inl (x1)), some (.inl (x2)), none, none] [] G Q := mj_X_sp (n := 3) (And.intro (fun q => (h1 q)) (fun q => (mj_X_wk (mj_le_n (mj_le_n (mj_le_n (mj_le_n (mj_le_n mj_le_0))))) (h2 q))))
theorem mk_12005_10 {d : Nat} {Q : mj_O → mj_G → Prop} {G : mj_G} (h1 : 8 ≤ d) (h2 : Q (.inr 17) (mj_al (G) 18 6 (fun _ => 0))) : mj_X d 12005 10 [none, none, none, none, none] [] G Q := mj_X_th (c := 17) rfl rfl rfl rfl h1 h2
theorem mk_12005_18 {d : Nat} {Q : mj_O → mj_G → Prop} {G : mj_G} {x1 x2 : Int32} {r0 : Nat} (h1 : (x2) < ((0 : Int32)) → mj_X d 12005 27 [none, none, none, none, none] [] G Q) (h2 : ¬ (x2) < ((0 : Int32)) → mj_X d 12005 22 [some (.inr (.inr (r0))), some (.inl (x1)), some (.inl (x2)), none, none] [] G Q) : mj_X d 12005 18 [some (.inr (.inr (r0))), some (.inl (x1)), some (.inl (x2)), none, none] [] G Q := mj_X_sp (n := 2) (And.intro (fun q => (mj_X_wk (mj_le_n (mj_le_n (mj_le_n (mj_le_n (mj_le_n mj_le_0))))) (h1 q))) (fun q => (h2 q)))
theorem mk_12005_22 {d : Nat} {Q : mj_O → mj_G → Prop} {G : mj_G} {x1 x2 : Int32} {r0 : Nat} (h1 : (x2) ≤ (Int32.ofInt (1)) → mj_X d 12005 35 [some (.inr (.inr (r0))), some (.inl (x1)), some (.inl (x2)), none, none] [] G Q) (h2 : ¬ (x2) ≤ (Int32.ofInt (1)) → mj_X d 12005 27 [none, none, none, none, none] [] G Q) : mj_X d 12005 22 [some (.inr (.inr (r0))), some (.inl (x1)), some (.inl (x2)), none, none] [] G Q := mj_X_sp (n := 3) (And.intro (fun q => (h1 q)) (fun q => (mj_X_wk (mj_le_n (mj_le_n (mj_le_n (mj_le_n (mj_le_n mj_le_0))))) (h2 q))))
theorem mk_12005_27 {d : Nat} {Q : mj_O → mj_G → Prop} {G : mj_G} (h1 : 8 ≤ d) (h2 : Q (.inr 15) (mj_al (G) 16 6 (fun _ => 0))) : mj_X d 12005 27 [none, none, none, none, none] [] G Q := mj_X_th (c := 15) rfl rfl rfl rfl h1 h2
theorem mk_12005_35 {d : Nat} {Q : mj_O → mj_G → Prop} {G : mj_G} {x1 x2 : Int32} {r0 : Nat} (h1 : mj_X d 12005 40 [some (.inr (.inr (r0))), some (.inl (x1)), some (.inl (x2)), some (.inl (Int32.ofInt (0))), some (.inl (Int32.ofInt (0)))] [] G Q) : mj_X d 12005 35 [some (.inr (.inr (r0))), some (.inl (x1)), some (.inl (x2)), none, none] [] G Q := mj_X_sp (n := 4) (h1)
theorem mk_12005_40 {d : Nat} {Q : mj_O → mj_G → Prop} {G : mj_G} {x1 x2 x3 x4 v1 : Int32} {r0 : Nat} (h1 : mj_k (G) (r0) = 13) (h2 : mj_i (G) (r0) 1 = v1) (h3 : (v1) ≤ (x4) → mj_X d 12005 70 [some (.inr (.inr (r0))), some (.inl (x1)), some (.inl (x2)), some (.inl (x3)), none] [] G Q) (h4 : ¬ (v1) ≤ (x4) → mj_X d 12005 49 [some (.inr (.inr (r0))), some (.inl (x1)), some (.inl (x2)), some (.inl (x3)), some (.inl (x4))] [] G Q) : mj_X d 12005 40 [some (.inr (.inr (r0))), some (.inl (x1)), some (.inl (x2)), some (.inl (x3)), some (.inl (x4))] [] G Q := by
  subst h2
  exact mj_X_sp (n := 4) (And.intro h1 (And.intro (fun q => (mj_X_wk (mj_le_s (mj_le_s (mj_le_s (mj_le_s (mj_le_n mj_le_0))))) (h3 q))) (fun q => (h4 q))))
theorem mk_12005_49 {d : Nat} {Q : mj_O → mj_G → Prop} {G : mj_G} {x1 x2 x3 x4 v2 : Int32} {r0 v1 : Nat} (h1 : mj_k (G) (r0) = 13) (h2 : mj_r (G) (r0) 0 = v1) (h3 : mj_k (G) (v1) = 22) (h4 : vp_in (x4) (mj_l (G) (v1))) (h5 : mj_i (G) (v1) (x4).toNatClampNeg = v2) (h6 : ¬ (v2) = ((Int8.ofInt (35)).toInt32) → mj_X d 12005 64 [some (.inr (.inr (r0))), some (.inl (x1)), some (.inl (x2)), some (.inl (x3)), some (.inl (x4))] [] G Q) (h7 : (v2) = ((Int8.ofInt (35)).toInt32) → mj_X d 12005 61 [some (.inr (.inr (r0))), some (.inl (x1)), some (.inl (x2)), some (.inl (x3)), some (.inl (x4))] [] G Q) : mj_X d 12005 49 [some (.inr (.inr (r0))), some (.inl (x1)), some (.inl (x2)), some (.inl (x3)), some (.inl (x4))] [] G Q := by
  subst h2
  subst h5
  exact mj_X_sp (n := 6) (And.intro h1 (And.intro h3 (And.intro h4 (And.intro (fun q => (h6 q)) (fun q => (h7 (Decidable.not_not.mp q)))))))
theorem mk_12005_61 {d : Nat} {Q : mj_O → mj_G → Prop} {G : mj_G} {x1 x2 x3 x4 : Int32} {r0 : Nat} (h1 : mj_X d 12005 64 [some (.inr (.inr (r0))), some (.inl (x1)), some (.inl (x2)), some (.inl ((x3) + Int32.ofInt (1))), some (.inl (x4))] [] G Q) : mj_X d 12005 61 [some (.inr (.inr (r0))), some (.inl (x1)), some (.inl (x2)), some (.inl (x3)), some (.inl (x4))] [] G Q := mj_X_sp (n := 1) (h1)
theorem mk_12005_64 {d : Nat} {Q : mj_O → mj_G → Prop} {G : mj_G} {x1 x2 x3 x4 : Int32} {r0 : Nat} (h1 : mj_X d 12005 40 [some (.inr (.inr (r0))), some (.inl (x1)), some (.inl (x2)), some (.inl (x3)), some (.inl ((x4) + Int32.ofInt (1)))] [] G Q) : mj_X d 12005 64 [some (.inr (.inr (r0))), some (.inl (x1)), some (.inl (x2)), some (.inl (x3)), some (.inl (x4))] [] G Q := mj_X_sp (n := 2) (h1)
theorem mk_12005_70 {d : Nat} {Q : mj_O → mj_G → Prop} {G : mj_G} {x1 x2 x3 v5 : Int32} {r0 v1 v2 v3 v4 : Nat} (h1 : mj_k (G) (r0) = 13) (h2 : mj_r (G) (r0) 3 = v1) (h3 : mj_k (G) (v1) = 9) (h4 : mj_r (G) (v1) 1 = v2) (h5 : 30 ≤ mj_k (G) (v2)) (h6 : vp_in (((Int32.ofInt (2)) * (x1)) + (x2)) (mj_l (G) (v2))) (h7 : mj_r (G) (v2) (((Int32.ofInt (2)) * (x1)) + (x2)).toNatClampNeg = v3) (h8 : mj_k (G) (r0) = 13) (h9 : mj_r (G) (r0) 0 = v4) (h10 : mj_k (G) (r0) = 13) (h11 : mj_i (G) (r0) 1 = v5) (h12 : mj_X d 12005 92 [some (.inr (.inr (r0))), none, none, some (.inl (x3)), none] [.inl (v5), .inl (Int32.ofInt (0)), .inr (.inr (v4)), .inr (.inr (v3))] G Q) : mj_X d 12005 70 [some (.inr (.inr (r0))), some (.inl (x1)), some (.inl (x2)), some (.inl (x3)), none] [] G Q := by
  subst h2
  subst h4
  subst h7
  subst h9
  subst h11
  exact mj_X_sp (n := 14) (And.intro h1 (And.intro h3 (And.intro h5 (And.intro h6 (And.intro h8 (And.intro h10 ((mj_X_wk (mj_le_s (mj_le_n (mj_le_n (mj_le_s (mj_le_n mj_le_0))))) h12))))))))
theorem mc_12005_92 {d : Nat} {Q : mj_O → mj_G → Prop} {G : mj_G} {x3 s2 s3 : Int32} {r0 t0 t1 : Nat} {R : Nat → mj_G → Prop} (h1 : mj_X d 12031 0 [some (.inr (.inr (t1))), some (.inl (s2)), some (.inl (s3)), none] [] G (fun o G1 => ∃ v, o = .inl (some (.inr (.inr (v)))) ∧ R v G1)) (k : ∀ v G1, R v G1 → mj_X (d + 1) 12005 95 [some (.inr (.inr (r0))), none, none, some (.inl (x3)), none] [.inr (.inr (v)), .inr (.inr (t0))] G1 Q) : mj_X (d + 1) 12005 92 [some (.inr (.inr (r0))), none, none, some (.inl (x3)), none] [.inl (s3), .inl (s2), .inr (.inr (t1)), .inr (.inr (t0))] G Q :=
  mj_X_callP rfl rfl rfl (Nat.le_of_ble_eq_true rfl) (And.intro (Nat.le_of_ble_eq_true rfl) trivial) h1 (fun o G1 h => by
    obtain ⟨v, rfl, h⟩ := h
    exact mj_X_wk (mj_le_s (mj_le_n (mj_le_n (mj_le_s (mj_le_n mj_le_0))))) (k v G1 h))
theorem mk_12005_95 {d : Nat} {Q : mj_O → mj_G → Prop} {G : mj_G} {x3 v1 : Int32} {r0 t0 t1 : Nat} (h1 : mj_k (G) (r0) = 13) (h2 : mj_i (G) (r0) 1 = v1) (h3 : mj_X d 12005 100 [some (.inr (.inr (r0))), none, none, some (.inl (x3)), none] [.inl (Int32.ofInt (1)), .inl (v1), .inr (.inr (t1)), .inr (.inr (t0))] G Q) : mj_X d 12005 95 [some (.inr (.inr (r0))), none, none, some (.inl (x3)), none] [.inr (.inr (t1)), .inr (.inr (t0))] G Q := by
  subst h2
  exact mj_X_sp (n := 3) (And.intro h1 (h3))
theorem mc_12005_100 {d : Nat} {Q : mj_O → mj_G → Prop} {G : mj_G} {x3 s2 s3 : Int32} {r0 t0 t1 : Nat} {R : mj_G → Prop} (hk : mj_k G t0 = 12) (h1 : mj_X d 11003 0 [some (.inr (.inr (t0))), some (.inr (.inr (t1))), some (.inl (s2)), some (.inl (s3))] [] G (fun o G1 => o = .inl none ∧ R G1)) (k : ∀ G1, R G1 → mj_X (d + 1) 12005 103 [some (.inr (.inr (r0))), none, none, some (.inl (x3)), none] [] G1 Q) : mj_X (d + 1) 12005 100 [some (.inr (.inr (r0))), none, none, some (.inl (x3)), none] [.inl (s3), .inl (s2), .inr (.inr (t1)), .inr (.inr (t0))] G Q :=
  mj_X_callP rfl rfl rfl (Nat.le_of_ble_eq_true rfl) (And.intro (Nat.le_of_ble_eq_true rfl) hk) h1 (fun o G1 h => by
    obtain ⟨rfl, h⟩ := h
    exact mj_X_wk (mj_le_s (mj_le_n (mj_le_n (mj_le_s (mj_le_n mj_le_0))))) (k G1 h))
theorem mk_12005_103 {d : Nat} {Q : mj_O → mj_G → Prop} {G : mj_G} {x3 : Int32} {r0 v1 : Nat} (h1 : mj_k (G) (r0) = 13) (h2 : mj_r (G) (r0) 3 = v1) (h3 : mj_X d 12005 107 [some (.inr (.inr (r0))), none, none, some (.inl (x3)), none] [.inr (.inr (v1))] G Q) : mj_X d 12005 103 [some (.inr (.inr (r0))), none, none, some (.inl (x3)), none] [] G Q := by
  subst h2
  exact mj_X_sp (n := 2) (And.intro h1 (h3))
theorem mc_12005_107 {d : Nat} {Q : mj_O → mj_G → Prop} {G : mj_G} {x3 : Int32} {r0 t0 : Nat} {R : mj_G → Prop} (hk : mj_k G t0 = 9) (h1 : mj_X d 8001 0 [some (.inr (.inr (t0))), none] [] G (fun o G1 => o = .inl none ∧ R G1)) (k : ∀ G1, R G1 → mj_X (d + 1) 12005 110 [some (.inr (.inr (r0))), none, none, some (.inl (x3)), none] [] G1 Q) : mj_X (d + 1) 12005 107 [some (.inr (.inr (r0))), none, none, some (.inl (x3)), none] [.inr (.inr (t0))] G Q :=
  mj_X_callP rfl rfl rfl (Nat.le_of_ble_eq_true rfl) (And.intro (Nat.le_of_ble_eq_true rfl) hk) h1 (fun o G1 h => by
    obtain ⟨rfl, h⟩ := h
    exact mj_X_wk (mj_le_s (mj_le_n (mj_le_n (mj_le_s (mj_le_n mj_le_0))))) (k G1 h))
theorem mk_12005_110 {d : Nat} {Q : mj_O → mj_G → Prop} {G : mj_G} {x3 : Int32} {r0 : Nat} {G1 : mj_G} (h1 : mj_k (G) (r0) = 13) (h2 : G1 = mj_pI (G) (r0) 1 (Int32.ofInt (0))) (h3 : Q (.inl (some (.inl (x3)))) (G1)) : mj_X d 12005 110 [some (.inr (.inr (r0))), none, none, some (.inl (x3)), none] [] G Q := by
  subst h2
  exact mj_X_sp (n := 4) (And.intro trivial (And.intro h1 (And.intro trivial (And.intro trivial (mj_X_ir rfl trivial h3)))))
/-! 12006: TemplateQuarry.number(CI)V -/
theorem mk_12006_0 {d : Nat} {Q : mj_O → mj_G → Prop} {G : mj_G} {x1 x2 : Int32} {r0 : Nat} (h1 : mj_X d 12006 1 [some (.inr (.inr (r0))), some (.inl (x1)), some (.inl (x2)), none] [.inl (x1)] G Q) : mj_X d 12006 0 [some (.inr (.inr (r0))), some (.inl (x1)), some (.inl (x2)), none] [] G Q := mj_X_sp (n := 1) (h1)
theorem mc_12006_1 {d : Nat} {Q : mj_O → mj_G → Prop} {G : mj_G} {x1 x2 s0 : Int32} {r0 : Nat} {R : Int32 → mj_G → Prop} (h1 : mj_X d 12029 0 [some (.inl (s0))] [] G (fun o G1 => ∃ v, o = .inl (some (.inl (v))) ∧ R v G1)) (k : ∀ v G1, R v G1 → mj_X (d + 1) 12006 4 [some (.inr (.inr (r0))), some (.inl (x1)), some (.inl (x2)), none] [.inl (v)] G1 Q) : mj_X (d + 1) 12006 1 [some (.inr (.inr (r0))), some (.inl (x1)), some (.inl (x2)), none] [.inl (s0)] G Q :=
  mj_X_callP rfl rfl rfl (Nat.le_of_ble_eq_true rfl) (And.intro (Nat.le_of_ble_eq_true rfl) trivial) h1 (fun o G1 h => by
    obtain ⟨v, rfl, h⟩ := h
    exact mj_X_wk (mj_le_s (mj_le_s (mj_le_s (mj_le_n mj_le_0)))) (k v G1 h))
theorem mk_12006_4 {d : Nat} {Q : mj_O → mj_G → Prop} {G : mj_G} {x1 x2 s0 : Int32} {r0 : Nat} (h1 : ¬ (s0) = ((0 : Int32)) → mj_X d 12006 15 [some (.inr (.inr (r0))), some (.inl (x1)), some (.inl (x2)), none] [] G Q) (h2 : (s0) = ((0 : Int32)) → mj_X d 12006 7 [none, none, none, none] [] G Q) : mj_X d 12006 4 [some (.inr (.inr (r0))), some (.inl (x1)), some (.inl (x2)), none] [.inl (s0)] G Q := mj_X_sp (n := 1) (And.intro (fun q => (h1 q)) (fun q => (mj_X_wk (mj_le_n (mj_le_n (mj_le_n (mj_le_n mj_le_0)))) (h2 (Decidable.not_not.mp q)))))
theorem mk_12006_7 {d : Nat} {Q : mj_O → mj_G → Prop} {G : mj_G} (h1 : 8 ≤ d) (h2 : Q (.inr 15) (mj_al (G) 16 6 (fun _ => 0))) : mj_X d 12006 7 [none, none, none, none] [] G Q := mj_X_th (c := 15) rfl rfl rfl rfl h1 h2
theorem mk_12006_15 {d : Nat} {Q : mj_O → mj_G → Prop} {G : mj_G} {x1 x2 : Int32} {r0 v1 : Nat} {G1 : mj_G} (h1 : mj_n (G) = v1) (h2 : G1 = mj_al (G) 12 (mj_N 11) (fun _ => 0)) (h3 : mj_X d 12006 19 [some (.inr (.inr (r0))), some (.inl (x1)), some (.inl (x2)), none] [.inr (.inr (v1)), .inr (.inr (v1))] G1 Q) : mj_X d 12006 15 [some (.inr (.inr (r0))), some (.inl (x1)), some (.inl (x2)), none] [] G Q := by
  subst h1
  subst h2
  exact mj_X_sp (n := 2) (h3)
theorem mc_12006_19 {d : Nat} {Q : mj_O → mj_G → Prop} {G : mj_G} {x1 x2 : Int32} {r0 t0 t1 : Nat} {R : mj_G → Prop} (hk : mj_k G t1 = 12) (h1 : mj_X d 11000 0 [some (.inr (.inr (t1)))] [] G (fun o G1 => o = .inl none ∧ R G1)) (k : ∀ G1, R G1 → mj_X (d + 1) 12006 22 [some (.inr (.inr (r0))), some (.inl (x1)), some (.inl (x2)), none] [.inr (.inr (t0))] G1 Q) : mj_X (d + 1) 12006 19 [some (.inr (.inr (r0))), some (.inl (x1)), some (.inl (x2)), none] [.inr (.inr (t1)), .inr (.inr (t0))] G Q :=
  mj_X_callP rfl rfl rfl (Nat.le_of_ble_eq_true rfl) (And.intro (Nat.le_of_ble_eq_true rfl) hk) h1 (fun o G1 h => by
    obtain ⟨rfl, h⟩ := h
    exact mj_X_wk (mj_le_s (mj_le_s (mj_le_s (mj_le_n mj_le_0)))) (k G1 h))
theorem mk_12006_22 {d : Nat} {Q : mj_O → mj_G → Prop} {G : mj_G} {x1 x2 : Int32} {r0 t0 : Nat} (h1 : mj_X d 12006 25 [some (.inr (.inr (r0))), some (.inl (x1)), none, some (.inr (.inr (t0)))] [.inl (x2), .inr (.inr (t0))] G Q) : mj_X d 12006 22 [some (.inr (.inr (r0))), some (.inl (x1)), some (.inl (x2)), none] [.inr (.inr (t0))] G Q := mj_X_sp (n := 3) ((mj_X_wk (mj_le_s (mj_le_s (mj_le_n (mj_le_s mj_le_0)))) h1))
theorem mc_12006_25 {d : Nat} {Q : mj_O → mj_G → Prop} {G : mj_G} {x1 s1 : Int32} {r0 r3 t0 : Nat} {R : mj_G → Prop} (hk : mj_k G t0 = 12) (h1 : mj_X d 11002 0 [some (.inr (.inr (t0))), some (.inl (s1))] [] G (fun o G1 => o = .inl none ∧ R G1)) (k : ∀ G1, R G1 → mj_X (d + 1) 12006 28 [some (.inr (.inr (r0))), some (.inl (x1)), none, some (.inr (.inr (r3)))] [] G1 Q) : mj_X (d + 1) 12006 25 [some (.inr (.inr (r0))), some (.inl (x1)), none, some (.inr (.inr (r3)))] [.inl (s1), .inr (.inr (t0))] G Q :=
  mj_X_callP rfl rfl rfl (Nat.le_of_ble_eq_true rfl) (And.intro (Nat.le_of_ble_eq_true rfl) hk) h1 (fun o G1 h => by
    obtain ⟨rfl, h⟩ := h
    exact mj_X_wk (mj_le_s (mj_le_s (mj_le_n (mj_le_s mj_le_0)))) (k G1 h))
theorem mk_12006_28 {d : Nat} {Q : mj_O → mj_G → Prop} {G : mj_G} {x1 : Int32} {r0 r3 v1 v2 v3 : Nat} {G1 : mj_G} (h1 : mj_k (G) (r0) = 13) (h2 : mj_r (G) (r0) 3 = v1) (h3 : mj_k (G) (v1) = 9) (h4 : mj_r (G) (v1) 4 = v2) (h5 : mj_k (G) (v2) = 10) (h6 : mj_r (G) (v2) 0 = v3) (h7 : 30 ≤ mj_k (G) (v3)) (h8 : vp_in ((x1) - ((Int8.ofInt (97)).toInt32)) (mj_l (G) (v3))) (h9 : (r3) = 0 ∨ mj_k (G) (r3) + 29 = mj_k (G) (v3)) (h10 : G1 = mj_pR (G) (v3) ((x1) - ((Int8.ofInt (97)).toInt32)).toNatClampNeg (r3)) (h11 : Q (.inl none) (G1)) : mj_X d 12006 28 [some (.inr (.inr (r0))), some (.inl (x1)), none, some (.inr (.inr (r3)))] [] G Q := by
  subst h2
  subst h4
  subst h6
  subst h10
  exact mj_X_sp (n := 9) (And.intro h1 (And.intro h3 (And.intro h5 (And.intro h7 (And.intro h8 (And.intro h9 (mj_X_vr rfl rfl h11)))))))
/-! 12007: TemplateQuarry.text(C)I -/
theorem mk_12007_0 {d : Nat} {Q : mj_O → mj_G → Prop} {G : mj_G} {x1 : Int32} {r0 : Nat} (h1 : mj_X d 12007 1 [some (.inr (.inr (r0))), some (.inl (x1)), none] [.inl (x1)] G Q) : mj_X d 12007 0 [some (.inr (.inr (r0))), some (.inl (x1)), none] [] G Q := mj_X_sp (n := 1) (h1)
theorem mc_12007_1 {d : Nat} {Q : mj_O → mj_G → Prop} {G : mj_G} {x1 s0 : Int32} {r0 : Nat} {R : Int32 → mj_G → Prop} (h1 : mj_X d 12029 0 [some (.inl (s0))] [] G (fun o G1 => ∃ v, o = .inl (some (.inl (v))) ∧ R v G1)) (k : ∀ v G1, R v G1 → mj_X (d + 1) 12007 4 [some (.inr (.inr (r0))), some (.inl (x1)), none] [.inl (v)] G1 Q) : mj_X (d + 1) 12007 1 [some (.inr (.inr (r0))), some (.inl (x1)), none] [.inl (s0)] G Q :=
  mj_X_callP rfl rfl rfl (Nat.le_of_ble_eq_true rfl) (And.intro (Nat.le_of_ble_eq_true rfl) trivial) h1 (fun o G1 h => by
    obtain ⟨v, rfl, h⟩ := h
    exact mj_X_wk (mj_le_s (mj_le_s (mj_le_n mj_le_0))) (k v G1 h))
theorem mk_12007_4 {d : Nat} {Q : mj_O → mj_G → Prop} {G : mj_G} {x1 s0 : Int32} {r0 : Nat} (h1 : ¬ (s0) = ((0 : Int32)) → mj_X d 12007 15 [some (.inr (.inr (r0))), some (.inl (x1)), none] [] G Q) (h2 : (s0) = ((0 : Int32)) → mj_X d 12007 7 [none, none, none] [] G Q) : mj_X d 12007 4 [some (.inr (.inr (r0))), some (.inl (x1)), none] [.inl (s0)] G Q := mj_X_sp (n := 1) (And.intro (fun q => (h1 q)) (fun q => (mj_X_wk (mj_le_n (mj_le_n (mj_le_n mj_le_0))) (h2 (Decidable.not_not.mp q)))))
theorem mk_12007_7 {d : Nat} {Q : mj_O → mj_G → Prop} {G : mj_G} (h1 : 8 ≤ d) (h2 : Q (.inr 15) (mj_al (G) 16 6 (fun _ => 0))) : mj_X d 12007 7 [none, none, none] [] G Q := mj_X_th (c := 15) rfl rfl rfl rfl h1 h2
theorem mk_12007_15 {d : Nat} {Q : mj_O → mj_G → Prop} {G : mj_G} {x1 : Int32} {r0 : Nat} (h1 : mj_X d 12007 16 [some (.inr (.inr (r0))), some (.inl (x1)), none] [.inr (.inr (r0))] G Q) : mj_X d 12007 15 [some (.inr (.inr (r0))), some (.inl (x1)), none] [] G Q := mj_X_sp (n := 1) (h1)
theorem mc_12007_16 {d : Nat} {Q : mj_O → mj_G → Prop} {G : mj_G} {x1 : Int32} {r0 t0 : Nat} {R : Nat → mj_G → Prop} (hk : mj_k G t0 = 13) (h1 : mj_X d 12012 0 [some (.inr (.inr (t0))), none, none] [] G (fun o G1 => ∃ v, o = .inl (some (.inr (.inr (v)))) ∧ R v G1)) (k : ∀ v G1, R v G1 → mj_X (d + 1) 12007 19 [some (.inr (.inr (r0))), some (.inl (x1)), none] [.inr (.inr (v))] G1 Q) : mj_X (d + 1) 12007 16 [some (.inr (.inr (r0))), some (.inl (x1)), none] [.inr (.inr (t0))] G Q :=
  mj_X_callP rfl rfl rfl (Nat.le_of_ble_eq_true rfl) (And.intro (Nat.le_of_ble_eq_true rfl) hk) h1 (fun o G1 h => by
    obtain ⟨v, rfl, h⟩ := h
    exact mj_X_wk (mj_le_s (mj_le_s (mj_le_n mj_le_0))) (k v G1 h))
theorem mk_12007_19 {d : Nat} {Q : mj_O → mj_G → Prop} {G : mj_G} {x1 v4 : Int32} {r0 t0 v1 v2 v3 : Nat} {G1 : mj_G} (h1 : mj_k (G) (r0) = 13) (h2 : mj_r (G) (r0) 3 = v1) (h3 : mj_k (G) (v1) = 9) (h4 : mj_r (G) (v1) 4 = v2) (h5 : mj_k (G) (v2) = 10) (h6 : mj_r (G) (v2) 0 = v3) (h7 : 30 ≤ mj_k (G) (v3)) (h8 : vp_in ((x1) - ((Int8.ofInt (97)).toInt32)) (mj_l (G) (v3))) (h9 : (t0) = 0 ∨ mj_k (G) (t0) + 29 = mj_k (G) (v3)) (h10 : G1 = mj_pR (G) (v3) ((x1) - ((Int8.ofInt (97)).toInt32)).toNatClampNeg (t0)) (h11 : mj_k (G1) (t0) = 12) (h12 : mj_i (G1) (t0) 4 = v4) (h13 : Q (.inl (some (.inl (v4)))) (G1)) : mj_X d 12007 19 [some (.inr (.inr (r0))), some (.inl (x1)), none] [.inr (.inr (t0))] G Q := by
  subst h2
  subst h4
  subst h6
  subst h10
  subst h12
  exact mj_X_sp (n := 12) (And.intro h1 (And.intro h3 (And.intro h5 (And.intro h7 (And.intro h8 (And.intro h9 (And.intro h11 (mj_X_ir rfl trivial h13))))))))
/-! 12008: TemplateQuarry.list(C)V -/
theorem mk_12008_0 {d : Nat} {Q : mj_O → mj_G → Prop} {G : mj_G} {x1 : Int32} {r0 : Nat} (h1 : mj_X d 12008 1 [some (.inr (.inr (r0))), some (.inl (x1)), none] [.inl (x1)] G Q) : mj_X d 12008 0 [some (.inr (.inr (r0))), some (.inl (x1)), none] [] G Q := mj_X_sp (n := 1) (h1)
theorem mc_12008_1 {d : Nat} {Q : mj_O → mj_G → Prop} {G : mj_G} {x1 s0 : Int32} {r0 : Nat} {R : Int32 → mj_G → Prop} (h1 : mj_X d 12029 0 [some (.inl (s0))] [] G (fun o G1 => ∃ v, o = .inl (some (.inl (v))) ∧ R v G1)) (k : ∀ v G1, R v G1 → mj_X (d + 1) 12008 4 [some (.inr (.inr (r0))), some (.inl (x1)), none] [.inl (v)] G1 Q) : mj_X (d + 1) 12008 1 [some (.inr (.inr (r0))), some (.inl (x1)), none] [.inl (s0)] G Q :=
  mj_X_callP rfl rfl rfl (Nat.le_of_ble_eq_true rfl) (And.intro (Nat.le_of_ble_eq_true rfl) trivial) h1 (fun o G1 h => by
    obtain ⟨v, rfl, h⟩ := h
    exact mj_X_wk (mj_le_s (mj_le_s (mj_le_n mj_le_0))) (k v G1 h))
theorem mk_12008_4 {d : Nat} {Q : mj_O → mj_G → Prop} {G : mj_G} {x1 s0 : Int32} {r0 : Nat} (h1 : ¬ (s0) = ((0 : Int32)) → mj_X d 12008 15 [some (.inr (.inr (r0))), some (.inl (x1)), none] [] G Q) (h2 : (s0) = ((0 : Int32)) → mj_X d 12008 7 [none, none, none] [] G Q) : mj_X d 12008 4 [some (.inr (.inr (r0))), some (.inl (x1)), none] [.inl (s0)] G Q := mj_X_sp (n := 1) (And.intro (fun q => (h1 q)) (fun q => (mj_X_wk (mj_le_n (mj_le_n (mj_le_n mj_le_0))) (h2 (Decidable.not_not.mp q)))))
theorem mk_12008_7 {d : Nat} {Q : mj_O → mj_G → Prop} {G : mj_G} (h1 : 8 ≤ d) (h2 : Q (.inr 15) (mj_al (G) 16 6 (fun _ => 0))) : mj_X d 12008 7 [none, none, none] [] G Q := mj_X_th (c := 15) rfl rfl rfl rfl h1 h2
theorem mk_12008_15 {d : Nat} {Q : mj_O → mj_G → Prop} {G : mj_G} {x1 : Int32} {r0 v1 : Nat} {G1 : mj_G} (h1 : mj_n (G) = v1) (h2 : G1 = mj_al (G) 12 (mj_N 11) (fun _ => 0)) (h3 : mj_X d 12008 19 [some (.inr (.inr (r0))), some (.inl (x1)), none] [.inr (.inr (v1)), .inr (.inr (v1))] G1 Q) : mj_X d 12008 15 [some (.inr (.inr (r0))), some (.inl (x1)), none] [] G Q := by
  subst h1
  subst h2
  exact mj_X_sp (n := 2) (h3)
theorem mc_12008_19 {d : Nat} {Q : mj_O → mj_G → Prop} {G : mj_G} {x1 : Int32} {r0 t0 t1 : Nat} {R : mj_G → Prop} (hk : mj_k G t1 = 12) (h1 : mj_X d 11000 0 [some (.inr (.inr (t1)))] [] G (fun o G1 => o = .inl none ∧ R G1)) (k : ∀ G1, R G1 → mj_X (d + 1) 12008 22 [some (.inr (.inr (r0))), some (.inl (x1)), none] [.inr (.inr (t0))] G1 Q) : mj_X (d + 1) 12008 19 [some (.inr (.inr (r0))), some (.inl (x1)), none] [.inr (.inr (t1)), .inr (.inr (t0))] G Q :=
  mj_X_callP rfl rfl rfl (Nat.le_of_ble_eq_true rfl) (And.intro (Nat.le_of_ble_eq_true rfl) hk) h1 (fun o G1 h => by
    obtain ⟨rfl, h⟩ := h
    exact mj_X_wk (mj_le_s (mj_le_s (mj_le_n mj_le_0))) (k G1 h))
theorem mk_12008_22 {d : Nat} {Q : mj_O → mj_G → Prop} {G : mj_G} {x1 : Int32} {r0 t0 v1 : Nat} {G1 : mj_G} (h1 : ¬ (Int32.ofInt (0)) < 0) (h2 : (Int32.ofInt (0)).toNatClampNeg ≤ 1000000) (h3 : mj_n (G) = v1) (h4 : G1 = mj_al (G) 41 (Int32.ofInt (0)).toNatClampNeg (fun _ => 0)) (h5 : mj_X d 12008 28 [some (.inr (.inr (r0))), some (.inl (x1)), some (.inr (.inr (t0)))] [.inr (.inr (v1)), .inr (.inr (t0))] G1 Q) : mj_X d 12008 22 [some (.inr (.inr (r0))), some (.inl (x1)), none] [.inr (.inr (t0))] G Q := by
  subst h3
  subst h4
  exact mj_X_sp (n := 4) (And.intro h1 (And.intro h2 (h5)))
theorem mc_12008_28 {d : Nat} {Q : mj_O → mj_G → Prop} {G : mj_G} {x1 : Int32} {r0 r2 t0 t1 : Nat} {R : mj_G → Prop} (hk : mj_k G t0 = 12) (h1 : mj_X d 11004 0 [some (.inr (.inr (t0))), some (.inr (.inr (t1)))] [] G (fun o G1 => o = .inl none ∧ R G1)) (k : ∀ G1, R G1 → mj_X (d + 1) 12008 31 [some (.inr (.inr (r0))), some (.inl (x1)), some (.inr (.inr (r2)))] [] G1 Q) : mj_X (d + 1) 12008 28 [some (.inr (.inr (r0))), some (.inl (x1)), some (.inr (.inr (r2)))] [.inr (.inr (t1)), .inr (.inr (t0))] G Q :=
  mj_X_callP rfl rfl rfl (Nat.le_of_ble_eq_true rfl) (And.intro (Nat.le_of_ble_eq_true rfl) hk) h1 (fun o G1 h => by
    obtain ⟨rfl, h⟩ := h
    exact mj_X_wk (mj_le_s (mj_le_s (mj_le_s mj_le_0))) (k G1 h))
theorem mk_12008_31 {d : Nat} {Q : mj_O → mj_G → Prop} {G : mj_G} {x1 : Int32} {r0 r2 v1 v2 v3 : Nat} {G1 : mj_G} (h1 : mj_k (G) (r0) = 13) (h2 : mj_r (G) (r0) 3 = v1) (h3 : mj_k (G) (v1) = 9) (h4 : mj_r (G) (v1) 4 = v2) (h5 : mj_k (G) (v2) = 10) (h6 : mj_r (G) (v2) 0 = v3) (h7 : 30 ≤ mj_k (G) (v3)) (h8 : vp_in ((x1) - ((Int8.ofInt (97)).toInt32)) (mj_l (G) (v3))) (h9 : (r2) = 0 ∨ mj_k (G) (r2) + 29 = mj_k (G) (v3)) (h10 : G1 = mj_pR (G) (v3) ((x1) - ((Int8.ofInt (97)).toInt32)).toNatClampNeg (r2)) (h11 : Q (.inl none) (G1)) : mj_X d 12008 31 [some (.inr (.inr (r0))), some (.inl (x1)), some (.inr (.inr (r2)))] [] G Q := by
  subst h2
  subst h4
  subst h6
  subst h10
  exact mj_X_sp (n := 9) (And.intro h1 (And.intro h3 (And.intro h5 (And.intro h7 (And.intro h8 (And.intro h9 (mj_X_vr rfl rfl h11)))))))
/-! 12009: TemplateQuarry.add(CI)I -/
theorem mk_12009_0 {d : Nat} {Q : mj_O → mj_G → Prop} {G : mj_G} {x1 x2 : Int32} {r0 : Nat} (h1 : mj_X d 12009 1 [some (.inr (.inr (r0))), some (.inl (x1)), some (.inl (x2)), none] [.inl (x1)] G Q) : mj_X d 12009 0 [some (.inr (.inr (r0))), some (.inl (x1)), some (.inl (x2)), none] [] G Q := mj_X_sp (n := 1) (h1)
theorem mc_12009_1 {d : Nat} {Q : mj_O → mj_G → Prop} {G : mj_G} {x1 x2 s0 : Int32} {r0 : Nat} {R : Int32 → mj_G → Prop} (h1 : mj_X d 12029 0 [some (.inl (s0))] [] G (fun o G1 => ∃ v, o = .inl (some (.inl (v))) ∧ R v G1)) (k : ∀ v G1, R v G1 → mj_X (d + 1) 12009 4 [some (.inr (.inr (r0))), some (.inl (x1)), some (.inl (x2)), none] [.inl (v)] G1 Q) : mj_X (d + 1) 12009 1 [some (.inr (.inr (r0))), some (.inl (x1)), some (.inl (x2)), none] [.inl (s0)] G Q :=
  mj_X_callP rfl rfl rfl (Nat.le_of_ble_eq_true rfl) (And.intro (Nat.le_of_ble_eq_true rfl) trivial) h1 (fun o G1 h => by
    obtain ⟨v, rfl, h⟩ := h
    exact mj_X_wk (mj_le_s (mj_le_s (mj_le_s (mj_le_n mj_le_0)))) (k v G1 h))
theorem mk_12009_4 {d : Nat} {Q : mj_O → mj_G → Prop} {G : mj_G} {x1 x2 s0 : Int32} {r0 : Nat} (h1 : ¬ (s0) = ((0 : Int32)) → mj_X d 12009 15 [some (.inr (.inr (r0))), some (.inl (x1)), some (.inl (x2)), none] [] G Q) (h2 : (s0) = ((0 : Int32)) → mj_X d 12009 7 [none, none, none, none] [] G Q) : mj_X d 12009 4 [some (.inr (.inr (r0))), some (.inl (x1)), some (.inl (x2)), none] [.inl (s0)] G Q := mj_X_sp (n := 1) (And.intro (fun q => (h1 q)) (fun q => (mj_X_wk (mj_le_n (mj_le_n (mj_le_n (mj_le_n mj_le_0)))) (h2 (Decidable.not_not.mp q)))))
theorem mk_12009_7 {d : Nat} {Q : mj_O → mj_G → Prop} {G : mj_G} (h1 : 8 ≤ d) (h2 : Q (.inr 15) (mj_al (G) 16 6 (fun _ => 0))) : mj_X d 12009 7 [none, none, none, none] [] G Q := mj_X_th (c := 15) rfl rfl rfl rfl h1 h2
theorem mk_12009_15 {d : Nat} {Q : mj_O → mj_G → Prop} {G : mj_G} {x1 x2 : Int32} {r0 : Nat} (h1 : mj_X d 12009 20 [some (.inr (.inr (r0))), some (.inl (x1)), some (.inl (x2)), none] [.inl ((x1) - ((Int8.ofInt (97)).toInt32)), .inr (.inr (r0))] G Q) : mj_X d 12009 15 [some (.inr (.inr (r0))), some (.inl (x1)), some (.inl (x2)), none] [] G Q := mj_X_sp (n := 4) (h1)
theorem mc_12009_20 {d : Nat} {Q : mj_O → mj_G → Prop} {G : mj_G} {x1 x2 s1 : Int32} {r0 t0 : Nat} {R : Int32 → mj_G → Prop} (hk : mj_k G t0 = 13) (h1 : mj_X d 12013 0 [some (.inr (.inr (t0))), some (.inl (s1)), none] [] G (fun o G1 => ∃ v, o = .inl (some (.inl (v))) ∧ R v G1)) (k : ∀ v G1, R v G1 → mj_X (d + 1) 12009 23 [some (.inr (.inr (r0))), some (.inl (x1)), some (.inl (x2)), none] [.inl (v)] G1 Q) : mj_X (d + 1) 12009 20 [some (.inr (.inr (r0))), some (.inl (x1)), some (.inl (x2)), none] [.inl (s1), .inr (.inr (t0))] G Q :=
  mj_X_callP rfl rfl rfl (Nat.le_of_ble_eq_true rfl) (And.intro (Nat.le_of_ble_eq_true rfl) hk) h1 (fun o G1 h => by
    obtain ⟨v, rfl, h⟩ := h
    exact mj_X_wk (mj_le_s (mj_le_s (mj_le_s (mj_le_n mj_le_0)))) (k v G1 h))
theorem mk_12009_23 {d : Nat} {Q : mj_O → mj_G → Prop} {G : mj_G} {x1 x2 s0 : Int32} {r0 : Nat} (h1 : ¬ (s0) = ((0 : Int32)) → mj_X d 12009 34 [some (.inr (.inr (r0))), some (.inl (x1)), some (.inl (x2)), none] [] G Q) (h2 : (s0) = ((0 : Int32)) → mj_X d 12009 26 [none, none, none, none] [] G Q) : mj_X d 12009 23 [some (.inr (.inr (r0))), some (.inl (x1)), some (.inl (x2)), none] [.inl (s0)] G Q := mj_X_sp (n := 1) (And.intro (fun q => (h1 q)) (fun q => (mj_X_wk (mj_le_n (mj_le_n (mj_le_n (mj_le_n mj_le_0)))) (h2 (Decidable.not_not.mp q)))))
theorem mk_12009_26 {d : Nat} {Q : mj_O → mj_G → Prop} {G : mj_G} (h1 : 8 ≤ d) (h2 : Q (.inr 16) (mj_al (G) 17 6 (fun _ => 0))) : mj_X d 12009 26 [none, none, none, none] [] G Q := mj_X_th (c := 16) rfl rfl rfl rfl h1 h2
theorem mk_12009_34 {d : Nat} {Q : mj_O → mj_G → Prop} {G : mj_G} {x1 x2 : Int32} {r0 v1 : Nat} {G1 : mj_G} (h1 : mj_n (G) = v1) (h2 : G1 = mj_al (G) 12 (mj_N 11) (fun _ => 0)) (h3 : mj_X d 12009 38 [some (.inr (.inr (r0))), some (.inl (x1)), some (.inl (x2)), none] [.inr (.inr (v1)), .inr (.inr (v1))] G1 Q) : mj_X d 12009 34 [some (.inr (.inr (r0))), some (.inl (x1)), some (.inl (x2)), none] [] G Q := by
  subst h1
  subst h2
  exact mj_X_sp (n := 2) (h3)
theorem mc_12009_38 {d : Nat} {Q : mj_O → mj_G → Prop} {G : mj_G} {x1 x2 : Int32} {r0 t0 t1 : Nat} {R : mj_G → Prop} (hk : mj_k G t1 = 12) (h1 : mj_X d 11000 0 [some (.inr (.inr (t1)))] [] G (fun o G1 => o = .inl none ∧ R G1)) (k : ∀ G1, R G1 → mj_X (d + 1) 12009 41 [some (.inr (.inr (r0))), some (.inl (x1)), some (.inl (x2)), none] [.inr (.inr (t0))] G1 Q) : mj_X (d + 1) 12009 38 [some (.inr (.inr (r0))), some (.inl (x1)), some (.inl (x2)), none] [.inr (.inr (t1)), .inr (.inr (t0))] G Q :=
  mj_X_callP rfl rfl rfl (Nat.le_of_ble_eq_true rfl) (And.intro (Nat.le_of_ble_eq_true rfl) hk) h1 (fun o G1 h => by
    obtain ⟨rfl, h⟩ := h
    exact mj_X_wk (mj_le_s (mj_le_s (mj_le_s (mj_le_n mj_le_0)))) (k G1 h))
theorem mk_12009_41 {d : Nat} {Q : mj_O → mj_G → Prop} {G : mj_G} {x1 x2 : Int32} {r0 t0 : Nat} (h1 : mj_X d 12009 44 [some (.inr (.inr (r0))), some (.inl (x1)), none, some (.inr (.inr (t0)))] [.inl (x2), .inr (.inr (t0))] G Q) : mj_X d 12009 41 [some (.inr (.inr (r0))), some (.inl (x1)), some (.inl (x2)), none] [.inr (.inr (t0))] G Q := mj_X_sp (n := 3) ((mj_X_wk (mj_le_s (mj_le_s (mj_le_n (mj_le_s mj_le_0)))) h1))
theorem mc_12009_44 {d : Nat} {Q : mj_O → mj_G → Prop} {G : mj_G} {x1 s1 : Int32} {r0 r3 t0 : Nat} {R : mj_G → Prop} (hk : mj_k G t0 = 12) (h1 : mj_X d 11002 0 [some (.inr (.inr (t0))), some (.inl (s1))] [] G (fun o G1 => o = .inl none ∧ R G1)) (k : ∀ G1, R G1 → mj_X (d + 1) 12009 47 [some (.inr (.inr (r0))), some (.inl (x1)), none, some (.inr (.inr (r3)))] [] G1 Q) : mj_X (d + 1) 12009 44 [some (.inr (.inr (r0))), some (.inl (x1)), none, some (.inr (.inr (r3)))] [.inl (s1), .inr (.inr (t0))] G Q :=
  mj_X_callP rfl rfl rfl (Nat.le_of_ble_eq_true rfl) (And.intro (Nat.le_of_ble_eq_true rfl) hk) h1 (fun o G1 h => by
    obtain ⟨rfl, h⟩ := h
    exact mj_X_wk (mj_le_s (mj_le_s (mj_le_n (mj_le_s mj_le_0)))) (k G1 h))
theorem mk_12009_47 {d : Nat} {Q : mj_O → mj_G → Prop} {G : mj_G} {x1 : Int32} {r0 r3 : Nat} (h1 : mj_X d 12009 53 [none, none, none, none] [.inr (.inr (r3)), .inl ((x1) - ((Int8.ofInt (97)).toInt32)), .inr (.inr (r0))] G Q) : mj_X d 12009 47 [some (.inr (.inr (r0))), some (.inl (x1)), none, some (.inr (.inr (r3)))] [] G Q := mj_X_sp (n := 5) ((mj_X_wk (mj_le_n (mj_le_n (mj_le_n (mj_le_n mj_le_0)))) h1))
theorem mc_12009_53 {d : Nat} {Q : mj_O → mj_G → Prop} {G : mj_G} {s1 : Int32} {t0 t2 : Nat} {R : Int32 → mj_G → Prop} (hk : mj_k G t0 = 13) (h1 : mj_X d 12014 0 [some (.inr (.inr (t0))), some (.inl (s1)), some (.inr (.inr (t2))), none, none, none] [] G (fun o G1 => ∃ v, o = .inl (some (.inl (v))) ∧ R v G1)) (k : ∀ v G1, R v G1 → mj_X (d + 1) 12009 56 [none, none, none, none] [.inl (v)] G1 Q) : mj_X (d + 1) 12009 53 [none, none, none, none] [.inr (.inr (t2)), .inl (s1), .inr (.inr (t0))] G Q :=
  mj_X_callP rfl rfl rfl (Nat.le_of_ble_eq_true rfl) (And.intro (Nat.le_of_ble_eq_true rfl) hk) h1 (fun o G1 h => by
    obtain ⟨v, rfl, h⟩ := h
    exact mj_X_wk (mj_le_n (mj_le_n (mj_le_n (mj_le_n mj_le_0)))) (k v G1 h))
theorem mk_12009_56 {d : Nat} {Q : mj_O → mj_G → Prop} {G : mj_G} {s0 : Int32} (h1 : Q (.inl (some (.inl (s0)))) (G)) : mj_X d 12009 56 [none, none, none, none] [.inl (s0)] G Q := mj_X_ir rfl trivial h1
/-! 12010: TemplateQuarry.addText(C)I -/
theorem mk_12010_0 {d : Nat} {Q : mj_O → mj_G → Prop} {G : mj_G} {x1 : Int32} {r0 : Nat} (h1 : mj_X d 12010 1 [some (.inr (.inr (r0))), some (.inl (x1))] [.inl (x1)] G Q) : mj_X d 12010 0 [some (.inr (.inr (r0))), some (.inl (x1))] [] G Q := mj_X_sp (n := 1) (h1)
theorem mc_12010_1 {d : Nat} {Q : mj_O → mj_G → Prop} {G : mj_G} {x1 s0 : Int32} {r0 : Nat} {R : Int32 → mj_G → Prop} (h1 : mj_X d 12029 0 [some (.inl (s0))] [] G (fun o G1 => ∃ v, o = .inl (some (.inl (v))) ∧ R v G1)) (k : ∀ v G1, R v G1 → mj_X (d + 1) 12010 4 [some (.inr (.inr (r0))), some (.inl (x1))] [.inl (v)] G1 Q) : mj_X (d + 1) 12010 1 [some (.inr (.inr (r0))), some (.inl (x1))] [.inl (s0)] G Q :=
  mj_X_callP rfl rfl rfl (Nat.le_of_ble_eq_true rfl) (And.intro (Nat.le_of_ble_eq_true rfl) trivial) h1 (fun o G1 h => by
    obtain ⟨v, rfl, h⟩ := h
    exact mj_X_wk (mj_le_s (mj_le_s mj_le_0)) (k v G1 h))
theorem mk_12010_4 {d : Nat} {Q : mj_O → mj_G → Prop} {G : mj_G} {x1 s0 : Int32} {r0 : Nat} (h1 : ¬ (s0) = ((0 : Int32)) → mj_X d 12010 15 [some (.inr (.inr (r0))), some (.inl (x1))] [] G Q) (h2 : (s0) = ((0 : Int32)) → mj_X d 12010 7 [none, none] [] G Q) : mj_X d 12010 4 [some (.inr (.inr (r0))), some (.inl (x1))] [.inl (s0)] G Q := mj_X_sp (n := 1) (And.intro (fun q => (h1 q)) (fun q => (mj_X_wk (mj_le_n (mj_le_n mj_le_0)) (h2 (Decidable.not_not.mp q)))))
theorem mk_12010_7 {d : Nat} {Q : mj_O → mj_G → Prop} {G : mj_G} (h1 : 8 ≤ d) (h2 : Q (.inr 15) (mj_al (G) 16 6 (fun _ => 0))) : mj_X d 12010 7 [none, none] [] G Q := mj_X_th (c := 15) rfl rfl rfl rfl h1 h2
theorem mk_12010_15 {d : Nat} {Q : mj_O → mj_G → Prop} {G : mj_G} {x1 : Int32} {r0 : Nat} (h1 : mj_X d 12010 20 [some (.inr (.inr (r0))), some (.inl (x1))] [.inl ((x1) - ((Int8.ofInt (97)).toInt32)), .inr (.inr (r0))] G Q) : mj_X d 12010 15 [some (.inr (.inr (r0))), some (.inl (x1))] [] G Q := mj_X_sp (n := 4) (h1)
theorem mc_12010_20 {d : Nat} {Q : mj_O → mj_G → Prop} {G : mj_G} {x1 s1 : Int32} {r0 t0 : Nat} {R : Int32 → mj_G → Prop} (hk : mj_k G t0 = 13) (h1 : mj_X d 12013 0 [some (.inr (.inr (t0))), some (.inl (s1)), none] [] G (fun o G1 => ∃ v, o = .inl (some (.inl (v))) ∧ R v G1)) (k : ∀ v G1, R v G1 → mj_X (d + 1) 12010 23 [some (.inr (.inr (r0))), some (.inl (x1))] [.inl (v)] G1 Q) : mj_X (d + 1) 12010 20 [some (.inr (.inr (r0))), some (.inl (x1))] [.inl (s1), .inr (.inr (t0))] G Q :=
  mj_X_callP rfl rfl rfl (Nat.le_of_ble_eq_true rfl) (And.intro (Nat.le_of_ble_eq_true rfl) hk) h1 (fun o G1 h => by
    obtain ⟨v, rfl, h⟩ := h
    exact mj_X_wk (mj_le_s (mj_le_s mj_le_0)) (k v G1 h))
theorem mk_12010_23 {d : Nat} {Q : mj_O → mj_G → Prop} {G : mj_G} {x1 s0 : Int32} {r0 : Nat} (h1 : ¬ (s0) = ((0 : Int32)) → mj_X d 12010 34 [some (.inr (.inr (r0))), some (.inl (x1))] [] G Q) (h2 : (s0) = ((0 : Int32)) → mj_X d 12010 26 [none, none] [] G Q) : mj_X d 12010 23 [some (.inr (.inr (r0))), some (.inl (x1))] [.inl (s0)] G Q := mj_X_sp (n := 1) (And.intro (fun q => (h1 q)) (fun q => (mj_X_wk (mj_le_n (mj_le_n mj_le_0)) (h2 (Decidable.not_not.mp q)))))
theorem mk_12010_26 {d : Nat} {Q : mj_O → mj_G → Prop} {G : mj_G} (h1 : 8 ≤ d) (h2 : Q (.inr 16) (mj_al (G) 17 6 (fun _ => 0))) : mj_X d 12010 26 [none, none] [] G Q := mj_X_th (c := 16) rfl rfl rfl rfl h1 h2
theorem mk_12010_34 {d : Nat} {Q : mj_O → mj_G → Prop} {G : mj_G} {x1 : Int32} {r0 : Nat} (h1 : mj_X d 12010 40 [none, none] [.inr (.inr (r0)), .inl ((x1) - ((Int8.ofInt (97)).toInt32)), .inr (.inr (r0))] G Q) : mj_X d 12010 34 [some (.inr (.inr (r0))), some (.inl (x1))] [] G Q := mj_X_sp (n := 5) ((mj_X_wk (mj_le_n (mj_le_n mj_le_0)) h1))
theorem mc_12010_40 {d : Nat} {Q : mj_O → mj_G → Prop} {G : mj_G} {s1 : Int32} {t0 t2 : Nat} {R : Nat → mj_G → Prop} (hk : mj_k G t2 = 13) (h1 : mj_X d 12012 0 [some (.inr (.inr (t2))), none, none] [] G (fun o G1 => ∃ v, o = .inl (some (.inr (.inr (v)))) ∧ R v G1)) (k : ∀ v G1, R v G1 → mj_X (d + 1) 12010 43 [none, none] [.inr (.inr (v)), .inl (s1), .inr (.inr (t0))] G1 Q) : mj_X (d + 1) 12010 40 [none, none] [.inr (.inr (t2)), .inl (s1), .inr (.inr (t0))] G Q :=
  mj_X_callP rfl rfl rfl (Nat.le_of_ble_eq_true rfl) (And.intro (Nat.le_of_ble_eq_true rfl) hk) h1 (fun o G1 h => by
    obtain ⟨v, rfl, h⟩ := h
    exact mj_X_wk (mj_le_n (mj_le_n mj_le_0)) (k v G1 h))
theorem mc_12010_43 {d : Nat} {Q : mj_O → mj_G → Prop} {G : mj_G} {s1 : Int32} {t0 t2 : Nat} {R : Int32 → mj_G → Prop} (hk : mj_k G t0 = 13) (h1 : mj_X d 12014 0 [some (.inr (.inr (t0))), some (.inl (s1)), some (.inr (.inr (t2))), none, none, none] [] G (fun o G1 => ∃ v, o = .inl (some (.inl (v))) ∧ R v G1)) (k : ∀ v G1, R v G1 → mj_X (d + 1) 12010 46 [none, none] [.inl (v)] G1 Q) : mj_X (d + 1) 12010 43 [none, none] [.inr (.inr (t2)), .inl (s1), .inr (.inr (t0))] G Q :=
  mj_X_callP rfl rfl rfl (Nat.le_of_ble_eq_true rfl) (And.intro (Nat.le_of_ble_eq_true rfl) hk) h1 (fun o G1 h => by
    obtain ⟨v, rfl, h⟩ := h
    exact mj_X_wk (mj_le_n (mj_le_n mj_le_0)) (k v G1 h))
theorem mk_12010_46 {d : Nat} {Q : mj_O → mj_G → Prop} {G : mj_G} {s0 : Int32} (h1 : Q (.inl (some (.inl (s0)))) (G)) : mj_X d 12010 46 [none, none] [.inl (s0)] G Q := mj_X_ir rfl trivial h1
/-! 12011: TemplateQuarry.clear(C)Z -/
theorem mk_12011_0 {d : Nat} {Q : mj_O → mj_G → Prop} {G : mj_G} {x1 : Int32} {r0 : Nat} (h1 : mj_X d 12011 1 [some (.inr (.inr (r0))), some (.inl (x1)), none] [.inl (x1)] G Q) : mj_X d 12011 0 [some (.inr (.inr (r0))), some (.inl (x1)), none] [] G Q := mj_X_sp (n := 1) (h1)
theorem mc_12011_1 {d : Nat} {Q : mj_O → mj_G → Prop} {G : mj_G} {x1 s0 : Int32} {r0 : Nat} {R : Int32 → mj_G → Prop} (h1 : mj_X d 12029 0 [some (.inl (s0))] [] G (fun o G1 => ∃ v, o = .inl (some (.inl (v))) ∧ R v G1)) (k : ∀ v G1, R v G1 → mj_X (d + 1) 12011 4 [some (.inr (.inr (r0))), some (.inl (x1)), none] [.inl (v)] G1 Q) : mj_X (d + 1) 12011 1 [some (.inr (.inr (r0))), some (.inl (x1)), none] [.inl (s0)] G Q :=
  mj_X_callP rfl rfl rfl (Nat.le_of_ble_eq_true rfl) (And.intro (Nat.le_of_ble_eq_true rfl) trivial) h1 (fun o G1 h => by
    obtain ⟨v, rfl, h⟩ := h
    exact mj_X_wk (mj_le_s (mj_le_s (mj_le_n mj_le_0))) (k v G1 h))
theorem mk_12011_4 {d : Nat} {Q : mj_O → mj_G → Prop} {G : mj_G} {x1 s0 : Int32} {r0 : Nat} (h1 : ¬ (s0) = ((0 : Int32)) → mj_X d 12011 15 [some (.inr (.inr (r0))), some (.inl (x1)), none] [] G Q) (h2 : (s0) = ((0 : Int32)) → mj_X d 12011 7 [none, none, none] [] G Q) : mj_X d 12011 4 [some (.inr (.inr (r0))), some (.inl (x1)), none] [.inl (s0)] G Q := mj_X_sp (n := 1) (And.intro (fun q => (h1 q)) (fun q => (mj_X_wk (mj_le_n (mj_le_n (mj_le_n mj_le_0))) (h2 (Decidable.not_not.mp q)))))
theorem mk_12011_7 {d : Nat} {Q : mj_O → mj_G → Prop} {G : mj_G} (h1 : 8 ≤ d) (h2 : Q (.inr 15) (mj_al (G) 16 6 (fun _ => 0))) : mj_X d 12011 7 [none, none, none] [] G Q := mj_X_th (c := 15) rfl rfl rfl rfl h1 h2
theorem mk_12011_15 {d : Nat} {Q : mj_O → mj_G → Prop} {G : mj_G} {x1 v5 : Int32} {r0 v1 v2 v3 v4 : Nat} (h1 : mj_k (G) (r0) = 13) (h2 : mj_r (G) (r0) 3 = v1) (h3 : mj_k (G) (v1) = 9) (h4 : mj_r (G) (v1) 4 = v2) (h5 : mj_k (G) (v2) = 10) (h6 : mj_r (G) (v2) 0 = v3) (h7 : 30 ≤ mj_k (G) (v3)) (h8 : vp_in ((x1) - ((Int8.ofInt (97)).toInt32)) (mj_l (G) (v3))) (h9 : mj_r (G) (v3) ((x1) - ((Int8.ofInt (97)).toInt32)).toNatClampNeg = v4) (h10 : mj_k (G) (v4) = 12) (h11 : mj_i (G) (v4) 0 = v5) (h12 : (v5) = (Int32.ofInt (1)) → mj_X d 12011 41 [some (.inr (.inr (r0))), some (.inl (x1)), none] [] G Q) (h13 : ¬ (v5) = (Int32.ofInt (1)) → mj_X d 12011 37 [some (.inr (.inr (r0))), some (.inl (x1)), none] [] G Q) : mj_X d 12011 15 [some (.inr (.inr (r0))), some (.inl (x1)), none] [] G Q := by
  subst h2
  subst h4
  subst h6
  subst h9
  subst h11
  exact mj_X_sp (n := 11) (And.intro h1 (And.intro h3 (And.intro h5 (And.intro h7 (And.intro h8 (And.intro h10 (And.intro (fun q => (h12 q)) (fun q => (h13 q)))))))))
theorem mk_12011_37 {d : Nat} {Q : mj_O → mj_G → Prop} {G : mj_G} {x1 : Int32} {r0 : Nat} (h1 : mj_X d 12011 42 [some (.inr (.inr (r0))), some (.inl (x1)), none] [.inl (Int32.ofInt (1))] G Q) : mj_X d 12011 37 [some (.inr (.inr (r0))), some (.inl (x1)), none] [] G Q := mj_X_sp (n := 2) (h1)
theorem mk_12011_41 {d : Nat} {Q : mj_O → mj_G → Prop} {G : mj_G} {x1 : Int32} {r0 : Nat} (h1 : mj_X d 12011 42 [some (.inr (.inr (r0))), some (.inl (x1)), none] [.inl (Int32.ofInt (0))] G Q) : mj_X d 12011 41 [some (.inr (.inr (r0))), some (.inl (x1)), none] [] G Q := mj_X_sp (n := 1) (h1)
theorem mk_12011_42 {d : Nat} {Q : mj_O → mj_G → Prop} {G : mj_G} {x1 s0 : Int32} {r0 v1 v2 v3 v4 : Nat} {G1 : mj_G} (h1 : mj_k (G) (r0) = 13) (h2 : mj_r (G) (r0) 3 = v1) (h3 : mj_k (G) (v1) = 9) (h4 : mj_r (G) (v1) 4 = v2) (h5 : mj_k (G) (v2) = 10) (h6 : mj_r (G) (v2) 0 = v3) (h7 : mj_n (G) = v4) (h8 : G1 = mj_al (G) 12 (mj_N 11) (fun _ => 0)) (h9 : mj_X d 12011 61 [none, none, some (.inl (s0))] [.inr (.inr (v4)), .inr (.inr (v4)), .inl ((x1) - ((Int8.ofInt (97)).toInt32)), .inr (.inr (v3))] G1 Q) : mj_X d 12011 42 [some (.inr (.inr (r0))), some (.inl (x1)), none] [.inl (s0)] G Q := by
  subst h2
  subst h4
  subst h6
  subst h7
  subst h8
  exact mj_X_sp (n := 10) (And.intro h1 (And.intro h3 (And.intro h5 ((mj_X_wk (mj_le_n (mj_le_n (mj_le_s mj_le_0))) h9)))))
theorem mc_12011_61 {d : Nat} {Q : mj_O → mj_G → Prop} {G : mj_G} {x2 s1 : Int32} {t0 t2 t3 : Nat} {R : mj_G → Prop} (hk : mj_k G t3 = 12) (h1 : mj_X d 11000 0 [some (.inr (.inr (t3)))] [] G (fun o G1 => o = .inl none ∧ R G1)) (k : ∀ G1, R G1 → mj_X (d + 1) 12011 64 [none, none, some (.inl (x2))] [.inr (.inr (t2)), .inl (s1), .inr (.inr (t0))] G1 Q) : mj_X (d + 1) 12011 61 [none, none, some (.inl (x2))] [.inr (.inr (t3)), .inr (.inr (t2)), .inl (s1), .inr (.inr (t0))] G Q :=
  mj_X_callP rfl rfl rfl (Nat.le_of_ble_eq_true rfl) (And.intro (Nat.le_of_ble_eq_true rfl) hk) h1 (fun o G1 h => by
    obtain ⟨rfl, h⟩ := h
    exact mj_X_wk (mj_le_n (mj_le_n (mj_le_s mj_le_0))) (k G1 h))
theorem mk_12011_64 {d : Nat} {Q : mj_O → mj_G → Prop} {G : mj_G} {x2 s1 : Int32} {t0 t2 : Nat} {G1 : mj_G} (h1 : 30 ≤ mj_k (G) (t0)) (h2 : vp_in (s1) (mj_l (G) (t0))) (h3 : (t2) = 0 ∨ mj_k (G) (t2) + 29 = mj_k (G) (t0)) (h4 : G1 = mj_pR (G) (t0) (s1).toNatClampNeg (t2)) (h5 : mj_b (x2)) (h6 : Q (.inl (some (.inl (x2)))) (G1)) : mj_X d 12011 64 [none, none, some (.inl (x2))] [.inr (.inr (t2)), .inl (s1), .inr (.inr (t0))] G Q := by
  subst h4
  exact mj_X_sp (n := 2) (And.intro h1 (And.intro h2 (And.intro h3 (mj_X_ir rfl h5 h6))))
/-! 12012: TemplateQuarry.takeTyped()LTemplateQuarry$Value; -/
theorem mk_12012_0 {d : Nat} {Q : mj_O → mj_G → Prop} {G : mj_G} {v1 : Int32} {r0 v2 : Nat} {G1 : mj_G} (h1 : mj_k (G) (r0) = 13) (h2 : mj_i (G) (r0) 1 = v1) (h3 : mj_n (G) = v2) (h4 : G1 = mj_al (G) 12 (mj_N 11) (fun _ => 0)) (h5 : mj_X d 12012 14 [some (.inr (.inr (r0))), some (.inl (mj_mn (v1) ((Int8.ofInt (40)).toInt32))), none] [.inr (.inr (v2)), .inr (.inr (v2))] G1 Q) : mj_X d 12012 0 [some (.inr (.inr (r0))), none, none] [] G Q := by
  subst h2
  subst h3
  subst h4
  exact mj_X_sp (n := 7) (And.intro h1 (And.intro (Nat.le_of_ble_eq_true rfl) (h5)))
theorem mc_12012_14 {d : Nat} {Q : mj_O → mj_G → Prop} {G : mj_G} {x1 : Int32} {r0 t0 t1 : Nat} {R : mj_G → Prop} (hk : mj_k G t1 = 12) (h1 : mj_X d 11000 0 [some (.inr (.inr (t1)))] [] G (fun o G1 => o = .inl none ∧ R G1)) (k : ∀ G1, R G1 → mj_X (d + 1) 12012 17 [some (.inr (.inr (r0))), some (.inl (x1)), none] [.inr (.inr (t0))] G1 Q) : mj_X (d + 1) 12012 14 [some (.inr (.inr (r0))), some (.inl (x1)), none] [.inr (.inr (t1)), .inr (.inr (t0))] G Q :=
  mj_X_callP rfl rfl rfl (Nat.le_of_ble_eq_true rfl) (And.intro (Nat.le_of_ble_eq_true rfl) hk) h1 (fun o G1 h => by
    obtain ⟨rfl, h⟩ := h
    exact mj_X_wk (mj_le_s (mj_le_s (mj_le_n mj_le_0))) (k G1 h))
theorem mk_12012_17 {d : Nat} {Q : mj_O → mj_G → Prop} {G : mj_G} {x1 : Int32} {r0 t0 v1 : Nat} (h1 : mj_k (G) (r0) = 13) (h2 : mj_r (G) (r0) 0 = v1) (h3 : mj_X d 12012 25 [some (.inr (.inr (r0))), some (.inl (x1)), some (.inr (.inr (t0)))] [.inl (x1), .inl (Int32.ofInt (0)), .inr (.inr (v1)), .inr (.inr (t0))] G Q) : mj_X d 12012 17 [some (.inr (.inr (r0))), some (.inl (x1)), none] [.inr (.inr (t0))] G Q := by
  subst h2
  exact mj_X_sp (n := 6) (And.intro h1 (h3))
theorem mc_12012_25 {d : Nat} {Q : mj_O → mj_G → Prop} {G : mj_G} {x1 s2 s3 : Int32} {r0 r2 t0 t1 : Nat} {R : Nat → mj_G → Prop} (h1 : mj_X d 12031 0 [some (.inr (.inr (t1))), some (.inl (s2)), some (.inl (s3)), none] [] G (fun o G1 => ∃ v, o = .inl (some (.inr (.inr (v)))) ∧ R v G1)) (k : ∀ v G1, R v G1 → mj_X (d + 1) 12012 28 [some (.inr (.inr (r0))), some (.inl (x1)), some (.inr (.inr (r2)))] [.inr (.inr (v)), .inr (.inr (t0))] G1 Q) : mj_X (d + 1) 12012 25 [some (.inr (.inr (r0))), some (.inl (x1)), some (.inr (.inr (r2)))] [.inl (s3), .inl (s2), .inr (.inr (t1)), .inr (.inr (t0))] G Q :=
  mj_X_callP rfl rfl rfl (Nat.le_of_ble_eq_true rfl) (And.intro (Nat.le_of_ble_eq_true rfl) trivial) h1 (fun o G1 h => by
    obtain ⟨v, rfl, h⟩ := h
    exact mj_X_wk (mj_le_s (mj_le_s (mj_le_s mj_le_0))) (k v G1 h))
theorem mk_12012_28 {d : Nat} {Q : mj_O → mj_G → Prop} {G : mj_G} {x1 : Int32} {r0 r2 t0 t1 : Nat} (h1 : mj_X d 12012 30 [some (.inr (.inr (r0))), none, some (.inr (.inr (r2)))] [.inl (Int32.ofInt (0)), .inl (x1), .inr (.inr (t1)), .inr (.inr (t0))] G Q) : mj_X d 12012 28 [some (.inr (.inr (r0))), some (.inl (x1)), some (.inr (.inr (r2)))] [.inr (.inr (t1)), .inr (.inr (t0))] G Q := mj_X_sp (n := 2) ((mj_X_wk (mj_le_s (mj_le_n (mj_le_s mj_le_0))) h1))
theorem mc_12012_30 {d : Nat} {Q : mj_O → mj_G → Prop} {G : mj_G} {s2 s3 : Int32} {r0 r2 t0 t1 : Nat} {R : mj_G → Prop} (hk : mj_k G t0 = 12) (h1 : mj_X d 11003 0 [some (.inr (.inr (t0))), some (.inr (.inr (t1))), some (.inl (s2)), some (.inl (s3))] [] G (fun o G1 => o = .inl none ∧ R G1)) (k : ∀ G1, R G1 → mj_X (d + 1) 12012 33 [some (.inr (.inr (r0))), none, some (.inr (.inr (r2)))] [] G1 Q) : mj_X (d + 1) 12012 30 [some (.inr (.inr (r0))), none, some (.inr (.inr (r2)))] [.inl (s3), .inl (s2), .inr (.inr (t1)), .inr (.inr (t0))] G Q :=
  mj_X_callP rfl rfl rfl (Nat.le_of_ble_eq_true rfl) (And.intro (Nat.le_of_ble_eq_true rfl) hk) h1 (fun o G1 h => by
    obtain ⟨rfl, h⟩ := h
    exact mj_X_wk (mj_le_s (mj_le_n (mj_le_s mj_le_0))) (k G1 h))
theorem mk_12012_33 {d : Nat} {Q : mj_O → mj_G → Prop} {G : mj_G} {r0 r2 : Nat} {G1 : mj_G} (h1 : mj_k (G) (r0) = 13) (h2 : G1 = mj_pI (G) (r0) 1 (Int32.ofInt (0))) (h3 : Q (.inl (some (.inr (.inr (r2))))) (G1)) : mj_X d 12012 33 [some (.inr (.inr (r0))), none, some (.inr (.inr (r2)))] [] G Q := by
  subst h2
  exact mj_X_sp (n := 4) (And.intro trivial (And.intro h1 (And.intro trivial (And.intro trivial (mj_X_ar rfl rfl h3)))))
/-! 12013: TemplateQuarry.hasRoom(I)Z -/
theorem mk_12013_0 {d : Nat} {Q : mj_O → mj_G → Prop} {G : mj_G} {x1 v5 : Int32} {r0 v1 v2 v3 v4 : Nat} (h1 : mj_k (G) (r0) = 13) (h2 : mj_r (G) (r0) 3 = v1) (h3 : mj_k (G) (v1) = 9) (h4 : mj_r (G) (v1) 4 = v2) (h5 : mj_k (G) (v2) = 10) (h6 : mj_r (G) (v2) 0 = v3) (h7 : 30 ≤ mj_k (G) (v3)) (h8 : vp_in (x1) (mj_l (G) (v3))) (h9 : mj_r (G) (v3) (x1).toNatClampNeg = v4) (h10 : mj_k (G) (v4) = 12) (h11 : mj_i (G) (v4) 0 = v5) (h12 : ¬ (v5) = ((Int8.ofInt (8)).toInt32) → mj_X d 12013 36 [none, none, none] [] G Q) (h13 : (v5) = ((Int8.ofInt (8)).toInt32) → mj_X d 12013 22 [none, none, some (.inr (.inr (v4)))] [] G Q) : mj_X d 12013 0 [some (.inr (.inr (r0))), some (.inl (x1)), none] [] G Q := by
  subst h2
  subst h4
  subst h6
  subst h9
  subst h11
  exact mj_X_sp (n := 11) (And.intro h1 (And.intro h3 (And.intro h5 (And.intro h7 (And.intro h8 (And.intro h10 (And.intro (fun q => (mj_X_wk (mj_le_n (mj_le_n (mj_le_n mj_le_0))) (h12 q))) (fun q => (mj_X_wk (mj_le_n (mj_le_n (mj_le_s mj_le_0))) (h13 (Decidable.not_not.mp q)))))))))))
theorem mk_12013_22 {d : Nat} {Q : mj_O → mj_G → Prop} {G : mj_G} {v2 : Int32} {r2 v1 : Nat} (h1 : mj_k (G) (r2) = 12) (h2 : mj_r (G) (r2) 5 = v1) (h3 : 20 ≤ mj_k (G) (v1)) (h4 : Int32.ofNat (mj_l (G) (v1)) = v2) (h5 : ((Int8.ofInt (8)).toInt32) ≤ (v2) → mj_X d 12013 36 [none, none, none] [] G Q) (h6 : ¬ ((Int8.ofInt (8)).toInt32) ≤ (v2) → mj_X d 12013 32 [none, none, none] [] G Q) : mj_X d 12013 22 [none, none, some (.inr (.inr (r2)))] [] G Q := by
  subst h2
  subst h4
  exact mj_X_sp (n := 5) (And.intro h1 (And.intro h3 (And.intro (fun q => (mj_X_wk (mj_le_n (mj_le_n (mj_le_n mj_le_0))) (h5 q))) (fun q => (mj_X_wk (mj_le_n (mj_le_n (mj_le_n mj_le_0))) (h6 q))))))
theorem mk_12013_32 {d : Nat} {Q : mj_O → mj_G → Prop} {G : mj_G} (h1 : mj_X d 12013 37 [none, none, none] [.inl (Int32.ofInt (1))] G Q) : mj_X d 12013 32 [none, none, none] [] G Q := mj_X_sp (n := 2) (h1)
theorem mk_12013_36 {d : Nat} {Q : mj_O → mj_G → Prop} {G : mj_G} (h1 : mj_X d 12013 37 [none, none, none] [.inl (Int32.ofInt (0))] G Q) : mj_X d 12013 36 [none, none, none] [] G Q := mj_X_sp (n := 1) (h1)
theorem mk_12013_37 {d : Nat} {Q : mj_O → mj_G → Prop} {G : mj_G} {s0 : Int32} (h1 : mj_b (s0)) (h2 : Q (.inl (some (.inl (s0)))) (G)) : mj_X d 12013 37 [none, none, none] [.inl (s0)] G Q := mj_X_ir rfl h1 h2
/-! 12014: TemplateQuarry.append(ILTemplateQuarry$Value;)I -/
theorem mk_12014_0 {d : Nat} {Q : mj_O → mj_G → Prop} {G : mj_G} {x1 v6 : Int32} {r0 r2 v1 v2 v3 v4 v5 v7 : Nat} {G1 : mj_G} (h1 : mj_k (G) (r0) = 13) (h2 : mj_r (G) (r0) 3 = v1) (h3 : mj_k (G) (v1) = 9) (h4 : mj_r (G) (v1) 4 = v2) (h5 : mj_k (G) (v2) = 10) (h6 : mj_r (G) (v2) 0 = v3) (h7 : 30 ≤ mj_k (G) (v3)) (h8 : vp_in (x1) (mj_l (G) (v3))) (h9 : mj_r (G) (v3) (x1).toNatClampNeg = v4) (h10 : mj_k (G) (v4) = 12) (h11 : mj_r (G) (v4) 5 = v5) (h12 : 20 ≤ mj_k (G) (v5)) (h13 : Int32.ofNat (mj_l (G) (v5)) = v6) (h14 : ¬ ((v6) + (Int32.ofInt (1))) < 0) (h15 : ((v6) + (Int32.ofInt (1))).toNatClampNeg ≤ 1000000) (h16 : mj_n (G) = v7) (h17 : G1 = mj_al (G) 41 ((v6) + (Int32.ofInt (1))).toNatClampNeg (fun _ => 0)) (h18 : mj_X d 12014 28 [some (.inr (.inr (r0))), some (.inl (x1)), some (.inr (.inr (r2))), some (.inr (.inr (v5))), some (.inr (.inr (v7))), some (.inl (Int32.ofInt (0)))] [] G1 Q) : mj_X d 12014 0 [some (.inr (.inr (r0))), some (.inl (x1)), some (.inr (.inr (r2))), none, none, none] [] G Q := by
  subst h2
  subst h4
  subst h6
  subst h9
  subst h11
  subst h13
  subst h16
  subst h17
  exact mj_X_sp (n := 16) (And.intro h1 (And.intro h3 (And.intro h5 (And.intro h7 (And.intro h8 (And.intro h10 (And.intro h12 (And.intro h14 (And.intro h15 (h18))))))))))
theorem mk_12014_28 {d : Nat} {Q : mj_O → mj_G → Prop} {G : mj_G} {x1 x5 v1 : Int32} {r0 r2 r3 r4 : Nat} (h1 : 20 ≤ mj_k (G) (r3)) (h2 : Int32.ofNat (mj_l (G) (r3)) = v1) (h3 : (v1) ≤ (x5) → mj_X d 12014 50 [some (.inr (.inr (r0))), some (.inl (x1)), some (.inr (.inr (r2))), some (.inr (.inr (r3))), some (.inr (.inr (r4))), none] [] G Q) (h4 : ¬ (v1) ≤ (x5) → mj_X d 12014 35 [some (.inr (.inr (r0))), some (.inl (x1)), some (.inr (.inr (r2))), some (.inr (.inr (r3))), some (.inr (.inr (r4))), some (.inl (x5))] [] G Q) : mj_X d 12014 28 [some (.inr (.inr (r0))), some (.inl (x1)), some (.inr (.inr (r2))), some (.inr (.inr (r3))), some (.inr (.inr (r4))), some (.inl (x5))] [] G Q := by
  subst h2
  exact mj_X_sp (n := 4) (And.intro h1 (And.intro (fun q => (mj_X_wk (mj_le_s (mj_le_s (mj_le_s (mj_le_s (mj_le_s (mj_le_n mj_le_0)))))) (h3 q))) (fun q => (h4 q))))
theorem mk_12014_35 {d : Nat} {Q : mj_O → mj_G → Prop} {G : mj_G} {x1 x5 : Int32} {r0 r2 r3 r4 v1 : Nat} {G1 : mj_G} (h1 : 30 ≤ mj_k (G) (r3)) (h2 : vp_in (x5) (mj_l (G) (r3))) (h3 : mj_r (G) (r3) (x5).toNatClampNeg = v1) (h4 : 30 ≤ mj_k (G) (r4)) (h5 : vp_in (x5) (mj_l (G) (r4))) (h6 : (v1) = 0 ∨ mj_k (G) (v1) + 29 = mj_k (G) (r4)) (h7 : G1 = mj_pR (G) (r4) (x5).toNatClampNeg (v1)) (h8 : mj_X d 12014 28 [some (.inr (.inr (r0))), some (.inl (x1)), some (.inr (.inr (r2))), some (.inr (.inr (r3))), some (.inr (.inr (r4))), some (.inl ((x5) + Int32.ofInt (1)))] [] G1 Q) : mj_X d 12014 35 [some (.inr (.inr (r0))), some (.inl (x1)), some (.inr (.inr (r2))), some (.inr (.inr (r3))), some (.inr (.inr (r4))), some (.inl (x5))] [] G Q := by
  subst h3
  subst h7
  exact mj_X_sp (n := 8) (And.intro h1 (And.intro h2 (And.intro h4 (And.intro h5 (And.intro h6 (h8))))))
theorem mk_12014_50 {d : Nat} {Q : mj_O → mj_G → Prop} {G : mj_G} {x1 v1 : Int32} {r0 r2 r3 r4 v2 : Nat} {G1 G2 : mj_G} (h1 : 20 ≤ mj_k (G) (r3)) (h2 : Int32.ofNat (mj_l (G) (r3)) = v1) (h3 : 30 ≤ mj_k (G) (r4)) (h4 : vp_in (v1) (mj_l (G) (r4))) (h5 : (r2) = 0 ∨ mj_k (G) (r2) + 29 = mj_k (G) (r4)) (h6 : G1 = mj_pR (G) (r4) (v1).toNatClampNeg (r2)) (h7 : mj_n (G1) = v2) (h8 : G2 = mj_al (G1) 12 (mj_N 11) (fun _ => 0)) (h9 : mj_X d 12014 60 [some (.inr (.inr (r0))), some (.inl (x1)), none, none, some (.inr (.inr (r4))), none] [.inr (.inr (v2)), .inr (.inr (v2))] G2 Q) : mj_X d 12014 50 [some (.inr (.inr (r0))), some (.inl (x1)), some (.inr (.inr (r2))), some (.inr (.inr (r3))), some (.inr (.inr (r4))), none] [] G Q := by
  subst h2
  subst h6
  subst h7
  subst h8
  exact mj_X_sp (n := 7) (And.intro h1 (And.intro h3 (And.intro h4 (And.intro h5 ((mj_X_wk (mj_le_s (mj_le_s (mj_le_n (mj_le_n (mj_le_s (mj_le_n mj_le_0)))))) h9))))))
theorem mc_12014_60 {d : Nat} {Q : mj_O → mj_G → Prop} {G : mj_G} {x1 : Int32} {r0 r4 t0 t1 : Nat} {R : mj_G → Prop} (hk : mj_k G t1 = 12) (h1 : mj_X d 11000 0 [some (.inr (.inr (t1)))] [] G (fun o G1 => o = .inl none ∧ R G1)) (k : ∀ G1, R G1 → mj_X (d + 1) 12014 63 [some (.inr (.inr (r0))), some (.inl (x1)), none, none, some (.inr (.inr (r4))), none] [.inr (.inr (t0))] G1 Q) : mj_X (d + 1) 12014 60 [some (.inr (.inr (r0))), some (.inl (x1)), none, none, some (.inr (.inr (r4))), none] [.inr (.inr (t1)), .inr (.inr (t0))] G Q :=
  mj_X_callP rfl rfl rfl (Nat.le_of_ble_eq_true rfl) (And.intro (Nat.le_of_ble_eq_true rfl) hk) h1 (fun o G1 h => by
    obtain ⟨rfl, h⟩ := h
    exact mj_X_wk (mj_le_s (mj_le_s (mj_le_n (mj_le_n (mj_le_s (mj_le_n mj_le_0)))))) (k G1 h))
theorem mk_12014_63 {d : Nat} {Q : mj_O → mj_G → Prop} {G : mj_G} {x1 : Int32} {r0 r4 t0 : Nat} (h1 : mj_X d 12014 69 [some (.inr (.inr (r0))), some (.inl (x1)), none, none, some (.inr (.inr (r4))), some (.inr (.inr (t0)))] [.inr (.inr (r4)), .inr (.inr (t0))] G Q) : mj_X d 12014 63 [some (.inr (.inr (r0))), some (.inl (x1)), none, none, some (.inr (.inr (r4))), none] [.inr (.inr (t0))] G Q := mj_X_sp (n := 3) (h1)
theorem mc_12014_69 {d : Nat} {Q : mj_O → mj_G → Prop} {G : mj_G} {x1 : Int32} {r0 r4 r5 t0 t1 : Nat} {R : mj_G → Prop} (hk : mj_k G t0 = 12) (h1 : mj_X d 11004 0 [some (.inr (.inr (t0))), some (.inr (.inr (t1)))] [] G (fun o G1 => o = .inl none ∧ R G1)) (k : ∀ G1, R G1 → mj_X (d + 1) 12014 72 [some (.inr (.inr (r0))), some (.inl (x1)), none, none, some (.inr (.inr (r4))), some (.inr (.inr (r5)))] [] G1 Q) : mj_X (d + 1) 12014 69 [some (.inr (.inr (r0))), some (.inl (x1)), none, none, some (.inr (.inr (r4))), some (.inr (.inr (r5)))] [.inr (.inr (t1)), .inr (.inr (t0))] G Q :=
  mj_X_callP rfl rfl rfl (Nat.le_of_ble_eq_true rfl) (And.intro (Nat.le_of_ble_eq_true rfl) hk) h1 (fun o G1 h => by
    obtain ⟨rfl, h⟩ := h
    exact mj_X_wk (mj_le_s (mj_le_s (mj_le_n (mj_le_n (mj_le_s (mj_le_s mj_le_0)))))) (k G1 h))
theorem mk_12014_72 {d : Nat} {Q : mj_O → mj_G → Prop} {G : mj_G} {x1 v4 : Int32} {r0 r4 r5 v1 v2 v3 : Nat} {G1 : mj_G} (h1 : mj_k (G) (r0) = 13) (h2 : mj_r (G) (r0) 3 = v1) (h3 : mj_k (G) (v1) = 9) (h4 : mj_r (G) (v1) 4 = v2) (h5 : mj_k (G) (v2) = 10) (h6 : mj_r (G) (v2) 0 = v3) (h7 : 30 ≤ mj_k (G) (v3)) (h8 : vp_in (x1) (mj_l (G) (v3))) (h9 : (r5) = 0 ∨ mj_k (G) (r5) + 29 = mj_k (G) (v3)) (h10 : G1 = mj_pR (G) (v3) (x1).toNatClampNeg (r5)) (h11 : 20 ≤ mj_k (G1) (r4)) (h12 : Int32.ofNat (mj_l (G1) (r4)) = v4) (h13 : Q (.inl (some (.inl (v4)))) (G1)) : mj_X d 12014 72 [some (.inr (.inr (r0))), some (.inl (x1)), none, none, some (.inr (.inr (r4))), some (.inr (.inr (r5)))] [] G Q := by
  subst h2
  subst h4
  subst h6
  subst h10
  subst h12
  exact mj_X_sp (n := 9) (And.intro h1 (And.intro h3 (And.intro h5 (And.intro h7 (And.intro h8 (And.intro h9 (And.intro h11 (mj_X_ir rfl trivial h13))))))))
/-! 12015: TemplateQuarry.budget(I)I -/
theorem mk_12015_0 {d : Nat} {Q : mj_O → mj_G → Prop} {G : mj_G} {x1 : Int32} {r0 : Nat} (h1 : (x1) < (Int32.ofInt (1)) → mj_X d 12015 12 [none, none, none] [] G Q) (h2 : ¬ (x1) < (Int32.ofInt (1)) → mj_X d 12015 5 [some (.inr (.inr (r0))), some (.inl (x1)), none] [] G Q) : mj_X d 12015 0 [some (.inr (.inr (r0))), some (.inl (x1)), none] [] G Q := mj_X_sp (n := 3) (And.intro (fun q => (mj_X_wk (mj_le_n (mj_le_n (mj_le_n mj_le_0))) (h1 q))) (fun q => (h2 q)))
theorem mk_12015_5 {d : Nat} {Q : mj_O → mj_G → Prop} {G : mj_G} {x1 : Int32} {r0 : Nat} (h1 : (x1) ≤ ((Int16.ofInt (2000)).toInt32) → mj_X d 12015 20 [some (.inr (.inr (r0))), some (.inl (x1)), none] [] G Q) (h2 : ¬ (x1) ≤ ((Int16.ofInt (2000)).toInt32) → mj_X d 12015 12 [none, none, none] [] G Q) : mj_X d 12015 5 [some (.inr (.inr (r0))), some (.inl (x1)), none] [] G Q := mj_X_sp (n := 3) (And.intro (fun q => (h1 q)) (fun q => (mj_X_wk (mj_le_n (mj_le_n (mj_le_n mj_le_0))) (h2 q))))
theorem mk_12015_12 {d : Nat} {Q : mj_O → mj_G → Prop} {G : mj_G} (h1 : 8 ≤ d) (h2 : Q (.inr 15) (mj_al (G) 16 6 (fun _ => 0))) : mj_X d 12015 12 [none, none, none] [] G Q := mj_X_th (c := 15) rfl rfl rfl rfl h1 h2
theorem mk_12015_20 {d : Nat} {Q : mj_O → mj_G → Prop} {G : mj_G} {x1 v2 : Int32} {r0 v1 v3 : Nat} {G1 : mj_G} (h1 : mj_k (G) (r0) = 13) (h2 : mj_r (G) (r0) 3 = v1) (h3 : mj_k (G) (v1) = 9) (h4 : mj_i (G) (v1) 6 = v2) (h5 : mj_k (G) (r0) = 13) (h6 : mj_r (G) (r0) 3 = v3) (h7 : mj_k (G) (v3) = 9) (h8 : G1 = mj_pI (G) (v3) 6 (x1)) (h9 : Q (.inl (some (.inl (v2)))) (G1)) : mj_X d 12015 20 [some (.inr (.inr (r0))), some (.inl (x1)), none] [] G Q := by
  subst h2
  subst h4
  subst h6
  subst h8
  exact mj_X_sp (n := 9) (And.intro h1 (And.intro h3 (And.intro h5 (And.intro trivial (And.intro h7 (And.intro trivial (And.intro trivial (mj_X_ir rfl trivial h9))))))))
/-! 12016: TemplateQuarry.render(I)I -/
theorem mk_12016_0 {d : Nat} {Q : mj_O → mj_G → Prop} {G : mj_G} {x1 : Int32} {r0 : Nat} (h1 : (x1) < ((0 : Int32)) → mj_X d 12016 10 [none, none] [] G Q) (h2 : ¬ (x1) < ((0 : Int32)) → mj_X d 12016 4 [some (.inr (.inr (r0))), some (.inl (x1))] [] G Q) : mj_X d 12016 0 [some (.inr (.inr (r0))), some (.inl (x1))] [] G Q := mj_X_sp (n := 2) (And.intro (fun q => (mj_X_wk (mj_le_n (mj_le_n mj_le_0)) (h1 q))) (fun q => (h2 q)))
theorem mk_12016_4 {d : Nat} {Q : mj_O → mj_G → Prop} {G : mj_G} {x1 : Int32} {r0 : Nat} (h1 : (x1) < ((Int8.ofInt (10)).toInt32) → mj_X d 12016 18 [some (.inr (.inr (r0))), some (.inl (x1))] [] G Q) (h2 : ¬ (x1) < ((Int8.ofInt (10)).toInt32) → mj_X d 12016 10 [none, none] [] G Q) : mj_X d 12016 4 [some (.inr (.inr (r0))), some (.inl (x1))] [] G Q := mj_X_sp (n := 3) (And.intro (fun q => (h1 q)) (fun q => (mj_X_wk (mj_le_n (mj_le_n mj_le_0)) (h2 q))))
theorem mk_12016_10 {d : Nat} {Q : mj_O → mj_G → Prop} {G : mj_G} (h1 : 8 ≤ d) (h2 : Q (.inr 17) (mj_al (G) 18 6 (fun _ => 0))) : mj_X d 12016 10 [none, none] [] G Q := mj_X_th (c := 17) rfl rfl rfl rfl h1 h2
theorem mk_12016_18 {d : Nat} {Q : mj_O → mj_G → Prop} {G : mj_G} {x1 : Int32} {r0 v1 : Nat} (h1 : mj_k (G) (r0) = 13) (h2 : mj_r (G) (r0) 3 = v1) (h3 : mj_X d 12016 23 [none, none] [.inl (x1), .inr (.inr (v1))] G Q) : mj_X d 12016 18 [some (.inr (.inr (r0))), some (.inl (x1))] [] G Q := by
  subst h2
  exact mj_X_sp (n := 3) (And.intro h1 ((mj_X_wk (mj_le_n (mj_le_n mj_le_0)) h3)))
theorem mc_12016_23 {d : Nat} {Q : mj_O → mj_G → Prop} {G : mj_G} {s1 : Int32} {t0 : Nat} {R : Int32 → mj_G → Prop} (hk : mj_k G t0 = 9) (h1 : mj_X d 8002 0 [some (.inr (.inr (t0))), some (.inl (s1)), none, none, none, none] [] G (fun o G1 => ∃ v, o = .inl (some (.inl (v))) ∧ R v G1)) (k : ∀ v G1, R v G1 → mj_X (d + 1) 12016 26 [none, none] [.inl (v)] G1 Q) : mj_X (d + 1) 12016 23 [none, none] [.inl (s1), .inr (.inr (t0))] G Q :=
  mj_X_callP rfl rfl rfl (Nat.le_of_ble_eq_true rfl) (And.intro (Nat.le_of_ble_eq_true rfl) hk) h1 (fun o G1 h => by
    obtain ⟨v, rfl, h⟩ := h
    exact mj_X_wk (mj_le_n (mj_le_n mj_le_0)) (k v G1 h))
theorem mk_12016_26 {d : Nat} {Q : mj_O → mj_G → Prop} {G : mj_G} {s0 : Int32} (h1 : Q (.inl (some (.inl (s0)))) (G)) : mj_X d 12016 26 [none, none] [.inl (s0)] G Q := mj_X_ir rfl trivial h1
/-! 12017: TemplateQuarry.spent()I -/
theorem mk_12017_0 {d : Nat} {Q : mj_O → mj_G → Prop} {G : mj_G} {v2 : Int32} {r0 v1 : Nat} (h1 : mj_k (G) (r0) = 13) (h2 : mj_r (G) (r0) 3 = v1) (h3 : mj_k (G) (v1) = 9) (h4 : mj_i (G) (v1) 7 = v2) (h5 : Q (.inl (some (.inl (v2)))) (G)) : mj_X d 12017 0 [some (.inr (.inr (r0)))] [] G Q := by
  subst h2
  subst h4
  exact mj_X_sp (n := 3) (And.intro h1 (And.intro h3 (mj_X_ir rfl trivial h5)))
/-! 12018: TemplateQuarry.hits()I -/
theorem mk_12018_0 {d : Nat} {Q : mj_O → mj_G → Prop} {G : mj_G} {v2 : Int32} {r0 v1 : Nat} (h1 : mj_k (G) (r0) = 13) (h2 : mj_r (G) (r0) 3 = v1) (h3 : mj_k (G) (v1) = 9) (h4 : mj_i (G) (v1) 8 = v2) (h5 : Q (.inl (some (.inl (v2)))) (G)) : mj_X d 12018 0 [some (.inr (.inr (r0)))] [] G Q := by
  subst h2
  subst h4
  exact mj_X_sp (n := 3) (And.intro h1 (And.intro h3 (mj_X_ir rfl trivial h5)))
/-! 12019: TemplateQuarry.kept()I -/
theorem mk_12019_0 {d : Nat} {Q : mj_O → mj_G → Prop} {G : mj_G} {r0 : Nat} (h1 : mj_X d 12019 4 [some (.inr (.inr (r0))), some (.inl (Int32.ofInt (0))), some (.inl (Int32.ofInt (0)))] [] G Q) : mj_X d 12019 0 [some (.inr (.inr (r0))), none, none] [] G Q := mj_X_sp (n := 4) (h1)
theorem mk_12019_4 {d : Nat} {Q : mj_O → mj_G → Prop} {G : mj_G} {x1 x2 : Int32} {r0 : Nat} (h1 : ((Int8.ofInt (10)).toInt32) ≤ (x2) → mj_X d 12019 34 [none, some (.inl (x1)), none] [] G Q) (h2 : ¬ ((Int8.ofInt (10)).toInt32) ≤ (x2) → mj_X d 12019 10 [some (.inr (.inr (r0))), some (.inl (x1)), some (.inl (x2))] [] G Q) : mj_X d 12019 4 [some (.inr (.inr (r0))), some (.inl (x1)), some (.inl (x2))] [] G Q := mj_X_sp (n := 3) (And.intro (fun q => (mj_X_wk (mj_le_n (mj_le_s (mj_le_n mj_le_0))) (h1 q))) (fun q => (h2 q)))
theorem mk_12019_10 {d : Nat} {Q : mj_O → mj_G → Prop} {G : mj_G} {x1 x2 : Int32} {r0 v1 v2 v3 v4 : Nat} (h1 : mj_k (G) (r0) = 13) (h2 : mj_r (G) (r0) 3 = v1) (h3 : mj_k (G) (v1) = 9) (h4 : mj_r (G) (v1) 2 = v2) (h5 : 30 ≤ mj_k (G) (v2)) (h6 : vp_in (x2) (mj_l (G) (v2))) (h7 : mj_r (G) (v2) (x2).toNatClampNeg = v3) (h8 : mj_k (G) (v3) = 4) (h9 : mj_r (G) (v3) 0 = v4) (h10 : (v4) = 0 → mj_X d 12019 28 [some (.inr (.inr (r0))), some (.inl (x1)), some (.inl (x2))] [] G Q) (h11 : ¬ (v4) = 0 → mj_X d 12019 25 [some (.inr (.inr (r0))), some (.inl (x1)), some (.inl (x2))] [] G Q) : mj_X d 12019 10 [some (.inr (.inr (r0))), some (.inl (x1)), some (.inl (x2))] [] G Q := by
  subst h2
  subst h4
  subst h7
  subst h9
  exact mj_X_sp (n := 7) (And.intro h1 (And.intro h3 (And.intro h5 (And.intro h6 (And.intro h8 (And.intro (fun q => (h10 q)) (fun q => (h11 q))))))))
theorem mk_12019_25 {d : Nat} {Q : mj_O → mj_G → Prop} {G : mj_G} {x1 x2 : Int32} {r0 : Nat} (h1 : mj_X d 12019 28 [some (.inr (.inr (r0))), some (.inl ((x1) + Int32.ofInt (1))), some (.inl (x2))] [] G Q) : mj_X d 12019 25 [some (.inr (.inr (r0))), some (.inl (x1)), some (.inl (x2))] [] G Q := mj_X_sp (n := 1) (h1)
theorem mk_12019_28 {d : Nat} {Q : mj_O → mj_G → Prop} {G : mj_G} {x1 x2 : Int32} {r0 : Nat} (h1 : mj_X d 12019 4 [some (.inr (.inr (r0))), some (.inl (x1)), some (.inl ((x2) + Int32.ofInt (1)))] [] G Q) : mj_X d 12019 28 [some (.inr (.inr (r0))), some (.inl (x1)), some (.inl (x2))] [] G Q := mj_X_sp (n := 2) (h1)
theorem mk_12019_34 {d : Nat} {Q : mj_O → mj_G → Prop} {G : mj_G} {x1 : Int32} (h1 : Q (.inl (some (.inl (x1)))) (G)) : mj_X d 12019 34 [none, some (.inl (x1)), none] [] G Q := mj_X_sp (n := 1) (mj_X_ir rfl trivial h1)
/-! 12020: TemplateQuarry.out(I)C -/
theorem mk_12020_0 {d : Nat} {Q : mj_O → mj_G → Prop} {G : mj_G} {x1 : Int32} {r0 : Nat} (h1 : (x1) < ((0 : Int32)) → mj_X d 12020 18 [none, none] [] G Q) (h2 : ¬ (x1) < ((0 : Int32)) → mj_X d 12020 4 [some (.inr (.inr (r0))), some (.inl (x1))] [] G Q) : mj_X d 12020 0 [some (.inr (.inr (r0))), some (.inl (x1))] [] G Q := mj_X_sp (n := 2) (And.intro (fun q => (mj_X_wk (mj_le_n (mj_le_n mj_le_0)) (h1 q))) (fun q => (h2 q)))
theorem mk_12020_4 {d : Nat} {Q : mj_O → mj_G → Prop} {G : mj_G} {x1 v3 : Int32} {r0 v1 v2 : Nat} (h1 : mj_k (G) (r0) = 13) (h2 : mj_r (G) (r0) 3 = v1) (h3 : mj_k (G) (v1) = 9) (h4 : mj_r (G) (v1) 5 = v2) (h5 : mj_k (G) (v2) = 7) (h6 : mj_i (G) (v2) 1 = v3) (h7 : (x1) < (v3) → mj_X d 12020 26 [some (.inr (.inr (r0))), some (.inl (x1))] [] G Q) (h8 : ¬ (x1) < (v3) → mj_X d 12020 18 [none, none] [] G Q) : mj_X d 12020 4 [some (.inr (.inr (r0))), some (.inl (x1))] [] G Q := by
  subst h2
  subst h4
  subst h6
  exact mj_X_sp (n := 6) (And.intro h1 (And.intro h3 (And.intro h5 (And.intro (fun q => (h7 q)) (fun q => (mj_X_wk (mj_le_n (mj_le_n mj_le_0)) (h8 q)))))))
theorem mk_12020_18 {d : Nat} {Q : mj_O → mj_G → Prop} {G : mj_G} (h1 : 8 ≤ d) (h2 : Q (.inr 17) (mj_al (G) 18 6 (fun _ => 0))) : mj_X d 12020 18 [none, none] [] G Q := mj_X_th (c := 17) rfl rfl rfl rfl h1 h2
theorem mk_12020_26 {d : Nat} {Q : mj_O → mj_G → Prop} {G : mj_G} {x1 v4 : Int32} {r0 v1 v2 v3 : Nat} (h1 : mj_k (G) (r0) = 13) (h2 : mj_r (G) (r0) 3 = v1) (h3 : mj_k (G) (v1) = 9) (h4 : mj_r (G) (v1) 5 = v2) (h5 : mj_k (G) (v2) = 7) (h6 : mj_r (G) (v2) 0 = v3) (h7 : mj_k (G) (v3) = 20) (h8 : vp_in (x1) (mj_l (G) (v3))) (h9 : mj_i (G) (v3) (x1).toNatClampNeg = v4) (h10 : mj_X d 12020 38 [none, none] [.inl (v4)] G Q) : mj_X d 12020 26 [some (.inr (.inr (r0))), some (.inl (x1))] [] G Q := by
  subst h2
  subst h4
  subst h6
  subst h9
  exact mj_X_sp (n := 6) (And.intro h1 (And.intro h3 (And.intro h5 (And.intro h7 (And.intro h8 ((mj_X_wk (mj_le_n (mj_le_n mj_le_0)) h10)))))))
theorem mc_12020_38 {d : Nat} {Q : mj_O → mj_G → Prop} {G : mj_G} {s0 : Int32} {R : Int32 → mj_G → Prop} (h1 : mj_X d 12040 0 [some (.inl (s0))] [] G (fun o G1 => ∃ v, o = .inl (some (.inl (v))) ∧ R v G1)) (k : ∀ v G1, R v G1 → mj_X (d + 1) 12020 41 [none, none] [.inl (v)] G1 Q) : mj_X (d + 1) 12020 38 [none, none] [.inl (s0)] G Q :=
  mj_X_callP rfl rfl rfl (Nat.le_of_ble_eq_true rfl) (And.intro (Nat.le_of_ble_eq_true rfl) trivial) h1 (fun o G1 h => by
    obtain ⟨v, rfl, h⟩ := h
    exact mj_X_wk (mj_le_n (mj_le_n mj_le_0)) (k v G1 h))
theorem mk_12020_41 {d : Nat} {Q : mj_O → mj_G → Prop} {G : mj_G} {s0 : Int32} (h1 : mj_c (s0)) (h2 : Q (.inl (some (.inl (s0)))) (G)) : mj_X d 12020 41 [none, none] [.inl (s0)] G Q := mj_X_ir rfl h1 h2
/-! 12021: TemplateQuarry.outAnew(I)C -/
theorem mk_12021_0 {d : Nat} {Q : mj_O → mj_G → Prop} {G : mj_G} {x1 : Int32} {r0 : Nat} (h1 : (x1) < ((0 : Int32)) → mj_X d 12021 18 [none, none, none, none] [] G Q) (h2 : ¬ (x1) < ((0 : Int32)) → mj_X d 12021 4 [some (.inr (.inr (r0))), some (.inl (x1)), none, none] [] G Q) : mj_X d 12021 0 [some (.inr (.inr (r0))), some (.inl (x1)), none, none] [] G Q := mj_X_sp (n := 2) (And.intro (fun q => (mj_X_wk (mj_le_n (mj_le_n (mj_le_n (mj_le_n mj_le_0)))) (h1 q))) (fun q => (h2 q)))
theorem mk_12021_4 {d : Nat} {Q : mj_O → mj_G → Prop} {G : mj_G} {x1 v3 : Int32} {r0 v1 v2 : Nat} (h1 : mj_k (G) (r0) = 13) (h2 : mj_r (G) (r0) 3 = v1) (h3 : mj_k (G) (v1) = 9) (h4 : mj_r (G) (v1) 5 = v2) (h5 : mj_k (G) (v2) = 7) (h6 : mj_i (G) (v2) 1 = v3) (h7 : (x1) < (v3) → mj_X d 12021 26 [some (.inr (.inr (r0))), some (.inl (x1)), none, none] [] G Q) (h8 : ¬ (x1) < (v3) → mj_X d 12021 18 [none, none, none, none] [] G Q) : mj_X d 12021 4 [some (.inr (.inr (r0))), some (.inl (x1)), none, none] [] G Q := by
  subst h2
  subst h4
  subst h6
  exact mj_X_sp (n := 6) (And.intro h1 (And.intro h3 (And.intro h5 (And.intro (fun q => (h7 q)) (fun q => (mj_X_wk (mj_le_n (mj_le_n (mj_le_n (mj_le_n mj_le_0)))) (h8 q)))))))
theorem mk_12021_18 {d : Nat} {Q : mj_O → mj_G → Prop} {G : mj_G} (h1 : 8 ≤ d) (h2 : Q (.inr 17) (mj_al (G) 18 6 (fun _ => 0))) : mj_X d 12021 18 [none, none, none, none] [] G Q := mj_X_th (c := 17) rfl rfl rfl rfl h1 h2
theorem mk_12021_26 {d : Nat} {Q : mj_O → mj_G → Prop} {G : mj_G} {x1 : Int32} {r0 : Nat} (h1 : mj_X d 12021 30 [some (.inr (.inr (r0))), some (.inl (x1)), some (.inl (Int32.ofInt (0))), some (.inl (Int32.ofInt (0)))] [] G Q) : mj_X d 12021 26 [some (.inr (.inr (r0))), some (.inl (x1)), none, none] [] G Q := mj_X_sp (n := 4) (h1)
theorem mk_12021_30 {d : Nat} {Q : mj_O → mj_G → Prop} {G : mj_G} {x1 x2 x3 : Int32} {r0 : Nat} (h1 : (x1) ≤ (x3) → mj_X d 12021 61 [some (.inr (.inr (r0))), some (.inl (x1)), some (.inl (x2)), none] [] G Q) (h2 : ¬ (x1) ≤ (x3) → mj_X d 12021 35 [some (.inr (.inr (r0))), some (.inl (x1)), some (.inl (x2)), some (.inl (x3))] [] G Q) : mj_X d 12021 30 [some (.inr (.inr (r0))), some (.inl (x1)), some (.inl (x2)), some (.inl (x3))] [] G Q := mj_X_sp (n := 3) (And.intro (fun q => (mj_X_wk (mj_le_s (mj_le_s (mj_le_s (mj_le_n mj_le_0)))) (h1 q))) (fun q => (h2 q)))
theorem mk_12021_35 {d : Nat} {Q : mj_O → mj_G → Prop} {G : mj_G} {x1 x2 x3 v4 : Int32} {r0 v1 v2 v3 : Nat} (h1 : mj_k (G) (r0) = 13) (h2 : mj_r (G) (r0) 3 = v1) (h3 : mj_k (G) (v1) = 9) (h4 : mj_r (G) (v1) 5 = v2) (h5 : mj_k (G) (v2) = 7) (h6 : mj_r (G) (v2) 0 = v3) (h7 : mj_k (G) (v3) = 20) (h8 : vp_in (x3) (mj_l (G) (v3))) (h9 : mj_i (G) (v3) (x3).toNatClampNeg = v4) (h10 : mj_X d 12021 48 [some (.inr (.inr (r0))), some (.inl (x1)), none, some (.inl (x3))] [.inl (v4), .inl (x2)] G Q) : mj_X d 12021 35 [some (.inr (.inr (r0))), some (.inl (x1)), some (.inl (x2)), some (.inl (x3))] [] G Q := by
  subst h2
  subst h4
  subst h6
  subst h9
  exact mj_X_sp (n := 7) (And.intro h1 (And.intro h3 (And.intro h5 (And.intro h7 (And.intro h8 ((mj_X_wk (mj_le_s (mj_le_s (mj_le_n (mj_le_s mj_le_0)))) h10)))))))
theorem mc_12021_48 {d : Nat} {Q : mj_O → mj_G → Prop} {G : mj_G} {x1 x3 s0 s1 : Int32} {r0 : Nat} {R : Int32 → mj_G → Prop} (h1 : mj_X d 12040 0 [some (.inl (s1))] [] G (fun o G1 => ∃ v, o = .inl (some (.inl (v))) ∧ R v G1)) (k : ∀ v G1, R v G1 → mj_X (d + 1) 12021 51 [some (.inr (.inr (r0))), some (.inl (x1)), none, some (.inl (x3))] [.inl (v), .inl (s0)] G1 Q) : mj_X (d + 1) 12021 48 [some (.inr (.inr (r0))), some (.inl (x1)), none, some (.inl (x3))] [.inl (s1), .inl (s0)] G Q :=
  mj_X_callP rfl rfl rfl (Nat.le_of_ble_eq_true rfl) (And.intro (Nat.le_of_ble_eq_true rfl) trivial) h1 (fun o G1 h => by
    obtain ⟨v, rfl, h⟩ := h
    exact mj_X_wk (mj_le_s (mj_le_s (mj_le_n (mj_le_s mj_le_0)))) (k v G1 h))
theorem mc_12021_51 {d : Nat} {Q : mj_O → mj_G → Prop} {G : mj_G} {x1 x3 s0 s1 : Int32} {r0 : Nat} {R : Int32 → mj_G → Prop} (h1 : mj_X d 12033 0 [some (.inl (s0)), some (.inl (s1))] [] G (fun o G1 => ∃ v, o = .inl (some (.inl (v))) ∧ R v G1)) (k : ∀ v G1, R v G1 → mj_X (d + 1) 12021 54 [some (.inr (.inr (r0))), some (.inl (x1)), none, some (.inl (x3))] [.inl (v)] G1 Q) : mj_X (d + 1) 12021 51 [some (.inr (.inr (r0))), some (.inl (x1)), none, some (.inl (x3))] [.inl (s1), .inl (s0)] G Q :=
  mj_X_callP rfl rfl rfl (Nat.le_of_ble_eq_true rfl) (And.intro (Nat.le_of_ble_eq_true rfl) trivial) h1 (fun o G1 h => by
    obtain ⟨v, rfl, h⟩ := h
    exact mj_X_wk (mj_le_s (mj_le_s (mj_le_n (mj_le_s mj_le_0)))) (k v G1 h))
theorem mk_12021_54 {d : Nat} {Q : mj_O → mj_G → Prop} {G : mj_G} {x1 x3 s0 : Int32} {r0 : Nat} (h1 : mj_X d 12021 30 [some (.inr (.inr (r0))), some (.inl (x1)), some (.inl (s0)), some (.inl ((x3) + Int32.ofInt (1)))] [] G Q) : mj_X d 12021 54 [some (.inr (.inr (r0))), some (.inl (x1)), none, some (.inl (x3))] [.inl (s0)] G Q := mj_X_sp (n := 3) (h1)
theorem mk_12021_61 {d : Nat} {Q : mj_O → mj_G → Prop} {G : mj_G} {x1 x2 v4 : Int32} {r0 v1 v2 v3 : Nat} (h1 : mj_k (G) (r0) = 13) (h2 : mj_r (G) (r0) 3 = v1) (h3 : mj_k (G) (v1) = 9) (h4 : mj_r (G) (v1) 5 = v2) (h5 : mj_k (G) (v2) = 7) (h6 : mj_r (G) (v2) 0 = v3) (h7 : mj_k (G) (v3) = 20) (h8 : vp_in (x1) (mj_l (G) (v3))) (h9 : mj_i (G) (v3) (x1).toNatClampNeg = v4) (h10 : mj_X d 12021 75 [none, none, some (.inl (x2)), some (.inl (v4))] [.inl (v4)] G Q) : mj_X d 12021 61 [some (.inr (.inr (r0))), some (.inl (x1)), some (.inl (x2)), none] [] G Q := by
  subst h2
  subst h4
  subst h6
  subst h9
  exact mj_X_sp (n := 8) (And.intro h1 (And.intro h3 (And.intro h5 (And.intro h7 (And.intro h8 ((mj_X_wk (mj_le_n (mj_le_n (mj_le_s (mj_le_s mj_le_0)))) h10)))))))
theorem mc_12021_75 {d : Nat} {Q : mj_O → mj_G → Prop} {G : mj_G} {x2 x3 s0 : Int32} {R : Int32 → mj_G → Prop} (h1 : mj_X d 12043 0 [some (.inl (s0))] [] G (fun o G1 => ∃ v, o = .inl (some (.inl (v))) ∧ R v G1)) (k : ∀ v G1, R v G1 → mj_X (d + 1) 12021 78 [none, none, some (.inl (x2)), some (.inl (x3))] [.inl (v)] G1 Q) : mj_X (d + 1) 12021 75 [none, none, some (.inl (x2)), some (.inl (x3))] [.inl (s0)] G Q :=
  mj_X_callP rfl rfl rfl (Nat.le_of_ble_eq_true rfl) (And.intro (Nat.le_of_ble_eq_true rfl) trivial) h1 (fun o G1 h => by
    obtain ⟨v, rfl, h⟩ := h
    exact mj_X_wk (mj_le_n (mj_le_n (mj_le_s (mj_le_s mj_le_0)))) (k v G1 h))
theorem mk_12021_78 {d : Nat} {Q : mj_O → mj_G → Prop} {G : mj_G} {x2 x3 s0 : Int32} (h1 : (s0) = ((0 : Int32)) → mj_X d 12021 94 [none, none, none, some (.inl (x3))] [] G Q) (h2 : ¬ (s0) = ((0 : Int32)) → mj_X d 12021 81 [none, none, some (.inl (x2)), some (.inl (x3))] [] G Q) : mj_X d 12021 78 [none, none, some (.inl (x2)), some (.inl (x3))] [.inl (s0)] G Q := mj_X_sp (n := 1) (And.intro (fun q => (mj_X_wk (mj_le_n (mj_le_n (mj_le_n (mj_le_s mj_le_0)))) (h1 q))) (fun q => (h2 q)))
theorem mk_12021_81 {d : Nat} {Q : mj_O → mj_G → Prop} {G : mj_G} {x2 x3 : Int32} (h1 : mj_X d 12021 82 [none, none, some (.inl (x2)), some (.inl (x3))] [.inl (x3)] G Q) : mj_X d 12021 81 [none, none, some (.inl (x2)), some (.inl (x3))] [] G Q := mj_X_sp (n := 1) (h1)
theorem mc_12021_82 {d : Nat} {Q : mj_O → mj_G → Prop} {G : mj_G} {x2 x3 s0 : Int32} {R : Int32 → mj_G → Prop} (h1 : mj_X d 12041 0 [some (.inl (s0))] [] G (fun o G1 => ∃ v, o = .inl (some (.inl (v))) ∧ R v G1)) (k : ∀ v G1, R v G1 → mj_X (d + 1) 12021 85 [none, none, some (.inl (x2)), some (.inl (x3))] [.inl (v)] G1 Q) : mj_X (d + 1) 12021 82 [none, none, some (.inl (x2)), some (.inl (x3))] [.inl (s0)] G Q :=
  mj_X_callP rfl rfl rfl (Nat.le_of_ble_eq_true rfl) (And.intro (Nat.le_of_ble_eq_true rfl) trivial) h1 (fun o G1 h => by
    obtain ⟨v, rfl, h⟩ := h
    exact mj_X_wk (mj_le_n (mj_le_n (mj_le_s (mj_le_s mj_le_0)))) (k v G1 h))
theorem mk_12021_85 {d : Nat} {Q : mj_O → mj_G → Prop} {G : mj_G} {x2 x3 s0 : Int32} (h1 : mj_X d 12021 87 [none, none, none, none] [.inl (x3), .inl (x2), .inl (s0)] G Q) : mj_X d 12021 85 [none, none, some (.inl (x2)), some (.inl (x3))] [.inl (s0)] G Q := mj_X_sp (n := 2) ((mj_X_wk (mj_le_n (mj_le_n (mj_le_n (mj_le_n mj_le_0)))) h1))
theorem mc_12021_87 {d : Nat} {Q : mj_O → mj_G → Prop} {G : mj_G} {s0 s1 s2 : Int32} {R : Int32 → mj_G → Prop} (h1 : mj_X d 12044 0 [some (.inl (s2))] [] G (fun o G1 => ∃ v, o = .inl (some (.inl (v))) ∧ R v G1)) (k : ∀ v G1, R v G1 → mj_X (d + 1) 12021 90 [none, none, none, none] [.inl (v), .inl (s1), .inl (s0)] G1 Q) : mj_X (d + 1) 12021 87 [none, none, none, none] [.inl (s2), .inl (s1), .inl (s0)] G Q :=
  mj_X_callP rfl rfl rfl (Nat.le_of_ble_eq_true rfl) (And.intro (Nat.le_of_ble_eq_true rfl) trivial) h1 (fun o G1 h => by
    obtain ⟨v, rfl, h⟩ := h
    exact mj_X_wk (mj_le_n (mj_le_n (mj_le_n (mj_le_n mj_le_0)))) (k v G1 h))
theorem mc_12021_90 {d : Nat} {Q : mj_O → mj_G → Prop} {G : mj_G} {s0 s1 s2 : Int32} {R : Int32 → mj_G → Prop} (h1 : mj_X d 12035 0 [some (.inl (s0)), some (.inl (s1)), some (.inl (s2)), none] [] G (fun o G1 => ∃ v, o = .inl (some (.inl (v))) ∧ R v G1)) (k : ∀ v G1, R v G1 → mj_X (d + 1) 12021 93 [none, none, none, none] [.inl (v)] G1 Q) : mj_X (d + 1) 12021 90 [none, none, none, none] [.inl (s2), .inl (s1), .inl (s0)] G Q :=
  mj_X_callP rfl rfl rfl (Nat.le_of_ble_eq_true rfl) (And.intro (Nat.le_of_ble_eq_true rfl) trivial) h1 (fun o G1 h => by
    obtain ⟨v, rfl, h⟩ := h
    exact mj_X_wk (mj_le_n (mj_le_n (mj_le_n (mj_le_n mj_le_0)))) (k v G1 h))
theorem mk_12021_93 {d : Nat} {Q : mj_O → mj_G → Prop} {G : mj_G} {s0 : Int32} (h1 : mj_c (s0)) (h2 : Q (.inl (some (.inl (s0)))) (G)) : mj_X d 12021 93 [none, none, none, none] [.inl (s0)] G Q := mj_X_ir rfl h1 h2
theorem mk_12021_94 {d : Nat} {Q : mj_O → mj_G → Prop} {G : mj_G} {x3 : Int32} (h1 : mj_X d 12021 95 [none, none, none, none] [.inl (x3)] G Q) : mj_X d 12021 94 [none, none, none, some (.inl (x3))] [] G Q := mj_X_sp (n := 1) ((mj_X_wk (mj_le_n (mj_le_n (mj_le_n (mj_le_n mj_le_0)))) h1))
theorem mc_12021_95 {d : Nat} {Q : mj_O → mj_G → Prop} {G : mj_G} {s0 : Int32} {R : Int32 → mj_G → Prop} (h1 : mj_X d 12041 0 [some (.inl (s0))] [] G (fun o G1 => ∃ v, o = .inl (some (.inl (v))) ∧ R v G1)) (k : ∀ v G1, R v G1 → mj_X (d + 1) 12021 98 [none, none, none, none] [.inl (v)] G1 Q) : mj_X (d + 1) 12021 95 [none, none, none, none] [.inl (s0)] G Q :=
  mj_X_callP rfl rfl rfl (Nat.le_of_ble_eq_true rfl) (And.intro (Nat.le_of_ble_eq_true rfl) trivial) h1 (fun o G1 h => by
    obtain ⟨v, rfl, h⟩ := h
    exact mj_X_wk (mj_le_n (mj_le_n (mj_le_n (mj_le_n mj_le_0)))) (k v G1 h))
theorem mk_12021_98 {d : Nat} {Q : mj_O → mj_G → Prop} {G : mj_G} {s0 : Int32} (h1 : mj_c (s0)) (h2 : Q (.inl (some (.inl (s0)))) (G)) : mj_X d 12021 98 [none, none, none, none] [.inl (s0)] G Q := mj_X_ir rfl h1 h2
/-! 12022: TemplateQuarry.source(I)I -/
theorem mk_12022_0 {d : Nat} {Q : mj_O → mj_G → Prop} {G : mj_G} {x1 : Int32} {r0 : Nat} (h1 : (x1) < ((0 : Int32)) → mj_X d 12022 18 [none, none] [] G Q) (h2 : ¬ (x1) < ((0 : Int32)) → mj_X d 12022 4 [some (.inr (.inr (r0))), some (.inl (x1))] [] G Q) : mj_X d 12022 0 [some (.inr (.inr (r0))), some (.inl (x1))] [] G Q := mj_X_sp (n := 2) (And.intro (fun q => (mj_X_wk (mj_le_n (mj_le_n mj_le_0)) (h1 q))) (fun q => (h2 q)))
theorem mk_12022_4 {d : Nat} {Q : mj_O → mj_G → Prop} {G : mj_G} {x1 v3 : Int32} {r0 v1 v2 : Nat} (h1 : mj_k (G) (r0) = 13) (h2 : mj_r (G) (r0) 3 = v1) (h3 : mj_k (G) (v1) = 9) (h4 : mj_r (G) (v1) 5 = v2) (h5 : mj_k (G) (v2) = 7) (h6 : mj_i (G) (v2) 1 = v3) (h7 : (x1) < (v3) → mj_X d 12022 26 [some (.inr (.inr (r0))), some (.inl (x1))] [] G Q) (h8 : ¬ (x1) < (v3) → mj_X d 12022 18 [none, none] [] G Q) : mj_X d 12022 4 [some (.inr (.inr (r0))), some (.inl (x1))] [] G Q := by
  subst h2
  subst h4
  subst h6
  exact mj_X_sp (n := 6) (And.intro h1 (And.intro h3 (And.intro h5 (And.intro (fun q => (h7 q)) (fun q => (mj_X_wk (mj_le_n (mj_le_n mj_le_0)) (h8 q)))))))
theorem mk_12022_18 {d : Nat} {Q : mj_O → mj_G → Prop} {G : mj_G} (h1 : 8 ≤ d) (h2 : Q (.inr 17) (mj_al (G) 18 6 (fun _ => 0))) : mj_X d 12022 18 [none, none] [] G Q := mj_X_th (c := 17) rfl rfl rfl rfl h1 h2
theorem mk_12022_26 {d : Nat} {Q : mj_O → mj_G → Prop} {G : mj_G} {x1 v4 : Int32} {r0 v1 v2 v3 : Nat} (h1 : mj_k (G) (r0) = 13) (h2 : mj_r (G) (r0) 3 = v1) (h3 : mj_k (G) (v1) = 9) (h4 : mj_r (G) (v1) 5 = v2) (h5 : mj_k (G) (v2) = 7) (h6 : mj_r (G) (v2) 0 = v3) (h7 : mj_k (G) (v3) = 20) (h8 : vp_in (x1) (mj_l (G) (v3))) (h9 : mj_i (G) (v3) (x1).toNatClampNeg = v4) (h10 : mj_X d 12022 38 [none, none] [.inl (v4)] G Q) : mj_X d 12022 26 [some (.inr (.inr (r0))), some (.inl (x1))] [] G Q := by
  subst h2
  subst h4
  subst h6
  subst h9
  exact mj_X_sp (n := 6) (And.intro h1 (And.intro h3 (And.intro h5 (And.intro h7 (And.intro h8 ((mj_X_wk (mj_le_n (mj_le_n mj_le_0)) h10)))))))
theorem mc_12022_38 {d : Nat} {Q : mj_O → mj_G → Prop} {G : mj_G} {s0 : Int32} {R : Int32 → mj_G → Prop} (h1 : mj_X d 12045 0 [some (.inl (s0))] [] G (fun o G1 => ∃ v, o = .inl (some (.inl (v))) ∧ R v G1)) (k : ∀ v G1, R v G1 → mj_X (d + 1) 12022 41 [none, none] [.inl (v)] G1 Q) : mj_X (d + 1) 12022 38 [none, none] [.inl (s0)] G Q :=
  mj_X_callP rfl rfl rfl (Nat.le_of_ble_eq_true rfl) (And.intro (Nat.le_of_ble_eq_true rfl) trivial) h1 (fun o G1 h => by
    obtain ⟨v, rfl, h⟩ := h
    exact mj_X_wk (mj_le_n (mj_le_n mj_le_0)) (k v G1 h))
theorem mk_12022_41 {d : Nat} {Q : mj_O → mj_G → Prop} {G : mj_G} {s0 : Int32} (h1 : Q (.inl (some (.inl (s0)))) (G)) : mj_X d 12022 41 [none, none] [.inl (s0)] G Q := mj_X_ir rfl trivial h1
/-! 12023: TemplateQuarry.context(I)I -/
theorem mk_12023_0 {d : Nat} {Q : mj_O → mj_G → Prop} {G : mj_G} {x1 : Int32} {r0 : Nat} (h1 : (x1) < ((0 : Int32)) → mj_X d 12023 18 [none, none] [] G Q) (h2 : ¬ (x1) < ((0 : Int32)) → mj_X d 12023 4 [some (.inr (.inr (r0))), some (.inl (x1))] [] G Q) : mj_X d 12023 0 [some (.inr (.inr (r0))), some (.inl (x1))] [] G Q := mj_X_sp (n := 2) (And.intro (fun q => (mj_X_wk (mj_le_n (mj_le_n mj_le_0)) (h1 q))) (fun q => (h2 q)))
theorem mk_12023_4 {d : Nat} {Q : mj_O → mj_G → Prop} {G : mj_G} {x1 v3 : Int32} {r0 v1 v2 : Nat} (h1 : mj_k (G) (r0) = 13) (h2 : mj_r (G) (r0) 3 = v1) (h3 : mj_k (G) (v1) = 9) (h4 : mj_r (G) (v1) 5 = v2) (h5 : mj_k (G) (v2) = 7) (h6 : mj_i (G) (v2) 1 = v3) (h7 : (x1) ≤ (v3) → mj_X d 12023 26 [some (.inr (.inr (r0))), some (.inl (x1))] [] G Q) (h8 : ¬ (x1) ≤ (v3) → mj_X d 12023 18 [none, none] [] G Q) : mj_X d 12023 4 [some (.inr (.inr (r0))), some (.inl (x1))] [] G Q := by
  subst h2
  subst h4
  subst h6
  exact mj_X_sp (n := 6) (And.intro h1 (And.intro h3 (And.intro h5 (And.intro (fun q => (h7 q)) (fun q => (mj_X_wk (mj_le_n (mj_le_n mj_le_0)) (h8 q)))))))
theorem mk_12023_18 {d : Nat} {Q : mj_O → mj_G → Prop} {G : mj_G} (h1 : 8 ≤ d) (h2 : Q (.inr 17) (mj_al (G) 18 6 (fun _ => 0))) : mj_X d 12023 18 [none, none] [] G Q := mj_X_th (c := 17) rfl rfl rfl rfl h1 h2
theorem mk_12023_26 {d : Nat} {Q : mj_O → mj_G → Prop} {G : mj_G} {x1 v4 : Int32} {r0 v1 v2 v3 : Nat} (h1 : mj_k (G) (r0) = 13) (h2 : mj_r (G) (r0) 3 = v1) (h3 : mj_k (G) (v1) = 9) (h4 : mj_r (G) (v1) 5 = v2) (h5 : mj_k (G) (v2) = 7) (h6 : mj_r (G) (v2) 4 = v3) (h7 : mj_k (G) (v3) = 20) (h8 : vp_in (x1) (mj_l (G) (v3))) (h9 : mj_i (G) (v3) (x1).toNatClampNeg = v4) (h10 : Q (.inl (some (.inl (v4)))) (G)) : mj_X d 12023 26 [some (.inr (.inr (r0))), some (.inl (x1))] [] G Q := by
  subst h2
  subst h4
  subst h6
  subst h9
  exact mj_X_sp (n := 6) (And.intro h1 (And.intro h3 (And.intro h5 (And.intro h7 (And.intro h8 (mj_X_ir rfl trivial h10))))))
/-! 12024: TemplateQuarry.alike()I -/
theorem mk_12024_0 {d : Nat} {Q : mj_O → mj_G → Prop} {G : mj_G} {r0 v1 v2 : Nat} (h1 : mj_k (G) (r0) = 13) (h2 : mj_r (G) (r0) 3 = v1) (h3 : mj_k (G) (v1) = 9) (h4 : mj_r (G) (v1) 5 = v2) (h5 : mj_X d 12024 7 [none] [.inr (.inr (v2))] G Q) : mj_X d 12024 0 [some (.inr (.inr (r0)))] [] G Q := by
  subst h2
  subst h4
  exact mj_X_sp (n := 3) (And.intro h1 (And.intro h3 ((mj_X_wk (mj_le_n mj_le_0) h5))))
theorem mc_12024_7 {d : Nat} {Q : mj_O → mj_G → Prop} {G : mj_G} {t0 : Nat} {R : Int32 → mj_G → Prop} (hk : mj_k G t0 = 7) (h1 : mj_X d 6015 0 [some (.inr (.inr (t0))), none, none] [] G (fun o G1 => ∃ v, o = .inl (some (.inl (v))) ∧ R v G1)) (k : ∀ v G1, R v G1 → mj_X (d + 1) 12024 10 [none] [.inl (v)] G1 Q) : mj_X (d + 1) 12024 7 [none] [.inr (.inr (t0))] G Q :=
  mj_X_callP rfl rfl rfl (Nat.le_of_ble_eq_true rfl) (And.intro (Nat.le_of_ble_eq_true rfl) hk) h1 (fun o G1 h => by
    obtain ⟨v, rfl, h⟩ := h
    exact mj_X_wk (mj_le_n mj_le_0) (k v G1 h))
theorem mk_12024_10 {d : Nat} {Q : mj_O → mj_G → Prop} {G : mj_G} {s0 : Int32} (h1 : Q (.inl (some (.inl (s0)))) (G)) : mj_X d 12024 10 [none] [.inl (s0)] G Q := mj_X_ir rfl trivial h1
/-! 12025: TemplateQuarry.alikeAtEnd()I -/
theorem mk_12025_0 {d : Nat} {Q : mj_O → mj_G → Prop} {G : mj_G} {r0 v1 v2 : Nat} (h1 : mj_k (G) (r0) = 13) (h2 : mj_r (G) (r0) 3 = v1) (h3 : mj_k (G) (v1) = 9) (h4 : mj_r (G) (v1) 5 = v2) (h5 : mj_X d 12025 7 [none] [.inr (.inr (v2))] G Q) : mj_X d 12025 0 [some (.inr (.inr (r0)))] [] G Q := by
  subst h2
  subst h4
  exact mj_X_sp (n := 3) (And.intro h1 (And.intro h3 ((mj_X_wk (mj_le_n mj_le_0) h5))))
theorem mc_12025_7 {d : Nat} {Q : mj_O → mj_G → Prop} {G : mj_G} {t0 : Nat} {R : Int32 → mj_G → Prop} (hk : mj_k G t0 = 7) (h1 : mj_X d 6016 0 [some (.inr (.inr (t0))), none, none] [] G (fun o G1 => ∃ v, o = .inl (some (.inl (v))) ∧ R v G1)) (k : ∀ v G1, R v G1 → mj_X (d + 1) 12025 10 [none] [.inl (v)] G1 Q) : mj_X (d + 1) 12025 7 [none] [.inr (.inr (t0))] G Q :=
  mj_X_callP rfl rfl rfl (Nat.le_of_ble_eq_true rfl) (And.intro (Nat.le_of_ble_eq_true rfl) hk) h1 (fun o G1 h => by
    obtain ⟨v, rfl, h⟩ := h
    exact mj_X_wk (mj_le_n mj_le_0) (k v G1 h))
theorem mk_12025_10 {d : Nat} {Q : mj_O → mj_G → Prop} {G : mj_G} {s0 : Int32} (h1 : Q (.inl (some (.inl (s0)))) (G)) : mj_X d 12025 10 [none] [.inl (s0)] G Q := mj_X_ir rfl trivial h1
/-! 12026: TemplateQuarry.mayEnd(I)I -/
theorem mk_12026_0 {d : Nat} {Q : mj_O → mj_G → Prop} {G : mj_G} {x1 : Int32} {r0 : Nat} (h1 : (x1) < ((0 : Int32)) → mj_X d 12026 10 [none, none, none] [] G Q) (h2 : ¬ (x1) < ((0 : Int32)) → mj_X d 12026 4 [some (.inr (.inr (r0))), some (.inl (x1)), none] [] G Q) : mj_X d 12026 0 [some (.inr (.inr (r0))), some (.inl (x1)), none] [] G Q := mj_X_sp (n := 2) (And.intro (fun q => (mj_X_wk (mj_le_n (mj_le_n (mj_le_n mj_le_0))) (h1 q))) (fun q => (h2 q)))
theorem mk_12026_4 {d : Nat} {Q : mj_O → mj_G → Prop} {G : mj_G} {x1 : Int32} {r0 : Nat} (h1 : (x1) < ((Int8.ofInt (10)).toInt32) → mj_X d 12026 18 [some (.inr (.inr (r0))), some (.inl (x1)), none] [] G Q) (h2 : ¬ (x1) < ((Int8.ofInt (10)).toInt32) → mj_X d 12026 10 [none, none, none] [] G Q) : mj_X d 12026 4 [some (.inr (.inr (r0))), some (.inl (x1)), none] [] G Q := mj_X_sp (n := 3) (And.intro (fun q => (h1 q)) (fun q => (mj_X_wk (mj_le_n (mj_le_n (mj_le_n mj_le_0))) (h2 q))))
theorem mk_12026_10 {d : Nat} {Q : mj_O → mj_G → Prop} {G : mj_G} (h1 : 8 ≤ d) (h2 : Q (.inr 17) (mj_al (G) 18 6 (fun _ => 0))) : mj_X d 12026 10 [none, none, none] [] G Q := mj_X_th (c := 17) rfl rfl rfl rfl h1 h2
theorem mk_12026_18 {d : Nat} {Q : mj_O → mj_G → Prop} {G : mj_G} {x1 v5 : Int32} {r0 v1 v2 v3 v4 : Nat} (h1 : mj_k (G) (r0) = 13) (h2 : mj_r (G) (r0) 3 = v1) (h3 : mj_k (G) (v1) = 9) (h4 : mj_r (G) (v1) 0 = v2) (h5 : 30 ≤ mj_k (G) (v2)) (h6 : vp_in (x1) (mj_l (G) (v2))) (h7 : mj_r (G) (v2) (x1).toNatClampNeg = v3) (h8 : mj_k (G) (v3) = 11) (h9 : mj_r (G) (v3) 0 = v4) (h10 : mj_k (G) (v3) = 11) (h11 : mj_i (G) (v3) 3 = v5) (h12 : mj_X d 12026 38 [none, none, none] [.inl (Int32.ofInt (0)), .inl (v5), .inl (Int32.ofInt (1)), .inr (.inr (v4))] G Q) : mj_X d 12026 18 [some (.inr (.inr (r0))), some (.inl (x1)), none] [] G Q := by
  subst h2
  subst h4
  subst h7
  subst h9
  subst h11
  exact mj_X_sp (n := 12) (And.intro h1 (And.intro h3 (And.intro h5 (And.intro h6 (And.intro h8 (And.intro h10 ((mj_X_wk (mj_le_n (mj_le_n (mj_le_n mj_le_0))) h12))))))))
theorem mc_12026_38 {d : Nat} {Q : mj_O → mj_G → Prop} {G : mj_G} {s1 s2 s3 : Int32} {t0 : Nat} {R : Int32 → mj_G → Prop} (h1 : mj_X d 2000 0 [some (.inr (.inr (t0))), some (.inl (s1)), some (.inl (s2)), some (.inl (s3)), none, none] [] G (fun o G1 => ∃ v, o = .inl (some (.inl (v))) ∧ R v G1)) (k : ∀ v G1, R v G1 → mj_X (d + 1) 12026 41 [none, none, none] [.inl (v)] G1 Q) : mj_X (d + 1) 12026 38 [none, none, none] [.inl (s3), .inl (s2), .inl (s1), .inr (.inr (t0))] G Q :=
  mj_X_callP rfl rfl rfl (Nat.le_of_ble_eq_true rfl) (And.intro (Nat.le_of_ble_eq_true rfl) trivial) h1 (fun o G1 h => by
    obtain ⟨v, rfl, h⟩ := h
    exact mj_X_wk (mj_le_n (mj_le_n (mj_le_n mj_le_0))) (k v G1 h))
theorem mk_12026_41 {d : Nat} {Q : mj_O → mj_G → Prop} {G : mj_G} {s0 : Int32} (h1 : Q (.inl (some (.inl (s0)))) (G)) : mj_X d 12026 41 [none, none, none] [.inl (s0)] G Q := mj_X_ir rfl trivial h1
/-! 12027: TemplateQuarry.shape(CI)I -/
theorem mk_12027_0 {d : Nat} {Q : mj_O → mj_G → Prop} {G : mj_G} {x1 x2 : Int32} {r0 : Nat} (h1 : mj_X d 12027 1 [some (.inr (.inr (r0))), some (.inl (x1)), some (.inl (x2)), none] [.inl (x1)] G Q) : mj_X d 12027 0 [some (.inr (.inr (r0))), some (.inl (x1)), some (.inl (x2)), none] [] G Q := mj_X_sp (n := 1) (h1)
theorem mc_12027_1 {d : Nat} {Q : mj_O → mj_G → Prop} {G : mj_G} {x1 x2 s0 : Int32} {r0 : Nat} {R : Int32 → mj_G → Prop} (h1 : mj_X d 12029 0 [some (.inl (s0))] [] G (fun o G1 => ∃ v, o = .inl (some (.inl (v))) ∧ R v G1)) (k : ∀ v G1, R v G1 → mj_X (d + 1) 12027 4 [some (.inr (.inr (r0))), some (.inl (x1)), some (.inl (x2)), none] [.inl (v)] G1 Q) : mj_X (d + 1) 12027 1 [some (.inr (.inr (r0))), some (.inl (x1)), some (.inl (x2)), none] [.inl (s0)] G Q :=
  mj_X_callP rfl rfl rfl (Nat.le_of_ble_eq_true rfl) (And.intro (Nat.le_of_ble_eq_true rfl) trivial) h1 (fun o G1 h => by
    obtain ⟨v, rfl, h⟩ := h
    exact mj_X_wk (mj_le_s (mj_le_s (mj_le_s (mj_le_n mj_le_0)))) (k v G1 h))
theorem mk_12027_4 {d : Nat} {Q : mj_O → mj_G → Prop} {G : mj_G} {x1 x2 s0 : Int32} {r0 : Nat} (h1 : (s0) = ((0 : Int32)) → mj_X d 12027 18 [none, none, none, none] [] G Q) (h2 : ¬ (s0) = ((0 : Int32)) → mj_X d 12027 7 [some (.inr (.inr (r0))), some (.inl (x1)), some (.inl (x2)), none] [] G Q) : mj_X d 12027 4 [some (.inr (.inr (r0))), some (.inl (x1)), some (.inl (x2)), none] [.inl (s0)] G Q := mj_X_sp (n := 1) (And.intro (fun q => (mj_X_wk (mj_le_n (mj_le_n (mj_le_n (mj_le_n mj_le_0)))) (h1 q))) (fun q => (h2 q)))
theorem mk_12027_7 {d : Nat} {Q : mj_O → mj_G → Prop} {G : mj_G} {x1 x2 : Int32} {r0 : Nat} (h1 : (x2) < (Int32.ofInt (1)) → mj_X d 12027 18 [none, none, none, none] [] G Q) (h2 : ¬ (x2) < (Int32.ofInt (1)) → mj_X d 12027 12 [some (.inr (.inr (r0))), some (.inl (x1)), some (.inl (x2)), none] [] G Q) : mj_X d 12027 7 [some (.inr (.inr (r0))), some (.inl (x1)), some (.inl (x2)), none] [] G Q := mj_X_sp (n := 3) (And.intro (fun q => (mj_X_wk (mj_le_n (mj_le_n (mj_le_n (mj_le_n mj_le_0)))) (h1 q))) (fun q => (h2 q)))
theorem mk_12027_12 {d : Nat} {Q : mj_O → mj_G → Prop} {G : mj_G} {x1 x2 : Int32} {r0 : Nat} (h1 : (x2) ≤ ((Int8.ofInt (15)).toInt32) → mj_X d 12027 26 [some (.inr (.inr (r0))), some (.inl (x1)), some (.inl (x2)), none] [] G Q) (h2 : ¬ (x2) ≤ ((Int8.ofInt (15)).toInt32) → mj_X d 12027 18 [none, none, none, none] [] G Q) : mj_X d 12027 12 [some (.inr (.inr (r0))), some (.inl (x1)), some (.inl (x2)), none] [] G Q := mj_X_sp (n := 3) (And.intro (fun q => (h1 q)) (fun q => (mj_X_wk (mj_le_n (mj_le_n (mj_le_n (mj_le_n mj_le_0)))) (h2 q))))
theorem mk_12027_18 {d : Nat} {Q : mj_O → mj_G → Prop} {G : mj_G} (h1 : 8 ≤ d) (h2 : Q (.inr 15) (mj_al (G) 16 6 (fun _ => 0))) : mj_X d 12027 18 [none, none, none, none] [] G Q := mj_X_th (c := 15) rfl rfl rfl rfl h1 h2
theorem mk_12027_26 {d : Nat} {Q : mj_O → mj_G → Prop} {G : mj_G} {x1 x2 v2 : Int32} {r0 v1 v3 : Nat} {G1 : mj_G} (h1 : mj_k (G) (r0) = 13) (h2 : mj_r (G) (r0) 2 = v1) (h3 : mj_k (G) (v1) = 20) (h4 : vp_in ((x1) - ((Int8.ofInt (97)).toInt32)) (mj_l (G) (v1))) (h5 : mj_i (G) (v1) ((x1) - ((Int8.ofInt (97)).toInt32)).toNatClampNeg = v2) (h6 : mj_k (G) (r0) = 13) (h7 : mj_r (G) (r0) 2 = v3) (h8 : mj_k (G) (v3) = 20) (h9 : 3 ≤ (v3)) (h10 : vp_in ((x1) - ((Int8.ofInt (97)).toInt32)) (mj_l (G) (v3))) (h11 : G1 = mj_pI (G) (v3) ((x1) - ((Int8.ofInt (97)).toInt32)).toNatClampNeg (x2)) (h12 : Q (.inl (some (.inl (v2)))) (G1)) : mj_X d 12027 26 [some (.inr (.inr (r0))), some (.inl (x1)), some (.inl (x2)), none] [] G Q := by
  subst h2
  subst h5
  subst h7
  subst h11
  exact mj_X_sp (n := 15) (And.intro h1 (And.intro h3 (And.intro h4 (And.intro h6 (And.intro h8 (And.intro h9 (And.intro h10 (And.intro trivial (mj_X_ir rfl trivial h12)))))))))
/-! 12028: TemplateQuarry.check(I)I -/
theorem mk_12028_0 {d : Nat} {Q : mj_O → mj_G → Prop} {G : mj_G} {x1 : Int32} {r0 : Nat} (h1 : (x1) < ((0 : Int32)) → mj_X d 12028 10 [none, none] [] G Q) (h2 : ¬ (x1) < ((0 : Int32)) → mj_X d 12028 4 [some (.inr (.inr (r0))), some (.inl (x1))] [] G Q) : mj_X d 12028 0 [some (.inr (.inr (r0))), some (.inl (x1))] [] G Q := mj_X_sp (n := 2) (And.intro (fun q => (mj_X_wk (mj_le_n (mj_le_n mj_le_0)) (h1 q))) (fun q => (h2 q)))
theorem mk_12028_4 {d : Nat} {Q : mj_O → mj_G → Prop} {G : mj_G} {x1 : Int32} {r0 : Nat} (h1 : (x1) < ((Int8.ofInt (10)).toInt32) → mj_X d 12028 18 [some (.inr (.inr (r0))), some (.inl (x1))] [] G Q) (h2 : ¬ (x1) < ((Int8.ofInt (10)).toInt32) → mj_X d 12028 10 [none, none] [] G Q) : mj_X d 12028 4 [some (.inr (.inr (r0))), some (.inl (x1))] [] G Q := mj_X_sp (n := 3) (And.intro (fun q => (h1 q)) (fun q => (mj_X_wk (mj_le_n (mj_le_n mj_le_0)) (h2 q))))
theorem mk_12028_10 {d : Nat} {Q : mj_O → mj_G → Prop} {G : mj_G} (h1 : 8 ≤ d) (h2 : Q (.inr 17) (mj_al (G) 18 6 (fun _ => 0))) : mj_X d 12028 10 [none, none] [] G Q := mj_X_th (c := 17) rfl rfl rfl rfl h1 h2
theorem mk_12028_18 {d : Nat} {Q : mj_O → mj_G → Prop} {G : mj_G} {x1 : Int32} {r0 v1 v2 v3 v4 v5 : Nat} (h1 : mj_k (G) (r0) = 13) (h2 : mj_r (G) (r0) 3 = v1) (h3 : mj_k (G) (v1) = 9) (h4 : mj_r (G) (v1) 0 = v2) (h5 : 30 ≤ mj_k (G) (v2)) (h6 : vp_in (x1) (mj_l (G) (v2))) (h7 : mj_r (G) (v2) (x1).toNatClampNeg = v3) (h8 : mj_k (G) (v3) = 11) (h9 : mj_r (G) (v3) 0 = v4) (h10 : mj_k (G) (r0) = 13) (h11 : mj_r (G) (r0) 2 = v5) (h12 : mj_X d 12028 35 [none, none] [.inl (Int32.ofInt (0)), .inr (.inr (v5)), .inr (.inr (v4))] G Q) : mj_X d 12028 18 [some (.inr (.inr (r0))), some (.inl (x1))] [] G Q := by
  subst h2
  subst h4
  subst h7
  subst h9
  subst h11
  exact mj_X_sp (n := 9) (And.intro h1 (And.intro h3 (And.intro h5 (And.intro h6 (And.intro h8 (And.intro h10 ((mj_X_wk (mj_le_n (mj_le_n mj_le_0)) h12))))))))
theorem mc_12028_35 {d : Nat} {Q : mj_O → mj_G → Prop} {G : mj_G} {s2 : Int32} {t0 t1 : Nat} {R : Int32 → mj_G → Prop} (h1 : mj_X d 2006 0 [some (.inr (.inr (t0))), some (.inr (.inr (t1))), some (.inl (s2)), none, none, none] [] G (fun o G1 => ∃ v, o = .inl (some (.inl (v))) ∧ R v G1)) (k : ∀ v G1, R v G1 → mj_X (d + 1) 12028 38 [none, none] [.inl (v)] G1 Q) : mj_X (d + 1) 12028 35 [none, none] [.inl (s2), .inr (.inr (t1)), .inr (.inr (t0))] G Q :=
  mj_X_callP rfl rfl rfl (Nat.le_of_ble_eq_true rfl) (And.intro (Nat.le_of_ble_eq_true rfl) trivial) h1 (fun o G1 h => by
    obtain ⟨v, rfl, h⟩ := h
    exact mj_X_wk (mj_le_n (mj_le_n mj_le_0)) (k v G1 h))
theorem mk_12028_38 {d : Nat} {Q : mj_O → mj_G → Prop} {G : mj_G} {s0 : Int32} (h1 : Q (.inl (some (.inl (s0)))) (G)) : mj_X d 12028 38 [none, none] [.inl (s0)] G Q := mj_X_ir rfl trivial h1
/-! 12029: TemplateQuarry.isLetter(C)Z -/
theorem mk_12029_0 {d : Nat} {Q : mj_O → mj_G → Prop} {G : mj_G} {x0 : Int32} (h1 : (x0) < ((Int8.ofInt (97)).toInt32) → mj_X d 12029 16 [none] [] G Q) (h2 : ¬ (x0) < ((Int8.ofInt (97)).toInt32) → mj_X d 12029 6 [some (.inl (x0))] [] G Q) : mj_X d 12029 0 [some (.inl (x0))] [] G Q := mj_X_sp (n := 3) (And.intro (fun q => (mj_X_wk (mj_le_n mj_le_0) (h1 q))) (fun q => (h2 q)))
theorem mk_12029_6 {d : Nat} {Q : mj_O → mj_G → Prop} {G : mj_G} {x0 : Int32} (h1 : ((Int8.ofInt (122)).toInt32) < (x0) → mj_X d 12029 16 [none] [] G Q) (h2 : ¬ ((Int8.ofInt (122)).toInt32) < (x0) → mj_X d 12029 12 [none] [] G Q) : mj_X d 12029 6 [some (.inl (x0))] [] G Q := mj_X_sp (n := 3) (And.intro (fun q => (mj_X_wk (mj_le_n mj_le_0) (h1 q))) (fun q => (mj_X_wk (mj_le_n mj_le_0) (h2 q))))
theorem mk_12029_12 {d : Nat} {Q : mj_O → mj_G → Prop} {G : mj_G} (h1 : mj_X d 12029 17 [none] [.inl (Int32.ofInt (1))] G Q) : mj_X d 12029 12 [none] [] G Q := mj_X_sp (n := 2) (h1)
theorem mk_12029_16 {d : Nat} {Q : mj_O → mj_G → Prop} {G : mj_G} (h1 : mj_X d 12029 17 [none] [.inl (Int32.ofInt (0))] G Q) : mj_X d 12029 16 [none] [] G Q := mj_X_sp (n := 1) (h1)
theorem mk_12029_17 {d : Nat} {Q : mj_O → mj_G → Prop} {G : mj_G} {s0 : Int32} (h1 : mj_b (s0)) (h2 : Q (.inl (some (.inl (s0)))) (G)) : mj_X d 12029 17 [none] [.inl (s0)] G Q := mj_X_ir rfl h1 h2
/-! 12030: TemplateQuarry.isDigit(C)Z -/
theorem mk_12030_0 {d : Nat} {Q : mj_O → mj_G → Prop} {G : mj_G} {x0 : Int32} (h1 : (x0) < ((Int8.ofInt (48)).toInt32) → mj_X d 12030 16 [none] [] G Q) (h2 : ¬ (x0) < ((Int8.ofInt (48)).toInt32) → mj_X d 12030 6 [some (.inl (x0))] [] G Q) : mj_X d 12030 0 [some (.inl (x0))] [] G Q := mj_X_sp (n := 3) (And.intro (fun q => (mj_X_wk (mj_le_n mj_le_0) (h1 q))) (fun q => (h2 q)))
theorem mk_12030_6 {d : Nat} {Q : mj_O → mj_G → Prop} {G : mj_G} {x0 : Int32} (h1 : ((Int8.ofInt (57)).toInt32) < (x0) → mj_X d 12030 16 [none] [] G Q) (h2 : ¬ ((Int8.ofInt (57)).toInt32) < (x0) → mj_X d 12030 12 [none] [] G Q) : mj_X d 12030 6 [some (.inl (x0))] [] G Q := mj_X_sp (n := 3) (And.intro (fun q => (mj_X_wk (mj_le_n mj_le_0) (h1 q))) (fun q => (mj_X_wk (mj_le_n mj_le_0) (h2 q))))
theorem mk_12030_12 {d : Nat} {Q : mj_O → mj_G → Prop} {G : mj_G} (h1 : mj_X d 12030 17 [none] [.inl (Int32.ofInt (1))] G Q) : mj_X d 12030 12 [none] [] G Q := mj_X_sp (n := 2) (h1)
theorem mk_12030_16 {d : Nat} {Q : mj_O → mj_G → Prop} {G : mj_G} (h1 : mj_X d 12030 17 [none] [.inl (Int32.ofInt (0))] G Q) : mj_X d 12030 16 [none] [] G Q := mj_X_sp (n := 1) (h1)
theorem mk_12030_17 {d : Nat} {Q : mj_O → mj_G → Prop} {G : mj_G} {s0 : Int32} (h1 : mj_b (s0)) (h2 : Q (.inl (some (.inl (s0)))) (G)) : mj_X d 12030 17 [none] [.inl (s0)] G Q := mj_X_ir rfl h1 h2
/-! 12031: TemplateQuarry.copyOf([CII)[C -/
theorem mk_12031_0 {d : Nat} {Q : mj_O → mj_G → Prop} {G : mj_G} {x1 x2 : Int32} {r0 : Nat} (h1 : (x1) < ((0 : Int32)) → mj_X d 12031 15 [none, none, none, none] [] G Q) (h2 : ¬ (x1) < ((0 : Int32)) → mj_X d 12031 4 [some (.inr (.inr (r0))), some (.inl (x1)), some (.inl (x2)), none] [] G Q) : mj_X d 12031 0 [some (.inr (.inr (r0))), some (.inl (x1)), some (.inl (x2)), none] [] G Q := mj_X_sp (n := 2) (And.intro (fun q => (mj_X_wk (mj_le_n (mj_le_n (mj_le_n (mj_le_n mj_le_0)))) (h1 q))) (fun q => (h2 q)))
theorem mk_12031_4 {d : Nat} {Q : mj_O → mj_G → Prop} {G : mj_G} {x1 x2 : Int32} {r0 : Nat} (h1 : (x2) < (x1) → mj_X d 12031 15 [none, none, none, none] [] G Q) (h2 : ¬ (x2) < (x1) → mj_X d 12031 9 [some (.inr (.inr (r0))), some (.inl (x1)), some (.inl (x2)), none] [] G Q) : mj_X d 12031 4 [some (.inr (.inr (r0))), some (.inl (x1)), some (.inl (x2)), none] [] G Q := mj_X_sp (n := 3) (And.intro (fun q => (mj_X_wk (mj_le_n (mj_le_n (mj_le_n (mj_le_n mj_le_0)))) (h1 q))) (fun q => (h2 q)))
theorem mk_12031_9 {d : Nat} {Q : mj_O → mj_G → Prop} {G : mj_G} {x1 x2 v1 : Int32} {r0 : Nat} (h1 : 20 ≤ mj_k (G) (r0)) (h2 : Int32.ofNat (mj_l (G) (r0)) = v1) (h3 : (x2) ≤ (v1) → mj_X d 12031 19 [some (.inr (.inr (r0))), some (.inl (x1)), some (.inl (x2)), none] [] G Q) (h4 : ¬ (x2) ≤ (v1) → mj_X d 12031 15 [none, none, none, none] [] G Q) : mj_X d 12031 9 [some (.inr (.inr (r0))), some (.inl (x1)), some (.inl (x2)), none] [] G Q := by
  subst h2
  exact mj_X_sp (n := 4) (And.intro h1 (And.intro (fun q => (h3 q)) (fun q => (mj_X_wk (mj_le_n (mj_le_n (mj_le_n (mj_le_n mj_le_0)))) (h4 q)))))
theorem mk_12031_15 {d : Nat} {Q : mj_O → mj_G → Prop} {G : mj_G} (h1 : Q (.inl (some (.inr (.inr (2))))) (G)) : mj_X d 12031 15 [none, none, none, none] [] G Q := mj_X_sp (n := 1) (mj_X_ar rfl rfl h1)
theorem mk_12031_19 {d : Nat} {Q : mj_O → mj_G → Prop} {G : mj_G} {x1 x2 v2 : Int32} {r0 v1 : Nat} {G1 G2 : mj_G} (h1 : ¬ ((x2) - (x1)) < 0) (h2 : ((x2) - (x1)).toNatClampNeg ≤ 1000000) (h3 : mj_n (G) = v1) (h4 : G1 = mj_al (G) 22 ((x2) - (x1)).toNatClampNeg (fun _ => 0)) (h5 : 20 ≤ mj_k (G1) (v1)) (h6 : Int32.ofNat (mj_l (G1) (v1)) = v2) (h7 : mj_k (G1) (v1) = 20 ∨ mj_k (G1) (v1) = 22) (h8 : mj_k (G1) (r0) = mj_k (G1) (v1)) (h9 : 2 ≤ (r0)) (h10 : 3 ≤ (v1)) (h11 : ¬ (x1) < 0) (h12 : ¬ (Int32.ofInt (0)) < 0) (h13 : ¬ (v2) < 0) (h14 : (x1).toNatClampNeg + (v2).toNatClampNeg ≤ mj_l (G1) (r0)) (h15 : (Int32.ofInt (0)).toNatClampNeg + (v2).toNatClampNeg ≤ mj_l (G1) (v1)) (h16 : G2 = mj_cp (G1) (r0) (x1).toNatClampNeg (v1) (Int32.ofInt (0)).toNatClampNeg (v2).toNatClampNeg) (h17 : Q (.inl (some (.inr (.inr (v1))))) (G2)) : mj_X d 12031 19 [some (.inr (.inr (r0))), some (.inl (x1)), some (.inl (x2)), none] [] G Q := by
  subst h3
  subst h4
  subst h6
  subst h16
  exact mj_X_sp (n := 13) (And.intro h1 (And.intro h2 (And.intro trivial (And.intro h5 (And.intro (Nat.le_of_ble_eq_true rfl) (And.intro h7 (And.intro h8 (And.intro h9 (And.intro h10 (And.intro h11 (And.intro h12 (And.intro h13 (And.intro h14 (And.intro h15 (mj_X_ar rfl rfl h17)))))))))))))))
/-! 12032: TemplateQuarry.writeDigits(I[CI)I -/
theorem mk_12032_0 {d : Nat} {Q : mj_O → mj_G → Prop} {G : mj_G} {x0 x2 : Int32} {r1 : Nat} (h1 : ((0 : Int32)) ≤ (x0) → mj_X d 12032 10 [some (.inl (x0)), some (.inr (.inr (r1))), some (.inl (x2)), none, none, none, none, none] [] G Q) (h2 : ¬ ((0 : Int32)) ≤ (x0) → mj_X d 12032 4 [some (.inl (x0)), some (.inr (.inr (r1))), some (.inl (x2)), none, none, none, none, none] [] G Q) : mj_X d 12032 0 [some (.inl (x0)), some (.inr (.inr (r1))), some (.inl (x2)), none, none, none, none, none] [] G Q := mj_X_sp (n := 2) (And.intro (fun q => (h1 q)) (fun q => (h2 q)))
theorem mk_12032_4 {d : Nat} {Q : mj_O → mj_G → Prop} {G : mj_G} {x0 x2 : Int32} {r1 : Nat} (h1 : mj_X d 12032 12 [some (.inl (x0)), some (.inr (.inr (r1))), some (.inl (x2)), none, none, none, none, none] [.inr (.inl (-((x0).toInt64)))] G Q) : mj_X d 12032 4 [some (.inl (x0)), some (.inr (.inr (r1))), some (.inl (x2)), none, none, none, none, none] [] G Q := mj_X_sp (n := 4) (h1)
theorem mk_12032_10 {d : Nat} {Q : mj_O → mj_G → Prop} {G : mj_G} {x0 x2 : Int32} {r1 : Nat} (h1 : mj_X d 12032 12 [some (.inl (x0)), some (.inr (.inr (r1))), some (.inl (x2)), none, none, none, none, none] [.inr (.inl ((x0).toInt64))] G Q) : mj_X d 12032 10 [some (.inl (x0)), some (.inr (.inr (r1))), some (.inl (x2)), none, none, none, none, none] [] G Q := mj_X_sp (n := 2) (h1)
theorem mk_12032_12 {d : Nat} {Q : mj_O → mj_G → Prop} {G : mj_G} {x0 x2 : Int32} {r1 : Nat} {w0 : Int64} (h1 : ((0 : Int32)) ≤ (x0) → mj_X d 12032 21 [some (.inl (x0)), some (.inr (.inr (r1))), some (.inl (x2)), some (.inr (.inl (w0))), none, none, none, none] [] G Q) (h2 : ¬ ((0 : Int32)) ≤ (x0) → mj_X d 12032 17 [some (.inl (x0)), some (.inr (.inr (r1))), some (.inl (x2)), some (.inr (.inl (w0))), none, none, none, none] [] G Q) : mj_X d 12032 12 [some (.inl (x0)), some (.inr (.inr (r1))), some (.inl (x2)), none, none, none, none, none] [.inr (.inl (w0))] G Q := mj_X_sp (n := 3) (And.intro (fun q => (h1 q)) (fun q => (h2 q)))
theorem mk_12032_17 {d : Nat} {Q : mj_O → mj_G → Prop} {G : mj_G} {x0 x2 : Int32} {r1 : Nat} {y3 : Int64} (h1 : mj_X d 12032 22 [some (.inl (x0)), some (.inr (.inr (r1))), some (.inl (x2)), some (.inr (.inl (y3))), none, none, none, none] [.inl (Int32.ofInt (2))] G Q) : mj_X d 12032 17 [some (.inl (x0)), some (.inr (.inr (r1))), some (.inl (x2)), some (.inr (.inl (y3))), none, none, none, none] [] G Q := mj_X_sp (n := 2) (h1)
theorem mk_12032_21 {d : Nat} {Q : mj_O → mj_G → Prop} {G : mj_G} {x0 x2 : Int32} {r1 : Nat} {y3 : Int64} (h1 : mj_X d 12032 22 [some (.inl (x0)), some (.inr (.inr (r1))), some (.inl (x2)), some (.inr (.inl (y3))), none, none, none, none] [.inl (Int32.ofInt (1))] G Q) : mj_X d 12032 21 [some (.inl (x0)), some (.inr (.inr (r1))), some (.inl (x2)), some (.inr (.inl (y3))), none, none, none, none] [] G Q := mj_X_sp (n := 1) (h1)
theorem mk_12032_22 {d : Nat} {Q : mj_O → mj_G → Prop} {G : mj_G} {x0 x2 s0 : Int32} {r1 : Nat} {y3 : Int64} (h1 : mj_X d 12032 29 [some (.inl (x0)), some (.inr (.inr (r1))), some (.inl (x2)), some (.inr (.inl (y3))), none, some (.inl (s0)), some (.inr (.inl ((10 : Int64)))), none] [] G Q) : mj_X d 12032 22 [some (.inl (x0)), some (.inr (.inr (r1))), some (.inl (x2)), some (.inr (.inl (y3))), none, none, none, none] [.inl (s0)] G Q := mj_X_sp (n := 3) (h1)
theorem mk_12032_29 {d : Nat} {Q : mj_O → mj_G → Prop} {G : mj_G} {x0 x2 x5 : Int32} {r1 : Nat} {y3 y6 : Int64} (h1 : ((0 : Int32)) < (lg_cmp (y6) (y3)) → mj_X d 12032 50 [some (.inl (x0)), some (.inr (.inr (r1))), some (.inl (x2)), some (.inr (.inl (y3))), none, some (.inl (x5)), none, none] [] G Q) (h2 : ¬ ((0 : Int32)) < (lg_cmp (y6) (y3)) → mj_X d 12032 36 [some (.inl (x0)), some (.inr (.inr (r1))), some (.inl (x2)), some (.inr (.inl (y3))), none, some (.inl (x5)), some (.inr (.inl (y6))), none] [] G Q) : mj_X d 12032 29 [some (.inl (x0)), some (.inr (.inr (r1))), some (.inl (x2)), some (.inr (.inl (y3))), none, some (.inl (x5)), some (.inr (.inl (y6))), none] [] G Q := mj_X_sp (n := 4) (And.intro (fun q => (mj_X_wk (mj_le_s (mj_le_s (mj_le_s (mj_le_s (mj_le_n (mj_le_s (mj_le_n (mj_le_n mj_le_0)))))))) (h1 q))) (fun q => (h2 q)))
theorem mk_12032_36 {d : Nat} {Q : mj_O → mj_G → Prop} {G : mj_G} {x0 x2 x5 : Int32} {r1 : Nat} {y3 y6 : Int64} (h1 : mj_X d 12032 29 [some (.inl (x0)), some (.inr (.inr (r1))), some (.inl (x2)), some (.inr (.inl (y3))), none, some (.inl ((x5) + Int32.ofInt (1))), some (.inr (.inl ((y6) * ((10 : Int64))))), none] [] G Q) : mj_X d 12032 36 [some (.inl (x0)), some (.inr (.inr (r1))), some (.inl (x2)), some (.inr (.inl (y3))), none, some (.inl (x5)), some (.inr (.inl (y6))), none] [] G Q := mj_X_sp (n := 6) (h1)
theorem mk_12032_50 {d : Nat} {Q : mj_O → mj_G → Prop} {G : mj_G} {x0 x2 x5 : Int32} {r1 : Nat} {y3 : Int64} (h1 : (x2) < ((0 : Int32)) → mj_X d 12032 63 [none, none, some (.inl (x2)), none, none, none, none, none] [] G Q) (h2 : ¬ (x2) < ((0 : Int32)) → mj_X d 12032 54 [some (.inl (x0)), some (.inr (.inr (r1))), some (.inl (x2)), some (.inr (.inl (y3))), none, some (.inl (x5)), none, none] [] G Q) : mj_X d 12032 50 [some (.inl (x0)), some (.inr (.inr (r1))), some (.inl (x2)), some (.inr (.inl (y3))), none, some (.inl (x5)), none, none] [] G Q := mj_X_sp (n := 2) (And.intro (fun q => (mj_X_wk (mj_le_n (mj_le_n (mj_le_s (mj_le_n (mj_le_n (mj_le_n (mj_le_n (mj_le_n mj_le_0)))))))) (h1 q))) (fun q => (h2 q)))
theorem mk_12032_54 {d : Nat} {Q : mj_O → mj_G → Prop} {G : mj_G} {x0 x2 x5 v1 : Int32} {r1 : Nat} {y3 : Int64} (h1 : 20 ≤ mj_k (G) (r1)) (h2 : Int32.ofNat (mj_l (G) (r1)) = v1) (h3 : (x2) ≤ ((v1) - (x5)) → mj_X d 12032 65 [some (.inl (x0)), some (.inr (.inr (r1))), some (.inl (x2)), some (.inr (.inl (y3))), none, some (.inl (x5)), none, none] [] G Q) (h4 : ¬ (x2) ≤ ((v1) - (x5)) → mj_X d 12032 63 [none, none, some (.inl (x2)), none, none, none, none, none] [] G Q) : mj_X d 12032 54 [some (.inl (x0)), some (.inr (.inr (r1))), some (.inl (x2)), some (.inr (.inl (y3))), none, some (.inl (x5)), none, none] [] G Q := by
  subst h2
  exact mj_X_sp (n := 6) (And.intro h1 (And.intro (fun q => (h3 q)) (fun q => (mj_X_wk (mj_le_n (mj_le_n (mj_le_s (mj_le_n (mj_le_n (mj_le_n (mj_le_n (mj_le_n mj_le_0)))))))) (h4 q)))))
theorem mk_12032_63 {d : Nat} {Q : mj_O → mj_G → Prop} {G : mj_G} {x2 : Int32} (h1 : Q (.inl (some (.inl (x2)))) (G)) : mj_X d 12032 63 [none, none, some (.inl (x2)), none, none, none, none, none] [] G Q := mj_X_sp (n := 1) (mj_X_ir rfl trivial h1)
theorem mk_12032_65 {d : Nat} {Q : mj_O → mj_G → Prop} {G : mj_G} {x0 x2 x5 : Int32} {r1 : Nat} {y3 : Int64} (h1 : ((0 : Int32)) ≤ (x0) → mj_X d 12032 74 [some (.inl (x0)), some (.inr (.inr (r1))), some (.inl (x2)), some (.inr (.inl (y3))), none, some (.inl (x5)), none, none] [] G Q) (h2 : ¬ ((0 : Int32)) ≤ (x0) → mj_X d 12032 69 [some (.inl (x0)), some (.inr (.inr (r1))), some (.inl (x2)), some (.inr (.inl (y3))), none, some (.inl (x5)), none, none] [] G Q) : mj_X d 12032 65 [some (.inl (x0)), some (.inr (.inr (r1))), some (.inl (x2)), some (.inr (.inl (y3))), none, some (.inl (x5)), none, none] [] G Q := mj_X_sp (n := 2) (And.intro (fun q => (h1 q)) (fun q => (h2 q)))
theorem mk_12032_69 {d : Nat} {Q : mj_O → mj_G → Prop} {G : mj_G} {x0 x2 x5 : Int32} {r1 : Nat} {y3 : Int64} {G1 : mj_G} (h1 : mj_k (G) (r1) = 22) (h2 : 3 ≤ (r1)) (h3 : vp_in (x2) (mj_l (G) (r1))) (h4 : mj_c ((Int8.ofInt (45)).toInt32)) (h5 : G1 = mj_pI (G) (r1) (x2).toNatClampNeg ((Int8.ofInt (45)).toInt32)) (h6 : mj_X d 12032 74 [some (.inl (x0)), some (.inr (.inr (r1))), some (.inl (x2)), some (.inr (.inl (y3))), none, some (.inl (x5)), none, none] [] G1 Q) : mj_X d 12032 69 [some (.inl (x0)), some (.inr (.inr (r1))), some (.inl (x2)), some (.inr (.inl (y3))), none, some (.inl (x5)), none, none] [] G Q := by
  subst h5
  exact mj_X_sp (n := 4) (And.intro h1 (And.intro h2 (And.intro h3 (And.intro h4 (h6)))))
theorem mk_12032_74 {d : Nat} {Q : mj_O → mj_G → Prop} {G : mj_G} {x0 x2 x5 : Int32} {r1 : Nat} {y3 : Int64} (h1 : ((0 : Int32)) ≤ (x0) → mj_X d 12032 84 [none, some (.inr (.inr (r1))), some (.inl (x2)), some (.inr (.inl (y3))), none, some (.inl (x5)), none, none] [] G Q) (h2 : ¬ ((0 : Int32)) ≤ (x0) → mj_X d 12032 78 [none, some (.inr (.inr (r1))), some (.inl (x2)), some (.inr (.inl (y3))), none, some (.inl (x5)), none, none] [] G Q) : mj_X d 12032 74 [some (.inl (x0)), some (.inr (.inr (r1))), some (.inl (x2)), some (.inr (.inl (y3))), none, some (.inl (x5)), none, none] [] G Q := mj_X_sp (n := 2) (And.intro (fun q => (mj_X_wk (mj_le_n (mj_le_s (mj_le_s (mj_le_s (mj_le_n (mj_le_s (mj_le_n (mj_le_n mj_le_0)))))))) (h1 q))) (fun q => (mj_X_wk (mj_le_n (mj_le_s (mj_le_s (mj_le_s (mj_le_n (mj_le_s (mj_le_n (mj_le_n mj_le_0)))))))) (h2 q))))
theorem mk_12032_78 {d : Nat} {Q : mj_O → mj_G → Prop} {G : mj_G} {x2 x5 : Int32} {r1 : Nat} {y3 : Int64} (h1 : mj_X d 12032 85 [none, some (.inr (.inr (r1))), some (.inl (x2)), some (.inr (.inl (y3))), none, some (.inl (x5)), none, none] [.inl ((x2) + (Int32.ofInt (1)))] G Q) : mj_X d 12032 78 [none, some (.inr (.inr (r1))), some (.inl (x2)), some (.inr (.inl (y3))), none, some (.inl (x5)), none, none] [] G Q := mj_X_sp (n := 4) (h1)
theorem mk_12032_84 {d : Nat} {Q : mj_O → mj_G → Prop} {G : mj_G} {x2 x5 : Int32} {r1 : Nat} {y3 : Int64} (h1 : mj_X d 12032 85 [none, some (.inr (.inr (r1))), some (.inl (x2)), some (.inr (.inl (y3))), none, some (.inl (x5)), none, none] [.inl (x2)] G Q) : mj_X d 12032 84 [none, some (.inr (.inr (r1))), some (.inl (x2)), some (.inr (.inl (y3))), none, some (.inl (x5)), none, none] [] G Q := mj_X_sp (n := 1) (h1)
theorem mk_12032_85 {d : Nat} {Q : mj_O → mj_G → Prop} {G : mj_G} {x2 x5 s0 : Int32} {r1 : Nat} {y3 : Int64} (h1 : mj_X d 12032 95 [none, some (.inr (.inr (r1))), some (.inl (x2)), some (.inr (.inl (y3))), none, some (.inl (x5)), some (.inl (s0)), some (.inl (((x2) + (x5)) - (Int32.ofInt (1))))] [] G Q) : mj_X d 12032 85 [none, some (.inr (.inr (r1))), some (.inl (x2)), some (.inr (.inl (y3))), none, some (.inl (x5)), none, none] [.inl (s0)] G Q := mj_X_sp (n := 7) (h1)
theorem mk_12032_95 {d : Nat} {Q : mj_O → mj_G → Prop} {G : mj_G} {x2 x5 x6 x7 : Int32} {r1 : Nat} {y3 : Int64} (h1 : (x7) < (x6) → mj_X d 12032 129 [none, none, some (.inl (x2)), none, none, some (.inl (x5)), none, none] [] G Q) (h2 : ¬ (x7) < (x6) → mj_X d 12032 102 [none, some (.inr (.inr (r1))), some (.inl (x2)), some (.inr (.inl (y3))), none, some (.inl (x5)), some (.inl (x6)), some (.inl (x7))] [] G Q) : mj_X d 12032 95 [none, some (.inr (.inr (r1))), some (.inl (x2)), some (.inr (.inl (y3))), none, some (.inl (x5)), some (.inl (x6)), some (.inl (x7))] [] G Q := mj_X_sp (n := 3) (And.intro (fun q => (mj_X_wk (mj_le_n (mj_le_n (mj_le_s (mj_le_n (mj_le_n (mj_le_s (mj_le_n (mj_le_n mj_le_0)))))))) (h1 q))) (fun q => (h2 q)))
theorem mk_12032_102 {d : Nat} {Q : mj_O → mj_G → Prop} {G : mj_G} {x2 x5 x6 x7 : Int32} {r1 : Nat} {y3 v1 : Int64} {G1 : mj_G} (h1 : ¬ ((10 : Int64)) = 0) (h2 : ((48 : Int64)) + ((y3) - (y3) / ((10 : Int64)) * ((10 : Int64))) = v1) (h3 : mj_k (G) (r1) = 22) (h4 : 3 ≤ (r1)) (h5 : vp_in (x7) (mj_l (G) (r1))) (h6 : mj_c ((((v1).toInt32).toUInt32 % 65536).toInt32)) (h7 : G1 = mj_pI (G) (r1) (x7).toNatClampNeg ((((v1).toInt32).toUInt32 % 65536).toInt32)) (h8 : ¬ ((10 : Int64)) = 0) (h9 : mj_X d 12032 95 [none, some (.inr (.inr (r1))), some (.inl (x2)), some (.inr (.inl ((y3) / ((10 : Int64))))), none, some (.inl (x5)), some (.inl (x6)), some (.inl ((x7) + Int32.ofInt (-1)))] [] G1 Q) : mj_X d 12032 102 [none, some (.inr (.inr (r1))), some (.inl (x2)), some (.inr (.inl (y3))), none, some (.inl (x5)), some (.inl (x6)), some (.inl (x7))] [] G Q := by
  subst h2
  subst h7
  exact mj_X_sp (n := 16) (And.intro h1 (And.intro h3 (And.intro h4 (And.intro h5 (And.intro h6 (And.intro h8 (h9)))))))
theorem mk_12032_129 {d : Nat} {Q : mj_O → mj_G → Prop} {G : mj_G} {x2 x5 : Int32} (h1 : Q (.inl (some (.inl ((x2) + (x5))))) (G)) : mj_X d 12032 129 [none, none, some (.inl (x2)), none, none, some (.inl (x5)), none, none] [] G Q := mj_X_sp (n := 3) (mj_X_ir rfl trivial h1)
/-! 12033: TemplateQuarry.lead(IC)I -/
theorem mk_12033_0 {d : Nat} {Q : mj_O → mj_G → Prop} {G : mj_G} {x0 x1 : Int32} (h1 : (x0) = Int32.ofInt (0) → mj_X d 12033 44 [none, some (.inl (x1))] [] G Q) (h2 : (x0) = Int32.ofInt (1) → mj_X d 12033 56 [none, some (.inl (x1))] [] G Q) (h3 : (x0) = Int32.ofInt (2) → mj_X d 12033 78 [none, some (.inl (x1))] [] G Q) (h4 : (x0) = Int32.ofInt (3) → mj_X d 12033 100 [none, some (.inl (x1))] [] G Q) (h5 : (x0) = Int32.ofInt (4) → mj_X d 12033 112 [none, some (.inl (x1))] [] G Q) (h6 : (x0) = Int32.ofInt (5) → mj_X d 12033 135 [none, some (.inl (x1))] [] G Q) (h7 : (x0) = Int32.ofInt (6) → mj_X d 12033 147 [none, some (.inl (x1))] [] G Q) (h8 : ¬ (x0) = Int32.ofInt (0) → ¬ (x0) = Int32.ofInt (1) → ¬ (x0) = Int32.ofInt (2) → ¬ (x0) = Int32.ofInt (3) → ¬ (x0) = Int32.ofInt (4) → ¬ (x0) = Int32.ofInt (5) → ¬ (x0) = Int32.ofInt (6) → mj_X d 12033 171 [none, some (.inl (x1))] [] G Q) : mj_X d 12033 0 [some (.inl (x0)), some (.inl (x1))] [] G Q := mj_X_sp (n := 2) ((And.intro (fun q => (mj_X_wk (mj_le_n (mj_le_s mj_le_0)) (h1 q))) (fun n1 => (And.intro (fun q => (mj_X_wk (mj_le_n (mj_le_s mj_le_0)) (h2 q))) (fun n2 => (And.intro (fun q => (mj_X_wk (mj_le_n (mj_le_s mj_le_0)) (h3 q))) (fun n3 => (And.intro (fun q => (mj_X_wk (mj_le_n (mj_le_s mj_le_0)) (h4 q))) (fun n4 => (And.intro (fun q => (mj_X_wk (mj_le_n (mj_le_s mj_le_0)) (h5 q))) (fun n5 => (And.intro (fun q => (mj_X_wk (mj_le_n (mj_le_s mj_le_0)) (h6 q))) (fun n6 => (And.intro (fun q => (mj_X_wk (mj_le_n (mj_le_s mj_le_0)) (h7 q))) (fun n7 => (mj_X_wk (mj_le_n (mj_le_s mj_le_0)) (h8 n1 n2 n3 n4 n5 n6 n7)))))))))))))))))
theorem mk_12033_44 {d : Nat} {Q : mj_O → mj_G → Prop} {G : mj_G} {x1 : Int32} (h1 : ¬ (x1) = ((Int8.ofInt (60)).toInt32) → mj_X d 12033 54 [none, none] [] G Q) (h2 : (x1) = ((Int8.ofInt (60)).toInt32) → mj_X d 12033 50 [none, none] [] G Q) : mj_X d 12033 44 [none, some (.inl (x1))] [] G Q := mj_X_sp (n := 3) (And.intro (fun q => (mj_X_wk (mj_le_n (mj_le_n mj_le_0)) (h1 q))) (fun q => (mj_X_wk (mj_le_n (mj_le_n mj_le_0)) (h2 (Decidable.not_not.mp q)))))
theorem mk_12033_50 {d : Nat} {Q : mj_O → mj_G → Prop} {G : mj_G} (h1 : mj_X d 12033 55 [none, none] [.inl (Int32.ofInt (1))] G Q) : mj_X d 12033 50 [none, none] [] G Q := mj_X_sp (n := 2) (h1)
theorem mk_12033_54 {d : Nat} {Q : mj_O → mj_G → Prop} {G : mj_G} (h1 : mj_X d 12033 55 [none, none] [.inl (Int32.ofInt (0))] G Q) : mj_X d 12033 54 [none, none] [] G Q := mj_X_sp (n := 1) (h1)
theorem mk_12033_55 {d : Nat} {Q : mj_O → mj_G → Prop} {G : mj_G} {s0 : Int32} (h1 : Q (.inl (some (.inl (s0)))) (G)) : mj_X d 12033 55 [none, none] [.inl (s0)] G Q := mj_X_ir rfl trivial h1
theorem mk_12033_56 {d : Nat} {Q : mj_O → mj_G → Prop} {G : mj_G} {x1 : Int32} (h1 : ¬ (x1) = ((Int8.ofInt (62)).toInt32) → mj_X d 12033 66 [none, some (.inl (x1))] [] G Q) (h2 : (x1) = ((Int8.ofInt (62)).toInt32) → mj_X d 12033 62 [none, none] [] G Q) : mj_X d 12033 56 [none, some (.inl (x1))] [] G Q := mj_X_sp (n := 3) (And.intro (fun q => (h1 q)) (fun q => (mj_X_wk (mj_le_n (mj_le_n mj_le_0)) (h2 (Decidable.not_not.mp q)))))
theorem mk_12033_62 {d : Nat} {Q : mj_O → mj_G → Prop} {G : mj_G} (h1 : mj_X d 12033 77 [none, none] [.inl (Int32.ofInt (0))] G Q) : mj_X d 12033 62 [none, none] [] G Q := mj_X_sp (n := 2) (h1)
theorem mk_12033_66 {d : Nat} {Q : mj_O → mj_G → Prop} {G : mj_G} {x1 : Int32} (h1 : ¬ (x1) = ((Int8.ofInt (115)).toInt32) → mj_X d 12033 76 [none, none] [] G Q) (h2 : (x1) = ((Int8.ofInt (115)).toInt32) → mj_X d 12033 72 [none, none] [] G Q) : mj_X d 12033 66 [none, some (.inl (x1))] [] G Q := mj_X_sp (n := 3) (And.intro (fun q => (mj_X_wk (mj_le_n (mj_le_n mj_le_0)) (h1 q))) (fun q => (mj_X_wk (mj_le_n (mj_le_n mj_le_0)) (h2 (Decidable.not_not.mp q)))))
theorem mk_12033_72 {d : Nat} {Q : mj_O → mj_G → Prop} {G : mj_G} (h1 : mj_X d 12033 77 [none, none] [.inl (Int32.ofInt (4))] G Q) : mj_X d 12033 72 [none, none] [] G Q := mj_X_sp (n := 2) (h1)
theorem mk_12033_76 {d : Nat} {Q : mj_O → mj_G → Prop} {G : mj_G} (h1 : mj_X d 12033 77 [none, none] [.inl (Int32.ofInt (2))] G Q) : mj_X d 12033 76 [none, none] [] G Q := mj_X_sp (n := 1) (h1)
theorem mk_12033_77 {d : Nat} {Q : mj_O → mj_G → Prop} {G : mj_G} {s0 : Int32} (h1 : Q (.inl (some (.inl (s0)))) (G)) : mj_X d 12033 77 [none, none] [.inl (s0)] G Q := mj_X_ir rfl trivial h1
theorem mk_12033_78 {d : Nat} {Q : mj_O → mj_G → Prop} {G : mj_G} {x1 : Int32} (h1 : ¬ (x1) = ((Int8.ofInt (62)).toInt32) → mj_X d 12033 88 [none, some (.inl (x1))] [] G Q) (h2 : (x1) = ((Int8.ofInt (62)).toInt32) → mj_X d 12033 84 [none, none] [] G Q) : mj_X d 12033 78 [none, some (.inl (x1))] [] G Q := mj_X_sp (n := 3) (And.intro (fun q => (h1 q)) (fun q => (mj_X_wk (mj_le_n (mj_le_n mj_le_0)) (h2 (Decidable.not_not.mp q)))))
theorem mk_12033_84 {d : Nat} {Q : mj_O → mj_G → Prop} {G : mj_G} (h1 : mj_X d 12033 99 [none, none] [.inl (Int32.ofInt (0))] G Q) : mj_X d 12033 84 [none, none] [] G Q := mj_X_sp (n := 2) (h1)
theorem mk_12033_88 {d : Nat} {Q : mj_O → mj_G → Prop} {G : mj_G} {x1 : Int32} (h1 : ¬ (x1) = ((Int8.ofInt (34)).toInt32) → mj_X d 12033 98 [none, none] [] G Q) (h2 : (x1) = ((Int8.ofInt (34)).toInt32) → mj_X d 12033 94 [none, none] [] G Q) : mj_X d 12033 88 [none, some (.inl (x1))] [] G Q := mj_X_sp (n := 3) (And.intro (fun q => (mj_X_wk (mj_le_n (mj_le_n mj_le_0)) (h1 q))) (fun q => (mj_X_wk (mj_le_n (mj_le_n mj_le_0)) (h2 (Decidable.not_not.mp q)))))
theorem mk_12033_94 {d : Nat} {Q : mj_O → mj_G → Prop} {G : mj_G} (h1 : mj_X d 12033 99 [none, none] [.inl (Int32.ofInt (3))] G Q) : mj_X d 12033 94 [none, none] [] G Q := mj_X_sp (n := 2) (h1)
theorem mk_12033_98 {d : Nat} {Q : mj_O → mj_G → Prop} {G : mj_G} (h1 : mj_X d 12033 99 [none, none] [.inl (Int32.ofInt (2))] G Q) : mj_X d 12033 98 [none, none] [] G Q := mj_X_sp (n := 1) (h1)
theorem mk_12033_99 {d : Nat} {Q : mj_O → mj_G → Prop} {G : mj_G} {s0 : Int32} (h1 : Q (.inl (some (.inl (s0)))) (G)) : mj_X d 12033 99 [none, none] [.inl (s0)] G Q := mj_X_ir rfl trivial h1
theorem mk_12033_100 {d : Nat} {Q : mj_O → mj_G → Prop} {G : mj_G} {x1 : Int32} (h1 : ¬ (x1) = ((Int8.ofInt (34)).toInt32) → mj_X d 12033 110 [none, none] [] G Q) (h2 : (x1) = ((Int8.ofInt (34)).toInt32) → mj_X d 12033 106 [none, none] [] G Q) : mj_X d 12033 100 [none, some (.inl (x1))] [] G Q := mj_X_sp (n := 3) (And.intro (fun q => (mj_X_wk (mj_le_n (mj_le_n mj_le_0)) (h1 q))) (fun q => (mj_X_wk (mj_le_n (mj_le_n mj_le_0)) (h2 (Decidable.not_not.mp q)))))
theorem mk_12033_106 {d : Nat} {Q : mj_O → mj_G → Prop} {G : mj_G} (h1 : mj_X d 12033 111 [none, none] [.inl (Int32.ofInt (2))] G Q) : mj_X d 12033 106 [none, none] [] G Q := mj_X_sp (n := 2) (h1)
theorem mk_12033_110 {d : Nat} {Q : mj_O → mj_G → Prop} {G : mj_G} (h1 : mj_X d 12033 111 [none, none] [.inl (Int32.ofInt (3))] G Q) : mj_X d 12033 110 [none, none] [] G Q := mj_X_sp (n := 1) (h1)
theorem mk_12033_111 {d : Nat} {Q : mj_O → mj_G → Prop} {G : mj_G} {s0 : Int32} (h1 : Q (.inl (some (.inl (s0)))) (G)) : mj_X d 12033 111 [none, none] [.inl (s0)] G Q := mj_X_ir rfl trivial h1
theorem mk_12033_112 {d : Nat} {Q : mj_O → mj_G → Prop} {G : mj_G} {x1 : Int32} (h1 : ¬ (x1) = ((Int8.ofInt (62)).toInt32) → mj_X d 12033 123 [none, some (.inl (x1))] [] G Q) (h2 : (x1) = ((Int8.ofInt (62)).toInt32) → mj_X d 12033 118 [none, none] [] G Q) : mj_X d 12033 112 [none, some (.inl (x1))] [] G Q := mj_X_sp (n := 3) (And.intro (fun q => (h1 q)) (fun q => (mj_X_wk (mj_le_n (mj_le_n mj_le_0)) (h2 (Decidable.not_not.mp q)))))
theorem mk_12033_118 {d : Nat} {Q : mj_O → mj_G → Prop} {G : mj_G} (h1 : mj_X d 12033 134 [none, none] [.inl ((Int8.ofInt (6)).toInt32)] G Q) : mj_X d 12033 118 [none, none] [] G Q := mj_X_sp (n := 2) (h1)
theorem mk_12033_123 {d : Nat} {Q : mj_O → mj_G → Prop} {G : mj_G} {x1 : Int32} (h1 : ¬ (x1) = ((Int8.ofInt (34)).toInt32) → mj_X d 12033 133 [none, none] [] G Q) (h2 : (x1) = ((Int8.ofInt (34)).toInt32) → mj_X d 12033 129 [none, none] [] G Q) : mj_X d 12033 123 [none, some (.inl (x1))] [] G Q := mj_X_sp (n := 3) (And.intro (fun q => (mj_X_wk (mj_le_n (mj_le_n mj_le_0)) (h1 q))) (fun q => (mj_X_wk (mj_le_n (mj_le_n mj_le_0)) (h2 (Decidable.not_not.mp q)))))
theorem mk_12033_129 {d : Nat} {Q : mj_O → mj_G → Prop} {G : mj_G} (h1 : mj_X d 12033 134 [none, none] [.inl (Int32.ofInt (5))] G Q) : mj_X d 12033 129 [none, none] [] G Q := mj_X_sp (n := 2) (h1)
theorem mk_12033_133 {d : Nat} {Q : mj_O → mj_G → Prop} {G : mj_G} (h1 : mj_X d 12033 134 [none, none] [.inl (Int32.ofInt (4))] G Q) : mj_X d 12033 133 [none, none] [] G Q := mj_X_sp (n := 1) (h1)
theorem mk_12033_134 {d : Nat} {Q : mj_O → mj_G → Prop} {G : mj_G} {s0 : Int32} (h1 : Q (.inl (some (.inl (s0)))) (G)) : mj_X d 12033 134 [none, none] [.inl (s0)] G Q := mj_X_ir rfl trivial h1
theorem mk_12033_135 {d : Nat} {Q : mj_O → mj_G → Prop} {G : mj_G} {x1 : Int32} (h1 : ¬ (x1) = ((Int8.ofInt (34)).toInt32) → mj_X d 12033 145 [none, none] [] G Q) (h2 : (x1) = ((Int8.ofInt (34)).toInt32) → mj_X d 12033 141 [none, none] [] G Q) : mj_X d 12033 135 [none, some (.inl (x1))] [] G Q := mj_X_sp (n := 3) (And.intro (fun q => (mj_X_wk (mj_le_n (mj_le_n mj_le_0)) (h1 q))) (fun q => (mj_X_wk (mj_le_n (mj_le_n mj_le_0)) (h2 (Decidable.not_not.mp q)))))
theorem mk_12033_141 {d : Nat} {Q : mj_O → mj_G → Prop} {G : mj_G} (h1 : mj_X d 12033 146 [none, none] [.inl (Int32.ofInt (4))] G Q) : mj_X d 12033 141 [none, none] [] G Q := mj_X_sp (n := 2) (h1)
theorem mk_12033_145 {d : Nat} {Q : mj_O → mj_G → Prop} {G : mj_G} (h1 : mj_X d 12033 146 [none, none] [.inl (Int32.ofInt (5))] G Q) : mj_X d 12033 145 [none, none] [] G Q := mj_X_sp (n := 1) (h1)
theorem mk_12033_146 {d : Nat} {Q : mj_O → mj_G → Prop} {G : mj_G} {s0 : Int32} (h1 : Q (.inl (some (.inl (s0)))) (G)) : mj_X d 12033 146 [none, none] [.inl (s0)] G Q := mj_X_ir rfl trivial h1
theorem mk_12033_147 {d : Nat} {Q : mj_O → mj_G → Prop} {G : mj_G} {x1 : Int32} (h1 : ¬ (x1) = ((Int8.ofInt (39)).toInt32) → mj_X d 12033 158 [none, some (.inl (x1))] [] G Q) (h2 : (x1) = ((Int8.ofInt (39)).toInt32) → mj_X d 12033 153 [none, none] [] G Q) : mj_X d 12033 147 [none, some (.inl (x1))] [] G Q := mj_X_sp (n := 3) (And.intro (fun q => (h1 q)) (fun q => (mj_X_wk (mj_le_n (mj_le_n mj_le_0)) (h2 (Decidable.not_not.mp q)))))
theorem mk_12033_153 {d : Nat} {Q : mj_O → mj_G → Prop} {G : mj_G} (h1 : mj_X d 12033 170 [none, none] [.inl ((Int8.ofInt (7)).toInt32)] G Q) : mj_X d 12033 153 [none, none] [] G Q := mj_X_sp (n := 2) (h1)
theorem mk_12033_158 {d : Nat} {Q : mj_O → mj_G → Prop} {G : mj_G} {x1 : Int32} (h1 : ¬ (x1) = ((Int8.ofInt (60)).toInt32) → mj_X d 12033 168 [none, none] [] G Q) (h2 : (x1) = ((Int8.ofInt (60)).toInt32) → mj_X d 12033 164 [none, none] [] G Q) : mj_X d 12033 158 [none, some (.inl (x1))] [] G Q := mj_X_sp (n := 3) (And.intro (fun q => (mj_X_wk (mj_le_n (mj_le_n mj_le_0)) (h1 q))) (fun q => (mj_X_wk (mj_le_n (mj_le_n mj_le_0)) (h2 (Decidable.not_not.mp q)))))
theorem mk_12033_164 {d : Nat} {Q : mj_O → mj_G → Prop} {G : mj_G} (h1 : mj_X d 12033 170 [none, none] [.inl (Int32.ofInt (1))] G Q) : mj_X d 12033 164 [none, none] [] G Q := mj_X_sp (n := 2) (h1)
theorem mk_12033_168 {d : Nat} {Q : mj_O → mj_G → Prop} {G : mj_G} (h1 : mj_X d 12033 170 [none, none] [.inl ((Int8.ofInt (6)).toInt32)] G Q) : mj_X d 12033 168 [none, none] [] G Q := mj_X_sp (n := 1) (h1)
theorem mk_12033_170 {d : Nat} {Q : mj_O → mj_G → Prop} {G : mj_G} {s0 : Int32} (h1 : Q (.inl (some (.inl (s0)))) (G)) : mj_X d 12033 170 [none, none] [.inl (s0)] G Q := mj_X_ir rfl trivial h1
theorem mk_12033_171 {d : Nat} {Q : mj_O → mj_G → Prop} {G : mj_G} {x1 : Int32} (h1 : ¬ (x1) = ((Int8.ofInt (39)).toInt32) → mj_X d 12033 182 [none, none] [] G Q) (h2 : (x1) = ((Int8.ofInt (39)).toInt32) → mj_X d 12033 177 [none, none] [] G Q) : mj_X d 12033 171 [none, some (.inl (x1))] [] G Q := mj_X_sp (n := 3) (And.intro (fun q => (mj_X_wk (mj_le_n (mj_le_n mj_le_0)) (h1 q))) (fun q => (mj_X_wk (mj_le_n (mj_le_n mj_le_0)) (h2 (Decidable.not_not.mp q)))))
theorem mk_12033_177 {d : Nat} {Q : mj_O → mj_G → Prop} {G : mj_G} (h1 : mj_X d 12033 184 [none, none] [.inl ((Int8.ofInt (6)).toInt32)] G Q) : mj_X d 12033 177 [none, none] [] G Q := mj_X_sp (n := 2) (h1)
theorem mk_12033_182 {d : Nat} {Q : mj_O → mj_G → Prop} {G : mj_G} (h1 : mj_X d 12033 184 [none, none] [.inl ((Int8.ofInt (7)).toInt32)] G Q) : mj_X d 12033 182 [none, none] [] G Q := mj_X_sp (n := 1) (h1)
theorem mk_12033_184 {d : Nat} {Q : mj_O → mj_G → Prop} {G : mj_G} {s0 : Int32} (h1 : Q (.inl (some (.inl (s0)))) (G)) : mj_X d 12033 184 [none, none] [.inl (s0)] G Q := mj_X_ir rfl trivial h1
/-! 12034: TemplateQuarry.escapedLength(CI)I -/
theorem mk_12034_0 {d : Nat} {Q : mj_O → mj_G → Prop} {G : mj_G} {x0 x1 : Int32} (h1 : (x1) = Int32.ofInt (0) → mj_X d 12034 48 [some (.inl (x0)), none] [] G Q) (h2 : (x1) = Int32.ofInt (1) → mj_X d 12034 63 [none, none] [] G Q) (h3 : (x1) = Int32.ofInt (2) → mj_X d 12034 65 [some (.inl (x0)), none] [] G Q) (h4 : (x1) = Int32.ofInt (3) → mj_X d 12034 48 [some (.inl (x0)), none] [] G Q) (h5 : (x1) = Int32.ofInt (4) → mj_X d 12034 65 [some (.inl (x0)), none] [] G Q) (h6 : (x1) = Int32.ofInt (5) → mj_X d 12034 48 [some (.inl (x0)), none] [] G Q) (h7 : (x1) = Int32.ofInt (6) → mj_X d 12034 65 [some (.inl (x0)), none] [] G Q) (h8 : (x1) = Int32.ofInt (7) → mj_X d 12034 61 [none, none] [] G Q) (h9 : ¬ (x1) = Int32.ofInt (0) → ¬ (x1) = Int32.ofInt (1) → ¬ (x1) = Int32.ofInt (2) → ¬ (x1) = Int32.ofInt (3) → ¬ (x1) = Int32.ofInt (4) → ¬ (x1) = Int32.ofInt (5) → ¬ (x1) = Int32.ofInt (6) → ¬ (x1) = Int32.ofInt (7) → mj_X d 12034 65 [some (.inl (x0)), none] [] G Q) : mj_X d 12034 0 [some (.inl (x0)), some (.inl (x1))] [] G Q := mj_X_sp (n := 2) ((And.intro (fun q => (mj_X_wk (mj_le_s (mj_le_n mj_le_0)) (h1 q))) (fun n1 => (And.intro (fun q => (mj_X_wk (mj_le_n (mj_le_n mj_le_0)) (h2 q))) (fun n2 => (And.intro (fun q => (mj_X_wk (mj_le_s (mj_le_n mj_le_0)) (h3 q))) (fun n3 => (And.intro (fun q => (mj_X_wk (mj_le_s (mj_le_n mj_le_0)) (h4 q))) (fun n4 => (And.intro (fun q => (mj_X_wk (mj_le_s (mj_le_n mj_le_0)) (h5 q))) (fun n5 => (And.intro (fun q => (mj_X_wk (mj_le_s (mj_le_n mj_le_0)) (h6 q))) (fun n6 => (And.intro (fun q => (mj_X_wk (mj_le_s (mj_le_n mj_le_0)) (h7 q))) (fun n7 => (And.intro (fun q => (mj_X_wk (mj_le_n (mj_le_n mj_le_0)) (h8 q))) (fun n8 => (mj_X_wk (mj_le_s (mj_le_n mj_le_0)) (h9 n1 n2 n3 n4 n5 n6 n7 n8)))))))))))))))))))
theorem mk_12034_48 {d : Nat} {Q : mj_O → mj_G → Prop} {G : mj_G} {x0 : Int32} (h1 : mj_X d 12034 49 [none, none] [.inl (x0)] G Q) : mj_X d 12034 48 [some (.inl (x0)), none] [] G Q := mj_X_sp (n := 1) ((mj_X_wk (mj_le_n (mj_le_n mj_le_0)) h1))
theorem mc_12034_49 {d : Nat} {Q : mj_O → mj_G → Prop} {G : mj_G} {s0 : Int32} {R : Int32 → mj_G → Prop} (h1 : mj_X d 12036 0 [some (.inl (s0))] [] G (fun o G1 => ∃ v, o = .inl (some (.inl (v))) ∧ R v G1)) (k : ∀ v G1, R v G1 → mj_X (d + 1) 12034 52 [none, none] [.inl (v)] G1 Q) : mj_X (d + 1) 12034 49 [none, none] [.inl (s0)] G Q :=
  mj_X_callP rfl rfl rfl (Nat.le_of_ble_eq_true rfl) (And.intro (Nat.le_of_ble_eq_true rfl) trivial) h1 (fun o G1 h => by
    obtain ⟨v, rfl, h⟩ := h
    exact mj_X_wk (mj_le_n (mj_le_n mj_le_0)) (k v G1 h))
theorem mk_12034_52 {d : Nat} {Q : mj_O → mj_G → Prop} {G : mj_G} {s0 : Int32} (h1 : ¬ (s0) = ((0 : Int32)) → mj_X d 12034 59 [none, none] [] G Q) (h2 : (s0) = ((0 : Int32)) → mj_X d 12034 55 [none, none] [] G Q) : mj_X d 12034 52 [none, none] [.inl (s0)] G Q := mj_X_sp (n := 1) (And.intro (fun q => (h1 q)) (fun q => (h2 (Decidable.not_not.mp q))))
theorem mk_12034_55 {d : Nat} {Q : mj_O → mj_G → Prop} {G : mj_G} (h1 : mj_X d 12034 60 [none, none] [.inl (Int32.ofInt (1))] G Q) : mj_X d 12034 55 [none, none] [] G Q := mj_X_sp (n := 2) (h1)
theorem mk_12034_59 {d : Nat} {Q : mj_O → mj_G → Prop} {G : mj_G} (h1 : mj_X d 12034 60 [none, none] [.inl (Int32.ofInt (3))] G Q) : mj_X d 12034 59 [none, none] [] G Q := mj_X_sp (n := 1) (h1)
theorem mk_12034_60 {d : Nat} {Q : mj_O → mj_G → Prop} {G : mj_G} {s0 : Int32} (h1 : Q (.inl (some (.inl (s0)))) (G)) : mj_X d 12034 60 [none, none] [.inl (s0)] G Q := mj_X_ir rfl trivial h1
theorem mk_12034_61 {d : Nat} {Q : mj_O → mj_G → Prop} {G : mj_G} (h1 : Q (.inl (some (.inl (Int32.ofInt (1))))) (G)) : mj_X d 12034 61 [none, none] [] G Q := mj_X_sp (n := 1) (mj_X_ir rfl trivial h1)
theorem mk_12034_63 {d : Nat} {Q : mj_O → mj_G → Prop} {G : mj_G} (h1 : Q (.inl (some (.inl (Int32.ofInt (0))))) (G)) : mj_X d 12034 63 [none, none] [] G Q := mj_X_sp (n := 1) (mj_X_ir rfl trivial h1)
theorem mk_12034_65 {d : Nat} {Q : mj_O → mj_G → Prop} {G : mj_G} {x0 : Int32} (h1 : mj_X d 12034 66 [some (.inl (x0)), none] [.inl (x0)] G Q) : mj_X d 12034 65 [some (.inl (x0)), none] [] G Q := mj_X_sp (n := 1) (h1)
theorem mc_12034_66 {d : Nat} {Q : mj_O → mj_G → Prop} {G : mj_G} {x0 s0 : Int32} {R : Int32 → mj_G → Prop} (h1 : mj_X d 12030 0 [some (.inl (s0))] [] G (fun o G1 => ∃ v, o = .inl (some (.inl (v))) ∧ R v G1)) (k : ∀ v G1, R v G1 → mj_X (d + 1) 12034 69 [some (.inl (x0)), none] [.inl (v)] G1 Q) : mj_X (d + 1) 12034 66 [some (.inl (x0)), none] [.inl (s0)] G Q :=
  mj_X_callP rfl rfl rfl (Nat.le_of_ble_eq_true rfl) (And.intro (Nat.le_of_ble_eq_true rfl) trivial) h1 (fun o G1 h => by
    obtain ⟨v, rfl, h⟩ := h
    exact mj_X_wk (mj_le_s (mj_le_n mj_le_0)) (k v G1 h))
theorem mk_12034_69 {d : Nat} {Q : mj_O → mj_G → Prop} {G : mj_G} {x0 s0 : Int32} (h1 : ¬ (s0) = ((0 : Int32)) → mj_X d 12034 91 [none, none] [] G Q) (h2 : (s0) = ((0 : Int32)) → mj_X d 12034 72 [some (.inl (x0)), none] [] G Q) : mj_X d 12034 69 [some (.inl (x0)), none] [.inl (s0)] G Q := mj_X_sp (n := 1) (And.intro (fun q => (mj_X_wk (mj_le_n (mj_le_n mj_le_0)) (h1 q))) (fun q => (h2 (Decidable.not_not.mp q))))
theorem mk_12034_72 {d : Nat} {Q : mj_O → mj_G → Prop} {G : mj_G} {x0 : Int32} (h1 : mj_X d 12034 73 [some (.inl (x0)), none] [.inl (x0)] G Q) : mj_X d 12034 72 [some (.inl (x0)), none] [] G Q := mj_X_sp (n := 1) (h1)
theorem mc_12034_73 {d : Nat} {Q : mj_O → mj_G → Prop} {G : mj_G} {x0 s0 : Int32} {R : Int32 → mj_G → Prop} (h1 : mj_X d 12029 0 [some (.inl (s0))] [] G (fun o G1 => ∃ v, o = .inl (some (.inl (v))) ∧ R v G1)) (k : ∀ v G1, R v G1 → mj_X (d + 1) 12034 76 [some (.inl (x0)), none] [.inl (v)] G1 Q) : mj_X (d + 1) 12034 73 [some (.inl (x0)), none] [.inl (s0)] G Q :=
  mj_X_callP rfl rfl rfl (Nat.le_of_ble_eq_true rfl) (And.intro (Nat.le_of_ble_eq_true rfl) trivial) h1 (fun o G1 h => by
    obtain ⟨v, rfl, h⟩ := h
    exact mj_X_wk (mj_le_s (mj_le_n mj_le_0)) (k v G1 h))
theorem mk_12034_76 {d : Nat} {Q : mj_O → mj_G → Prop} {G : mj_G} {x0 s0 : Int32} (h1 : ¬ (s0) = ((0 : Int32)) → mj_X d 12034 91 [none, none] [] G Q) (h2 : (s0) = ((0 : Int32)) → mj_X d 12034 79 [some (.inl (x0)), none] [] G Q) : mj_X d 12034 76 [some (.inl (x0)), none] [.inl (s0)] G Q := mj_X_sp (n := 1) (And.intro (fun q => (mj_X_wk (mj_le_n (mj_le_n mj_le_0)) (h1 q))) (fun q => (h2 (Decidable.not_not.mp q))))
theorem mk_12034_79 {d : Nat} {Q : mj_O → mj_G → Prop} {G : mj_G} {x0 : Int32} (h1 : (x0) < ((Int8.ofInt (65)).toInt32) → mj_X d 12034 95 [none, none] [] G Q) (h2 : ¬ (x0) < ((Int8.ofInt (65)).toInt32) → mj_X d 12034 85 [some (.inl (x0)), none] [] G Q) : mj_X d 12034 79 [some (.inl (x0)), none] [] G Q := mj_X_sp (n := 3) (And.intro (fun q => (mj_X_wk (mj_le_n (mj_le_n mj_le_0)) (h1 q))) (fun q => (h2 q)))
theorem mk_12034_85 {d : Nat} {Q : mj_O → mj_G → Prop} {G : mj_G} {x0 : Int32} (h1 : ((Int8.ofInt (90)).toInt32) < (x0) → mj_X d 12034 95 [none, none] [] G Q) (h2 : ¬ ((Int8.ofInt (90)).toInt32) < (x0) → mj_X d 12034 91 [none, none] [] G Q) : mj_X d 12034 85 [some (.inl (x0)), none] [] G Q := mj_X_sp (n := 3) (And.intro (fun q => (mj_X_wk (mj_le_n (mj_le_n mj_le_0)) (h1 q))) (fun q => (mj_X_wk (mj_le_n (mj_le_n mj_le_0)) (h2 q))))
theorem mk_12034_91 {d : Nat} {Q : mj_O → mj_G → Prop} {G : mj_G} (h1 : mj_X d 12034 96 [none, none] [.inl (Int32.ofInt (1))] G Q) : mj_X d 12034 91 [none, none] [] G Q := mj_X_sp (n := 2) (h1)
theorem mk_12034_95 {d : Nat} {Q : mj_O → mj_G → Prop} {G : mj_G} (h1 : mj_X d 12034 96 [none, none] [.inl (Int32.ofInt (0))] G Q) : mj_X d 12034 95 [none, none] [] G Q := mj_X_sp (n := 1) (h1)
theorem mk_12034_96 {d : Nat} {Q : mj_O → mj_G → Prop} {G : mj_G} {s0 : Int32} (h1 : Q (.inl (some (.inl (s0)))) (G)) : mj_X d 12034 96 [none, none] [.inl (s0)] G Q := mj_X_ir rfl trivial h1
/-! 12035: TemplateQuarry.escaped(CII)C -/
theorem mk_12035_0 {d : Nat} {Q : mj_O → mj_G → Prop} {G : mj_G} {x0 x1 x2 : Int32} (h1 : ¬ (x1) = ((Int8.ofInt (7)).toInt32) → mj_X d 12035 31 [some (.inl (x0)), some (.inl (x1)), some (.inl (x2)), none] [] G Q) (h2 : (x1) = ((Int8.ofInt (7)).toInt32) → mj_X d 12035 6 [some (.inl (x0)), none, none, none] [] G Q) : mj_X d 12035 0 [some (.inl (x0)), some (.inl (x1)), some (.inl (x2)), none] [] G Q := mj_X_sp (n := 3) (And.intro (fun q => (h1 q)) (fun q => (mj_X_wk (mj_le_s (mj_le_n (mj_le_n (mj_le_n mj_le_0)))) (h2 (Decidable.not_not.mp q)))))
theorem mk_12035_6 {d : Nat} {Q : mj_O → mj_G → Prop} {G : mj_G} {x0 : Int32} (h1 : (x0) = ((Int8.ofInt (39)).toInt32) → mj_X d 12035 24 [none, none, none, none] [] G Q) (h2 : ¬ (x0) = ((Int8.ofInt (39)).toInt32) → mj_X d 12035 12 [some (.inl (x0)), none, none, none] [] G Q) : mj_X d 12035 6 [some (.inl (x0)), none, none, none] [] G Q := mj_X_sp (n := 3) (And.intro (fun q => (mj_X_wk (mj_le_n (mj_le_n (mj_le_n (mj_le_n mj_le_0)))) (h1 q))) (fun q => (h2 q)))
theorem mk_12035_12 {d : Nat} {Q : mj_O → mj_G → Prop} {G : mj_G} {x0 : Int32} (h1 : (x0) = ((Int8.ofInt (92)).toInt32) → mj_X d 12035 24 [none, none, none, none] [] G Q) (h2 : ¬ (x0) = ((Int8.ofInt (92)).toInt32) → mj_X d 12035 18 [some (.inl (x0)), none, none, none] [] G Q) : mj_X d 12035 12 [some (.inl (x0)), none, none, none] [] G Q := mj_X_sp (n := 3) (And.intro (fun q => (mj_X_wk (mj_le_n (mj_le_n (mj_le_n (mj_le_n mj_le_0)))) (h1 q))) (fun q => (h2 q)))
theorem mk_12035_18 {d : Nat} {Q : mj_O → mj_G → Prop} {G : mj_G} {x0 : Int32} (h1 : ¬ (x0) = ((Int8.ofInt (60)).toInt32) → mj_X d 12035 29 [some (.inl (x0)), none, none, none] [] G Q) (h2 : (x0) = ((Int8.ofInt (60)).toInt32) → mj_X d 12035 24 [none, none, none, none] [] G Q) : mj_X d 12035 18 [some (.inl (x0)), none, none, none] [] G Q := mj_X_sp (n := 3) (And.intro (fun q => (h1 q)) (fun q => (mj_X_wk (mj_le_n (mj_le_n (mj_le_n (mj_le_n mj_le_0)))) (h2 (Decidable.not_not.mp q)))))
theorem mk_12035_24 {d : Nat} {Q : mj_O → mj_G → Prop} {G : mj_G} (h1 : mj_X d 12035 30 [none, none, none, none] [.inl ((Int8.ofInt (95)).toInt32)] G Q) : mj_X d 12035 24 [none, none, none, none] [] G Q := mj_X_sp (n := 2) (h1)
theorem mk_12035_29 {d : Nat} {Q : mj_O → mj_G → Prop} {G : mj_G} {x0 : Int32} (h1 : mj_X d 12035 30 [none, none, none, none] [.inl (x0)] G Q) : mj_X d 12035 29 [some (.inl (x0)), none, none, none] [] G Q := mj_X_sp (n := 1) ((mj_X_wk (mj_le_n (mj_le_n (mj_le_n (mj_le_n mj_le_0)))) h1))
theorem mk_12035_30 {d : Nat} {Q : mj_O → mj_G → Prop} {G : mj_G} {s0 : Int32} (h1 : mj_c (s0)) (h2 : Q (.inl (some (.inl (s0)))) (G)) : mj_X d 12035 30 [none, none, none, none] [.inl (s0)] G Q := mj_X_ir rfl h1 h2
theorem mk_12035_31 {d : Nat} {Q : mj_O → mj_G → Prop} {G : mj_G} {x0 x1 x2 : Int32} (h1 : (x1) = ((0 : Int32)) → mj_X d 12035 45 [some (.inl (x0)), none, some (.inl (x2)), none] [] G Q) (h2 : ¬ (x1) = ((0 : Int32)) → mj_X d 12035 35 [some (.inl (x0)), some (.inl (x1)), some (.inl (x2)), none] [] G Q) : mj_X d 12035 31 [some (.inl (x0)), some (.inl (x1)), some (.inl (x2)), none] [] G Q := mj_X_sp (n := 2) (And.intro (fun q => (mj_X_wk (mj_le_s (mj_le_n (mj_le_s (mj_le_n mj_le_0)))) (h1 q))) (fun q => (h2 q)))
theorem mk_12035_35 {d : Nat} {Q : mj_O → mj_G → Prop} {G : mj_G} {x0 x1 x2 : Int32} (h1 : (x1) = (Int32.ofInt (3)) → mj_X d 12035 45 [some (.inl (x0)), none, some (.inl (x2)), none] [] G Q) (h2 : ¬ (x1) = (Int32.ofInt (3)) → mj_X d 12035 40 [some (.inl (x0)), some (.inl (x1)), some (.inl (x2)), none] [] G Q) : mj_X d 12035 35 [some (.inl (x0)), some (.inl (x1)), some (.inl (x2)), none] [] G Q := mj_X_sp (n := 3) (And.intro (fun q => (mj_X_wk (mj_le_s (mj_le_n (mj_le_s (mj_le_n mj_le_0)))) (h1 q))) (fun q => (h2 q)))
theorem mk_12035_40 {d : Nat} {Q : mj_O → mj_G → Prop} {G : mj_G} {x0 x1 x2 : Int32} (h1 : ¬ (x1) = (Int32.ofInt (5)) → mj_X d 12035 52 [some (.inl (x0)), none, some (.inl (x2)), none] [] G Q) (h2 : (x1) = (Int32.ofInt (5)) → mj_X d 12035 45 [some (.inl (x0)), none, some (.inl (x2)), none] [] G Q) : mj_X d 12035 40 [some (.inl (x0)), some (.inl (x1)), some (.inl (x2)), none] [] G Q := mj_X_sp (n := 3) (And.intro (fun q => (mj_X_wk (mj_le_s (mj_le_n (mj_le_s (mj_le_n mj_le_0)))) (h1 q))) (fun q => (mj_X_wk (mj_le_s (mj_le_n (mj_le_s (mj_le_n mj_le_0)))) (h2 (Decidable.not_not.mp q)))))
theorem mk_12035_45 {d : Nat} {Q : mj_O → mj_G → Prop} {G : mj_G} {x0 x2 : Int32} (h1 : mj_X d 12035 46 [some (.inl (x0)), none, some (.inl (x2)), none] [.inl (x0)] G Q) : mj_X d 12035 45 [some (.inl (x0)), none, some (.inl (x2)), none] [] G Q := mj_X_sp (n := 1) (h1)
theorem mc_12035_46 {d : Nat} {Q : mj_O → mj_G → Prop} {G : mj_G} {x0 x2 s0 : Int32} {R : Int32 → mj_G → Prop} (h1 : mj_X d 12036 0 [some (.inl (s0))] [] G (fun o G1 => ∃ v, o = .inl (some (.inl (v))) ∧ R v G1)) (k : ∀ v G1, R v G1 → mj_X (d + 1) 12035 49 [some (.inl (x0)), none, some (.inl (x2)), none] [.inl (v)] G1 Q) : mj_X (d + 1) 12035 46 [some (.inl (x0)), none, some (.inl (x2)), none] [.inl (s0)] G Q :=
  mj_X_callP rfl rfl rfl (Nat.le_of_ble_eq_true rfl) (And.intro (Nat.le_of_ble_eq_true rfl) trivial) h1 (fun o G1 h => by
    obtain ⟨v, rfl, h⟩ := h
    exact mj_X_wk (mj_le_s (mj_le_n (mj_le_s (mj_le_n mj_le_0)))) (k v G1 h))
theorem mk_12035_49 {d : Nat} {Q : mj_O → mj_G → Prop} {G : mj_G} {x0 x2 s0 : Int32} (h1 : mj_X d 12035 53 [some (.inl (x0)), none, some (.inl (x2)), none] [.inl (s0)] G Q) : mj_X d 12035 49 [some (.inl (x0)), none, some (.inl (x2)), none] [.inl (s0)] G Q := mj_X_sp (n := 1) (h1)
theorem mk_12035_52 {d : Nat} {Q : mj_O → mj_G → Prop} {G : mj_G} {x0 x2 : Int32} (h1 : mj_X d 12035 53 [some (.inl (x0)), none, some (.inl (x2)), none] [.inl (Int32.ofInt (0))] G Q) : mj_X d 12035 52 [some (.inl (x0)), none, some (.inl (x2)), none] [] G Q := mj_X_sp (n := 1) (h1)
theorem mk_12035_53 {d : Nat} {Q : mj_O → mj_G → Prop} {G : mj_G} {x0 x2 s0 : Int32} (h1 : ¬ (s0) = ((0 : Int32)) → mj_X d 12035 62 [none, none, some (.inl (x2)), some (.inl (s0))] [] G Q) (h2 : (s0) = ((0 : Int32)) → mj_X d 12035 58 [some (.inl (x0)), none, none, none] [] G Q) : mj_X d 12035 53 [some (.inl (x0)), none, some (.inl (x2)), none] [.inl (s0)] G Q := mj_X_sp (n := 3) (And.intro (fun q => (mj_X_wk (mj_le_n (mj_le_n (mj_le_s (mj_le_s mj_le_0)))) (h1 q))) (fun q => (mj_X_wk (mj_le_s (mj_le_n (mj_le_n (mj_le_n mj_le_0)))) (h2 (Decidable.not_not.mp q)))))
theorem mk_12035_58 {d : Nat} {Q : mj_O → mj_G → Prop} {G : mj_G} {x0 : Int32} (h1 : mj_X d 12035 82 [none, none, none, none] [.inl (x0)] G Q) : mj_X d 12035 58 [some (.inl (x0)), none, none, none] [] G Q := mj_X_sp (n := 2) ((mj_X_wk (mj_le_n (mj_le_n (mj_le_n (mj_le_n mj_le_0)))) h1))
theorem mk_12035_62 {d : Nat} {Q : mj_O → mj_G → Prop} {G : mj_G} {x2 x3 : Int32} (h1 : ¬ (x2) = ((0 : Int32)) → mj_X d 12035 71 [none, none, some (.inl (x2)), some (.inl (x3))] [] G Q) (h2 : (x2) = ((0 : Int32)) → mj_X d 12035 66 [none, none, none, none] [] G Q) : mj_X d 12035 62 [none, none, some (.inl (x2)), some (.inl (x3))] [] G Q := mj_X_sp (n := 2) (And.intro (fun q => (h1 q)) (fun q => (mj_X_wk (mj_le_n (mj_le_n (mj_le_n (mj_le_n mj_le_0)))) (h2 (Decidable.not_not.mp q)))))
theorem mk_12035_66 {d : Nat} {Q : mj_O → mj_G → Prop} {G : mj_G} (h1 : mj_X d 12035 82 [none, none, none, none] [.inl ((Int8.ofInt (38)).toInt32)] G Q) : mj_X d 12035 66 [none, none, none, none] [] G Q := mj_X_sp (n := 2) (h1)
theorem mk_12035_71 {d : Nat} {Q : mj_O → mj_G → Prop} {G : mj_G} {x2 x3 : Int32} (h1 : ¬ (x2) = (Int32.ofInt (1)) → mj_X d 12035 80 [none, none, none, none] [] G Q) (h2 : (x2) = (Int32.ofInt (1)) → mj_X d 12035 76 [none, none, none, some (.inl (x3))] [] G Q) : mj_X d 12035 71 [none, none, some (.inl (x2)), some (.inl (x3))] [] G Q := mj_X_sp (n := 3) (And.intro (fun q => (mj_X_wk (mj_le_n (mj_le_n (mj_le_n (mj_le_n mj_le_0)))) (h1 q))) (fun q => (mj_X_wk (mj_le_n (mj_le_n (mj_le_n (mj_le_s mj_le_0)))) (h2 (Decidable.not_not.mp q)))))
theorem mk_12035_76 {d : Nat} {Q : mj_O → mj_G → Prop} {G : mj_G} {x3 : Int32} (h1 : mj_X d 12035 82 [none, none, none, none] [.inl (x3)] G Q) : mj_X d 12035 76 [none, none, none, some (.inl (x3))] [] G Q := mj_X_sp (n := 2) ((mj_X_wk (mj_le_n (mj_le_n (mj_le_n (mj_le_n mj_le_0)))) h1))
theorem mk_12035_80 {d : Nat} {Q : mj_O → mj_G → Prop} {G : mj_G} (h1 : mj_X d 12035 82 [none, none, none, none] [.inl ((Int8.ofInt (59)).toInt32)] G Q) : mj_X d 12035 80 [none, none, none, none] [] G Q := mj_X_sp (n := 1) (h1)
theorem mk_12035_82 {d : Nat} {Q : mj_O → mj_G → Prop} {G : mj_G} {s0 : Int32} (h1 : mj_c (s0)) (h2 : Q (.inl (some (.inl (s0)))) (G)) : mj_X d 12035 82 [none, none, none, none] [.inl (s0)] G Q := mj_X_ir rfl h1 h2
/-! 12036: TemplateQuarry.entityOf(C)C -/
theorem mk_12036_0 {d : Nat} {Q : mj_O → mj_G → Prop} {G : mj_G} {x0 : Int32} (h1 : (x0) = Int32.ofInt (34) → mj_X d 12036 53 [none] [] G Q) (h2 : (x0) = Int32.ofInt (38) → mj_X d 12036 50 [none] [] G Q) (h3 : (x0) = Int32.ofInt (60) → mj_X d 12036 44 [none] [] G Q) (h4 : (x0) = Int32.ofInt (62) → mj_X d 12036 47 [none] [] G Q) (h5 : ¬ (x0) = Int32.ofInt (34) → ¬ (x0) = Int32.ofInt (38) → ¬ (x0) = Int32.ofInt (60) → ¬ (x0) = Int32.ofInt (62) → mj_X d 12036 56 [none] [] G Q) : mj_X d 12036 0 [some (.inl (x0))] [] G Q := mj_X_sp (n := 2) ((And.intro (fun q => (mj_X_wk (mj_le_n mj_le_0) (h1 q))) (fun n1 => (And.intro (fun q => (mj_X_wk (mj_le_n mj_le_0) (h2 q))) (fun n2 => (And.intro (fun q => (mj_X_wk (mj_le_n mj_le_0) (h3 q))) (fun n3 => (And.intro (fun q => (mj_X_wk (mj_le_n mj_le_0) (h4 q))) (fun n4 => (mj_X_wk (mj_le_n mj_le_0) (h5 n1 n2 n3 n4)))))))))))
theorem mk_12036_44 {d : Nat} {Q : mj_O → mj_G → Prop} {G : mj_G} (h1 : mj_c ((Int8.ofInt (108)).toInt32)) (h2 : Q (.inl (some (.inl ((Int8.ofInt (108)).toInt32)))) (G)) : mj_X d 12036 44 [none] [] G Q := mj_X_sp (n := 1) (mj_X_ir rfl h1 h2)
theorem mk_12036_47 {d : Nat} {Q : mj_O → mj_G → Prop} {G : mj_G} (h1 : mj_c ((Int8.ofInt (103)).toInt32)) (h2 : Q (.inl (some (.inl ((Int8.ofInt (103)).toInt32)))) (G)) : mj_X d 12036 47 [none] [] G Q := mj_X_sp (n := 1) (mj_X_ir rfl h1 h2)
theorem mk_12036_50 {d : Nat} {Q : mj_O → mj_G → Prop} {G : mj_G} (h1 : mj_c ((Int8.ofInt (97)).toInt32)) (h2 : Q (.inl (some (.inl ((Int8.ofInt (97)).toInt32)))) (G)) : mj_X d 12036 50 [none] [] G Q := mj_X_sp (n := 1) (mj_X_ir rfl h1 h2)
theorem mk_12036_53 {d : Nat} {Q : mj_O → mj_G → Prop} {G : mj_G} (h1 : mj_c ((Int8.ofInt (113)).toInt32)) (h2 : Q (.inl (some (.inl ((Int8.ofInt (113)).toInt32)))) (G)) : mj_X d 12036 53 [none] [] G Q := mj_X_sp (n := 1) (mj_X_ir rfl h1 h2)
theorem mk_12036_56 {d : Nat} {Q : mj_O → mj_G → Prop} {G : mj_G} (h1 : mj_c (Int32.ofInt (0))) (h2 : Q (.inl (some (.inl (Int32.ofInt (0))))) (G)) : mj_X d 12036 56 [none] [] G Q := mj_X_sp (n := 1) (mj_X_ir rfl h1 h2)
/-! 12037: TemplateQuarry.literalCell(CI)I -/
theorem mk_12037_0 {d : Nat} {Q : mj_O → mj_G → Prop} {G : mj_G} {x0 x1 v1 v2 : Int32} (h1 : (x0) ||| ((x0) <<< (((Int8.ofInt (7)).toInt32) &&& 31)) = v1) (h2 : ((v1) ||| ((Int16.ofInt (16384)).toInt32)) ||| ((x1) <<< (((Int8.ofInt (18)).toInt32) &&& 31)) = v2) (h3 : Q (.inl (some (.inl (v2)))) (G)) : mj_X d 12037 0 [some (.inl (x0)), some (.inl (x1))] [] G Q := by
  subst h1
  subst h2
  exact mj_X_sp (n := 11) (mj_X_ir rfl trivial h3)
/-! 12038: TemplateQuarry.safeCell(CI)I -/
theorem mk_12038_0 {d : Nat} {Q : mj_O → mj_G → Prop} {G : mj_G} {x0 x1 v1 v2 : Int32} (h1 : (x0) ||| ((x0) <<< (((Int8.ofInt (7)).toInt32) &&& 31)) = v1) (h2 : (v1) ||| ((x1) <<< (((Int8.ofInt (18)).toInt32) &&& 31)) = v2) (h3 : Q (.inl (some (.inl (v2)))) (G)) : mj_X d 12038 0 [some (.inl (x0)), some (.inl (x1))] [] G Q := by
  subst h1
  subst h2
  exact mj_X_sp (n := 9) (mj_X_ir rfl trivial h3)
/-! 12039: TemplateQuarry.escapedCell(CCII)I -/
theorem mk_12039_0 {d : Nat} {Q : mj_O → mj_G → Prop} {G : mj_G} {x0 x1 x2 x3 v1 v2 v3 : Int32} (h1 : (x0) ||| ((x1) <<< (((Int8.ofInt (7)).toInt32) &&& 31)) = v1) (h2 : ((v1) ||| ((32768 : Int32))) ||| ((x2) <<< (((Int8.ofInt (16)).toInt32) &&& 31)) = v2) (h3 : (v2) ||| ((x3) <<< (((Int8.ofInt (18)).toInt32) &&& 31)) = v3) (h4 : Q (.inl (some (.inl (v3)))) (G)) : mj_X d 12039 0 [some (.inl (x0)), some (.inl (x1)), some (.inl (x2)), some (.inl (x3))] [] G Q := by
  subst h1
  subst h2
  subst h3
  exact mj_X_sp (n := 15) (mj_X_ir rfl trivial h4)
/-! 12040: TemplateQuarry.signOf(I)C -/
theorem mk_12040_0 {d : Nat} {Q : mj_O → mj_G → Prop} {G : mj_G} {x0 v1 : Int32} (h1 : (((x0) &&& ((Int8.ofInt (127)).toInt32)).toUInt32 % 65536).toInt32 = v1) (h2 : mj_c (v1)) (h3 : Q (.inl (some (.inl (v1)))) (G)) : mj_X d 12040 0 [some (.inl (x0))] [] G Q := by
  subst h1
  exact mj_X_sp (n := 4) (mj_X_ir rfl h2 h3)
/-! 12041: TemplateQuarry.originOf(I)C -/
theorem mk_12041_0 {d : Nat} {Q : mj_O → mj_G → Prop} {G : mj_G} {x0 v1 : Int32} (h1 : ((x0) >>> (((Int8.ofInt (7)).toInt32) &&& 31)) &&& ((Int8.ofInt (127)).toInt32) = v1) (h2 : mj_c (((v1).toUInt32 % 65536).toInt32)) (h3 : Q (.inl (some (.inl (((v1).toUInt32 % 65536).toInt32)))) (G)) : mj_X d 12041 0 [some (.inl (x0))] [] G Q := by
  subst h1
  exact mj_X_sp (n := 6) (mj_X_ir rfl h2 h3)
/-! 12042: TemplateQuarry.isLiteralBlank(I)Z -/
theorem mk_12042_0 {d : Nat} {Q : mj_O → mj_G → Prop} {G : mj_G} {x0 v1 : Int32} (h1 : ((x0) >>> (((Int8.ofInt (14)).toInt32) &&& 31)) &&& (Int32.ofInt (1)) = v1) (h2 : (v1) = ((0 : Int32)) → mj_X d 12042 22 [none] [] G Q) (h3 : ¬ (v1) = ((0 : Int32)) → mj_X d 12042 9 [some (.inl (x0))] [] G Q) : mj_X d 12042 0 [some (.inl (x0))] [] G Q := by
  subst h1
  exact mj_X_sp (n := 6) (And.intro (fun q => (mj_X_wk (mj_le_n mj_le_0) (h2 q))) (fun q => (h3 q)))
theorem mk_12042_9 {d : Nat} {Q : mj_O → mj_G → Prop} {G : mj_G} {x0 : Int32} (h1 : mj_X d 12042 10 [none] [.inl (x0)] G Q) : mj_X d 12042 9 [some (.inl (x0))] [] G Q := mj_X_sp (n := 1) ((mj_X_wk (mj_le_n mj_le_0) h1))
theorem mc_12042_10 {d : Nat} {Q : mj_O → mj_G → Prop} {G : mj_G} {s0 : Int32} {R : Int32 → mj_G → Prop} (h1 : mj_X d 12040 0 [some (.inl (s0))] [] G (fun o G1 => ∃ v, o = .inl (some (.inl (v))) ∧ R v G1)) (k : ∀ v G1, R v G1 → mj_X (d + 1) 12042 13 [none] [.inl (v)] G1 Q) : mj_X (d + 1) 12042 10 [none] [.inl (s0)] G Q :=
  mj_X_callP rfl rfl rfl (Nat.le_of_ble_eq_true rfl) (And.intro (Nat.le_of_ble_eq_true rfl) trivial) h1 (fun o G1 h => by
    obtain ⟨v, rfl, h⟩ := h
    exact mj_X_wk (mj_le_n mj_le_0) (k v G1 h))
theorem mk_12042_13 {d : Nat} {Q : mj_O → mj_G → Prop} {G : mj_G} {s0 : Int32} (h1 : ¬ (s0) = ((Int8.ofInt (32)).toInt32) → mj_X d 12042 22 [none] [] G Q) (h2 : (s0) = ((Int8.ofInt (32)).toInt32) → mj_X d 12042 18 [none] [] G Q) : mj_X d 12042 13 [none] [.inl (s0)] G Q := mj_X_sp (n := 2) (And.intro (fun q => (h1 q)) (fun q => (h2 (Decidable.not_not.mp q))))
theorem mk_12042_18 {d : Nat} {Q : mj_O → mj_G → Prop} {G : mj_G} (h1 : mj_X d 12042 23 [none] [.inl (Int32.ofInt (1))] G Q) : mj_X d 12042 18 [none] [] G Q := mj_X_sp (n := 2) (h1)
theorem mk_12042_22 {d : Nat} {Q : mj_O → mj_G → Prop} {G : mj_G} (h1 : mj_X d 12042 23 [none] [.inl (Int32.ofInt (0))] G Q) : mj_X d 12042 22 [none] [] G Q := mj_X_sp (n := 1) (h1)
theorem mk_12042_23 {d : Nat} {Q : mj_O → mj_G → Prop} {G : mj_G} {s0 : Int32} (h1 : mj_b (s0)) (h2 : Q (.inl (some (.inl (s0)))) (G)) : mj_X d 12042 23 [none] [.inl (s0)] G Q := mj_X_ir rfl h1 h2
/-! 12043: TemplateQuarry.isEscaped(I)Z -/
theorem mk_12043_0 {d : Nat} {Q : mj_O → mj_G → Prop} {G : mj_G} {x0 v1 : Int32} (h1 : ((x0) >>> (((Int8.ofInt (15)).toInt32) &&& 31)) &&& (Int32.ofInt (1)) = v1) (h2 : (v1) = ((0 : Int32)) → mj_X d 12043 13 [none] [] G Q) (h3 : ¬ (v1) = ((0 : Int32)) → mj_X d 12043 9 [none] [] G Q) : mj_X d 12043 0 [some (.inl (x0))] [] G Q := by
  subst h1
  exact mj_X_sp (n := 6) (And.intro (fun q => (mj_X_wk (mj_le_n mj_le_0) (h2 q))) (fun q => (mj_X_wk (mj_le_n mj_le_0) (h3 q))))
theorem mk_12043_9 {d : Nat} {Q : mj_O → mj_G → Prop} {G : mj_G} (h1 : mj_X d 12043 14 [none] [.inl (Int32.ofInt (1))] G Q) : mj_X d 12043 9 [none] [] G Q := mj_X_sp (n := 2) (h1)
theorem mk_12043_13 {d : Nat} {Q : mj_O → mj_G → Prop} {G : mj_G} (h1 : mj_X d 12043 14 [none] [.inl (Int32.ofInt (0))] G Q) : mj_X d 12043 13 [none] [] G Q := mj_X_sp (n := 1) (h1)
theorem mk_12043_14 {d : Nat} {Q : mj_O → mj_G → Prop} {G : mj_G} {s0 : Int32} (h1 : mj_b (s0)) (h2 : Q (.inl (some (.inl (s0)))) (G)) : mj_X d 12043 14 [none] [.inl (s0)] G Q := mj_X_ir rfl h1 h2
/-! 12044: TemplateQuarry.partOf(I)I -/
theorem mk_12044_0 {d : Nat} {Q : mj_O → mj_G → Prop} {G : mj_G} {x0 v1 : Int32} (h1 : ((x0) >>> (((Int8.ofInt (16)).toInt32) &&& 31)) &&& (Int32.ofInt (3)) = v1) (h2 : Q (.inl (some (.inl (v1)))) (G)) : mj_X d 12044 0 [some (.inl (x0))] [] G Q := by
  subst h1
  exact mj_X_sp (n := 5) (mj_X_ir rfl trivial h2)
/-! 12045: TemplateQuarry.sourceOf(I)I -/
theorem mk_12045_0 {d : Nat} {Q : mj_O → mj_G → Prop} {G : mj_G} {x0 : Int32} (h1 : Q (.inl (some (.inl ((x0) >>> (((Int8.ofInt (18)).toInt32) &&& 31))))) (G)) : mj_X d 12045 0 [some (.inl (x0))] [] G Q := mj_X_sp (n := 3) (mj_X_ir rfl trivial h1)
