/-! BLOCKS OF TEMPLATES (wip/tools/blk.py) -/
/-! 10000: TemplateQuarry$Template.<init>()V -/
theorem mk_10000_0 {d : Nat} {Q : mj_O → mj_G → Prop} {G : mj_G} {r0 v1 v2 : Nat} {G1 G2 G3 G4 G5 : mj_G} (h1 : mj_k (G) (r0) ≠ 0) (h2 : mj_k (G) (r0) = 11) (h3 : G1 = mj_pI (G) (r0) 1 (Int32.ofInt (-1))) (h4 : ¬ ((Int8.ofInt (10)).toInt32) < 0) (h5 : ((Int8.ofInt (10)).toInt32).toNatClampNeg ≤ 1000000) (h6 : mj_n (G1) = v1) (h7 : G2 = mj_al (G1) 35 ((Int8.ofInt (10)).toInt32).toNatClampNeg (fun _ => 0)) (h8 : mj_k (G2) (r0) = 11) (h9 : G3 = mj_pR (G2) (r0) 4 (v1)) (h10 : ¬ ((Int8.ofInt (10)).toInt32) < 0) (h11 : ((Int8.ofInt (10)).toInt32).toNatClampNeg ≤ 1000000) (h12 : mj_n (G3) = v2) (h13 : G4 = mj_al (G3) 35 ((Int8.ofInt (10)).toInt32).toNatClampNeg (fun _ => 0)) (h14 : mj_k (G4) (r0) = 11) (h15 : G5 = mj_pR (G4) (r0) 5 (v2)) (h16 : Q (.inl none) (G5)) : mj_X d 10000 0 [some (.inr (.inr (r0)))] [] G Q := by
  subst h3
  subst h6
  subst h7
  subst h9
  subst h12
  subst h13
  subst h15
  exact mj_X_sp (n := 13) (And.intro h1 (And.intro (Nat.le_of_ble_eq_true rfl) (And.intro trivial (And.intro h2 (And.intro trivial (And.intro trivial (And.intro h4 (And.intro h5 (And.intro (And.intro rfl rfl) (And.intro h8 (And.intro trivial (And.intro h10 (And.intro h11 (And.intro (And.intro rfl rfl) (And.intro h14 (And.intro trivial (mj_X_vr rfl rfl h16)))))))))))))))))
