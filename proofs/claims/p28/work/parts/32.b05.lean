/-! BLOCKS OF NODES (wip/tools/blk.py) -/
/-! 5000: TemplateQuarry$Node.<init>(III)V -/
theorem mk_5000_0 {d : Nat} {Q : mj_O → mj_G → Prop} {G : mj_G} {x1 x2 x3 : Int32} {r0 : Nat} {G1 G2 G3 G4 G5 : mj_G} (h1 : mj_k (G) (r0) ≠ 0) (h2 : mj_k (G) (r0) = 6) (h3 : G1 = mj_pI (G) (r0) 3 (Int32.ofInt (-1))) (h4 : mj_k (G1) (r0) = 6) (h5 : G2 = mj_pI (G1) (r0) 4 (Int32.ofInt (-1))) (h6 : mj_k (G2) (r0) = 6) (h7 : G3 = mj_pI (G2) (r0) 0 (x1)) (h8 : mj_k (G3) (r0) = 6) (h9 : G4 = mj_pI (G3) (r0) 1 (x2)) (h10 : mj_k (G4) (r0) = 6) (h11 : G5 = mj_pI (G4) (r0) 2 (x3)) (h12 : Q (.inl none) (G5)) : mj_X d 5000 0 [some (.inr (.inr (r0))), some (.inl (x1)), some (.inl (x2)), some (.inl (x3))] [] G Q := by
  subst h3
  subst h5
  subst h7
  subst h9
  subst h11
  exact mj_X_sp (n := 17) (And.intro h1 (And.intro (Nat.le_of_ble_eq_true rfl) (And.intro trivial (And.intro h2 (And.intro trivial (And.intro trivial (And.intro trivial (And.intro h4 (And.intro trivial (And.intro trivial (And.intro (And.intro rfl rfl) (And.intro h6 (And.intro trivial (And.intro trivial (And.intro (And.intro rfl rfl) (And.intro h8 (And.intro trivial (And.intro trivial (And.intro (And.intro rfl rfl) (And.intro h10 (And.intro trivial (And.intro trivial (mj_X_vr rfl rfl h12)))))))))))))))))))))))
/-! 5001: TemplateQuarry$Node.origin()I -/
theorem mk_5001_0 {d : Nat} {Q : mj_O → mj_G → Prop} {G : mj_G} {v1 v2 : Int32} {r0 : Nat} (h1 : mj_k (G) (r0) = 6) (h2 : mj_i (G) (r0) 1 = v1) (h3 : mj_k (G) (r0) = 6) (h4 : mj_i (G) (r0) 2 = v2) (h5 : Q (.inl (some (.inl ((((Int8.ofInt (100)).toInt32) * (v1)) + (v2))))) (G)) : mj_X d 5001 0 [some (.inr (.inr (r0)))] [] G Q := by
  subst h2
  subst h4
  exact mj_X_sp (n := 7) (And.intro h1 (And.intro h3 (mj_X_ir rfl trivial h5)))
