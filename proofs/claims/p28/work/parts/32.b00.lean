/-! BLOCKS OF EXPRESSIONS (wip/tools/blk.py) -/
/-! 0: TemplateQuarry$Expression.<init>(I)V -/
theorem mk_0_0 {d : Nat} {Q : mj_O → mj_G → Prop} {G : mj_G} {x1 : Int32} {r0 : Nat} {G1 G2 : mj_G} (h1 : mj_k (G) (r0) ≠ 0) (h2 : mj_k (G) (r0) = 1) (h3 : G1 = mj_pR (G) (r0) 3 (2)) (h4 : mj_k (G1) (r0) = 1) (h5 : G2 = mj_pI (G1) (r0) 0 (x1)) (h6 : Q (.inl none) (G2)) : mj_X d 0 0 [some (.inr (.inr (r0))), some (.inl (x1))] [] G Q := by
  subst h3
  subst h5
  exact mj_X_sp (n := 8) (And.intro h1 (And.intro (Nat.le_of_ble_eq_true rfl) (And.intro trivial (And.intro h2 (And.intro trivial (And.intro (And.intro rfl rfl) (And.intro h4 (And.intro trivial (And.intro trivial (mj_X_vr rfl rfl h6))))))))))
