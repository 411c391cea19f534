/-! BLOCKS OF FRAMES (wip/tools/blk.py) -/
/-! 4000: TemplateQuarry$Frame.<init>()V -/
theorem mk_4000_0 {d : Nat} {Q : mj_O → mj_G → Prop} {G : mj_G} {r0 v1 v2 : Nat} {G1 G2 G3 : mj_G} (h1 : mj_k (G) (r0) ≠ 0) (h2 : ¬ ((Int8.ofInt (10)).toInt32) < 0) (h3 : ((Int8.ofInt (10)).toInt32).toNatClampNeg ≤ 1000000) (h4 : mj_n (G) = v1) (h5 : G1 = mj_al (G) 20 ((Int8.ofInt (10)).toInt32).toNatClampNeg (fun _ => 0)) (h6 : mj_k (G1) (r0) = 5) (h7 : G2 = mj_pR (G1) (r0) 8 (v1)) (h8 : mj_n (G2) = v2) (h9 : G3 = mj_al (G2) 12 (mj_N 11) (fun _ => 0)) (h10 : mj_X d 4000 17 [none] [.inr (.inr (v2)), .inr (.inr (v2)), .inr (.inr (r0))] G3 Q) : mj_X d 4000 0 [some (.inr (.inr (r0)))] [] G Q := by
  subst h4
  subst h5
  subst h7
  subst h8
  subst h9
  exact mj_X_sp (n := 9) (And.intro h1 (And.intro (Nat.le_of_ble_eq_true rfl) (And.intro h2 (And.intro h3 (And.intro trivial (And.intro (And.intro rfl rfl) (And.intro h6 (And.intro trivial ((mj_X_wk (mj_le_n mj_le_0) h10))))))))))
theorem mc_4000_17 {d : Nat} {Q : mj_O → mj_G → Prop} {G : mj_G} {t0 t1 t2 : Nat} {R : mj_G → Prop} (hk : mj_k G t2 = 12) (h1 : mj_X d 11000 0 [some (.inr (.inr (t2)))] [] G (fun o G1 => o = .inl none ∧ R G1)) (k : ∀ G1, R G1 → mj_X (d + 1) 4000 20 [none] [.inr (.inr (t1)), .inr (.inr (t0))] G1 Q) : mj_X (d + 1) 4000 17 [none] [.inr (.inr (t2)), .inr (.inr (t1)), .inr (.inr (t0))] G Q :=
  mj_X_callP rfl rfl rfl (Nat.le_of_ble_eq_true rfl) (And.intro (Nat.le_of_ble_eq_true rfl) hk) h1 (fun o G1 h => by
    obtain ⟨rfl, h⟩ := h
    exact mj_X_wk (mj_le_n mj_le_0) (k G1 h))
theorem mk_4000_20 {d : Nat} {Q : mj_O → mj_G → Prop} {G : mj_G} {t0 t1 : Nat} {G1 : mj_G} (h1 : mj_k (G) (t0) = 5) (h2 : G1 = mj_pR (G) (t0) 13 (t1)) (h3 : Q (.inl none) (G1)) : mj_X d 4000 20 [none] [.inr (.inr (t1)), .inr (.inr (t0))] G Q := by
  subst h2
  exact mj_X_sp (n := 1) (And.intro (And.intro rfl rfl) (And.intro h1 (And.intro trivial (mj_X_vr rfl rfl h3))))
/-! 4001: TemplateQuarry$Frame.rowOfBlanks()[I -/
theorem mk_4001_0 {d : Nat} {Q : mj_O → mj_G → Prop} {G : mj_G} {r0 v1 : Nat} (h1 : mj_k (G) (r0) = 5) (h2 : mj_r (G) (r0) 18 = v1) (h3 : ¬ (v1) = 0 → mj_X d 4001 16 [some (.inr (.inr (r0)))] [] G Q) (h4 : (v1) = 0 → mj_X d 4001 7 [some (.inr (.inr (r0)))] [] G Q) : mj_X d 4001 0 [some (.inr (.inr (r0)))] [] G Q := by
  subst h2
  exact mj_X_sp (n := 3) (And.intro h1 (And.intro (fun q => (h3 q)) (fun q => (h4 q))))
theorem mk_4001_7 {d : Nat} {Q : mj_O → mj_G → Prop} {G : mj_G} {r0 v1 : Nat} {G1 G2 : mj_G} (h1 : ¬ ((Int16.ofInt (300)).toInt32) < 0) (h2 : ((Int16.ofInt (300)).toInt32).toNatClampNeg ≤ 1000000) (h3 : mj_n (G) = v1) (h4 : G1 = mj_al (G) 20 ((Int16.ofInt (300)).toInt32).toNatClampNeg (fun _ => 0)) (h5 : mj_k (G1) (r0) = 5) (h6 : G2 = mj_pR (G1) (r0) 18 (v1)) (h7 : mj_X d 4001 16 [some (.inr (.inr (r0)))] [] G2 Q) : mj_X d 4001 7 [some (.inr (.inr (r0)))] [] G Q := by
  subst h3
  subst h4
  subst h6
  exact mj_X_sp (n := 4) (And.intro h1 (And.intro h2 (And.intro trivial (And.intro trivial (And.intro h5 (And.intro trivial (h7)))))))
theorem mk_4001_16 {d : Nat} {Q : mj_O → mj_G → Prop} {G : mj_G} {r0 v1 : Nat} (h1 : mj_k (G) (r0) = 5) (h2 : mj_r (G) (r0) 18 = v1) (h3 : Q (.inl (some (.inr (.inr (v1))))) (G)) : mj_X d 4001 16 [some (.inr (.inr (r0)))] [] G Q := by
  subst h2
  exact mj_X_sp (n := 2) (And.intro h1 (mj_X_ar rfl rfl h3))
