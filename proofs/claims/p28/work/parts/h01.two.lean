/-! TWO OBJECTS of the class in the law's heap, each as a ghost's heap has it -/
/-- the objects at cells a and b: images of two ghost heaps, apart from one another -/
def TW (K : Nat × Nat) (H1 H2 : mj_G) (a b : Nat) (G : mj_G) : Prop := ∃ (φ : Nat → Nat) (D : Nat → Prop) (ψ : Nat → Nat) (E : Nat → Prop), (zv_S φ D H1 G ∧ D 3 ∧ φ 3 = a) ∧ (zv_S ψ E H2 G ∧ E 3 ∧ ψ 3 = b) ∧ (∀ x y, D x → E y → φ x = ψ y → φ x = 2) ∧ (mj_k H1 3 = 13 ∧ mj_k H2 3 = 13) ∧ mj_n G + K.1 ≤ mj_n H1 + mj_n H2 ∧ mj_u G + K.2 ≤ mj_u H1 + mj_u H2 ∧ (mj_k G 1 = 20 ∧ mj_l G 1 ≤ 1000) ∧ (¬ D 1767 ∧ ¬ E 1767) ∧ 1768 ≤ mj_n H1 ∧ 1768 ≤ mj_n H2
section H01
variable {K : Nat × Nat} {H H1 H2 H1' H2' G G' : mj_G} {a b d mi : Nat} {as : List (Option mj_V)} {o : mj_O}
theorem TW_s (h : TW K H1 H2 a b G) : TW K H2 H1 b a G := by
  obtain ⟨φ, D, ψ, E, h1, h2, h3, h4, h5, h6, h7, h8, h9⟩ := h
  exact ⟨ψ, E, φ, D, h2, h1, fun x y hx hy e => e.trans (h3 y x hy hx e.symm), ⟨h4.2, h4.1⟩, by omega, by omega, h7, ⟨h8.2, h8.1⟩, h9.2, h9.1⟩
theorem TW_1 (h : TW K H1 H2 a b G) : mj_k G 1 = 20 ∧ mj_l G 1 ≤ 1000 := by
  obtain ⟨φ, D, ψ, E, -, -, -, -, -, -, h7, -⟩ := h
  exact h7
theorem TW_k (h : TW K H1 H2 a b G) : mj_k G a = 13 := by
  obtain ⟨φ, D, ψ, E, ⟨h1, h2, rfl⟩, -, -, h4, -⟩ := h
  exact (h1.1 3 h2).2.1.trans h4.1
/-- cells of the other one stay -/
theorem TW_o {ψ : Nat → Nat} {E : Nat → Prop} (hT : zv_S ψ E H2 G) (hq : ∀ y, E y → zv_q G G' (ψ y)) (hn : mj_n G ≤ mj_n G') : zv_S ψ E H2 G' := by
  refine ⟨fun y hy => ?_, hT.2⟩
  obtain ⟨⟨c1, c2, c3, c4⟩, k, l, i, j, r⟩ := hT.1 y hy
  obtain ⟨q1, q2, q3, q4, q5⟩ := hq y hy
  exact ⟨⟨c1, c2, Nat.lt_of_lt_of_le c3 hn, c4⟩, q1.trans k, q2.trans l, fun x => (q3 x).trans (i x), fun x => (q5 x).trans (j x), fun x => ⟨(r x).1, (q4 x).trans (r x).2⟩⟩
/-- a method of the law or of the class, on the first object -/
def RV (d mi : Nat) (as : List (Option mj_V)) (o : mj_O) (H H' : mj_G) : Prop := ∀ K H2 a b G Q, TW K H H2 a b G → (∀ G', TW K H' H2 a b G' → Q o G') → rj_X d mi 0 (some (.inr (.inr a)) :: as) [] G Q
theorem RV_1 {Q : mj_O → mj_G → Prop} (h : RV d mi as o H1 H1') (hT : TW K H1 H2 a b G) (hQ : ∀ G', TW K H1' H2 a b G' → Q o G') : rj_X d mi 0 (some (.inr (.inr a)) :: as) [] G Q := h K H2 a b G Q hT hQ
theorem RV_2 {Q : mj_O → mj_G → Prop} (h : RV d mi as o H2 H2') (hT : TW K H1 H2 a b G) (hQ : ∀ G', TW K H1 H2' a b G' → Q o G') : rj_X d mi 0 (some (.inr (.inr b)) :: as) [] G Q := h K H1 b a G Q (TW_s hT) fun G' h' => hQ G' (TW_s h')
theorem LF (hm : mi / 1000 < 13) (hk : mj_k H1' 3 = 13) (hn : ∀ φ, zv_o φ o = o) (hl : ∀ φ, zv_L φ as = as) (hd : ∀ D, zv_lD D as) (hX : mj_X d mi 0 (some (.inr (.inr 3)) :: as) [] H1 (fun x y => x = o ∧ y = H1')) : RV d mi as o H1 H1' := by
  rintro K H2 a b G Q ⟨φ, D, ψ, E, ⟨hS, h3, rfl⟩, ⟨hT, g3, rfl⟩, hj, ⟨k1, k2⟩, hn1, hu1, hk1, ⟨d1, d2⟩, m1, m2⟩ hQ
  have hx := zv_X hm hX hS (fun o' ho v e => by
    rcases List.mem_cons.mp ho with q | q
    · rw [q] at e
      cases e
      exact Or.inr h3
    · exact hd D o' q v e) (fun v hv => by cases hv)
  have e1 : zv_L φ (some (.inr (.inr 3)) :: as) = some (.inr (.inr (φ 3))) :: as := by
    show some (zv_m φ (.inr (.inr 3))) :: zv_L φ as = _
    rw [hl]
    rfl
  rw [e1] at hx
  refine rj_X_mono hx ?_
  rintro o' G' ⟨o1, G1, φ', D', ⟨rfl, rfl⟩, hS', hE, -, rfl⟩
  rw [hn]
  obtain ⟨x1, x2, x3, x4, x5, x6⟩ := hE
  have hN : mj_n G ≤ mj_n G' := by omega
  refine hQ G' ⟨φ', D', ψ, E, ⟨hS', (x1 3 h3).1, (x1 3 h3).2⟩, ⟨TW_o hT (fun y hy => x6 _ (hT.1 y hy).1.2.2.1 ?_) hN, g3, rfl⟩, fun x y hx hy e => ?_, ⟨hk, k2⟩, by omega, by omega, ?_, ⟨fun q => ?_, d2⟩, by omega, m2⟩
  · by_cases q : ψ y = 2
    · exact Or.inl q
    · exact Or.inr fun x hx e => q (e.symm.trans (hj x y hx hy e))
  · rcases x2 x hx with q | q
    · rw [(x1 x q).2] at e ⊢
      exact hj x y q hy e
    · have := (hT.1 y hy).1.2.2.1
      omega
  · have h3n := (hS.1 3 h3).1
    have hq := x6 1 (by omega) (Or.inr fun x hx e => by
      have := (hS.1 x hx).1
      omega)
    exact ⟨hq.1.trans hk1.1, by rw [hq.2.1]; exact hk1.2⟩
  · rcases x2 1767 q with q' | q'
    · exact d1 q'
    · omega
/-- the class's half on the ghost: it comes to one heap, and so do both objects -/
theorem LE {P : mj_O → mj_G → Prop} (hm : mi / 1000 < 13) (hl : ∀ φ, zv_L φ as = as) (hd : ∀ D, zv_lD D as) (hJ : jw_J H) (hX : mj_X d mi 0 (some (.inr (.inr 3)) :: as) [] H P) (hk : ∀ o G, P o G → mj_k G 3 = 13 ∧ ∀ φ, zv_o φ o = o) : ∃ o H', P o H' ∧ jw_J H' ∧ jw_o o ∧ mj_u H ≤ mj_u H' ∧ RV d mi as o H H' := by
  obtain ⟨o, H', ⟨hP, hJ', ho⟩, -, hu, hX'⟩ := mj_X_det (jw_X (Q' := fun o G => P o G ∧ jw_J G ∧ jw_o o) hm hX hJ fun o G h j x => ⟨h, j, x⟩)
  exact ⟨o, H', hP, hJ', ho, hu, LF hm (hk _ _ hP).1 (hk _ _ hP).2 hl hd hX'⟩
/-- the second object does not see what the first one's calls left behind -/
theorem TW_f (h : TW K H1 H2 a b G) (hJ : jw_J H2) (hJ' : jw_J H2') (F : fn_F H2 H2') (hu : mj_u H2 ≤ mj_u H2') (hk : mj_k H2' 3 = 13) (h0 : mj_k H2' 0 = 0) (h2 : mj_k H2' 2 = 22) : TW K H1 H2' a b G := by
  obtain ⟨φ, D, ψ, E, h1, ⟨hT, g3, rfl⟩, hj, ⟨k1, k2⟩, hn1, hu1, hk1, ⟨d1, d2⟩, m1, m2⟩ := h
  have := F.1
  refine ⟨φ, D, ψ, E, h1, ⟨⟨fun y hy => ?_, hT.2.1, hT.2.2.1, h0, h2⟩, g3, rfl⟩, hj, ⟨k1, hk⟩, by omega, by omega, hk1, ⟨d1, d2⟩, m1, by omega⟩
  obtain ⟨⟨c1, c2, c3, c4⟩, k, l, i, j, r⟩ := hT.1 y hy
  obtain ⟨f1, f2, f3, f4⟩ := F.2 y c2
  refine ⟨⟨c1, Nat.lt_of_lt_of_le c2 F.1, c3, c4⟩, k.trans f1.symm, l.trans f2.symm, fun x => (i x).trans (f4 x).symm, fun x => (j x).trans ?_, fun x => ?_⟩
  · have hy7 : y ≠ 1767 := fun q => d2 (q ▸ hy)
    rw [hJ.2 y x hy7, hJ'.2 y x hy7]
  · rw [f3 x]
    exact r x
theorem TW_ff (h : TW K H1 H2 a b G) (hJ : jw_J H2) (hJ' : jw_J H1) (F : fn_F H2 H1) (hu : mj_u H2 ≤ mj_u H1) : TW K H1 H1 a b G := by
  have h0 := h
  obtain ⟨φ, D, ψ, E, ⟨hS, -, -⟩, -, -, ⟨k1, -⟩, -⟩ := h0
  exact TW_f h hJ hJ' F hu k1 hS.2.2.2.1 hS.2.2.2.2
end H01
