/-! ONE CALL OF THE LAW: the class, then the model -/
/-- the cells of the law itself, and the model's -/
def lw_S (G : mj_G) (N : Nat) : Prop := mm_S G ∧ mj_k G 1 = 20 ∧ mj_l G 1 = N ∧ mj_k G 1767 = 21 ∧ mj_l G 1767 = 1
section ZZZF
variable {s : lst} {ρ ρ' : Nat → Nat} {G G1 G' Gm H : mj_G} {f f' : mm_F} {N mi cc ee : Nat} {c : Nat → Nat} {ls : List (Option mj_V)} {Cl : Nat → mj_G → (Int32 ⊕ Nat → mj_G → Prop) → Prop} {Mo : mj_G → Nat → mm_F → (Int32 → mm_F → Prop) → Prop}
theorem LC_J {a k : Nat} {v : Int64} (h : LC s ρ G) : LC s ρ (mj_pJ G a k v) := h
theorem yF_J {a k : Nat} {v : Int64} (h : yF G G') : yF G (mj_pJ G' a k v) := h
theorem lw_yR (hG : 1768 ≤ mj_n G) (h : lw_S G N) (F : yR cc ee G G') : lw_S G' N := by
  obtain ⟨⟨h0, h1⟩, h2, h3, h4, h5⟩ := h
  have lt : ∀ p, p ∈ mm_tb → p.2.1 < 1768 := by decide
  refine ⟨⟨(F.1 1714 (by omega)).1.trans h0, fun p hp => ?_⟩, (F.1 1 (by omega)).1.trans h2, (F.1 1 (by omega)).2.trans h3, (F.1 1767 (by omega)).1.trans h4, (F.1 1767 (by omega)).2.trans h5⟩
  obtain ⟨a1, a2, a3⟩ := h1 p hp
  have := lt p hp
  exact ⟨((F.2.1 1714 p.1 (Or.inr (by decide)) (by decide)).2).trans a1, (F.1 _ (by omega)).1.trans a2, (F.1 _ (by omega)).2.trans a3⟩
/-- a wrapper's run, and the state that both sides go on with -/
theorem wrap_v (D : opD Cl Mo c) (W : ∀ Q, Cl 2045 G (wrK c Q) → mj_X 2046 mi 0 ls [] G Q) (hS : lw_S G N) (hs : LQ s) (hC : LC s ρ G) (hL : LM s f) :
    ∃ k G2 s' ρ' res, mj_X 2046 mi 0 ls [] G (fun a b => a = .inl (some (.inl k)) ∧ b = G2) ∧ (∀ r, res = .inl r → k = nI 0 ∧ mj_j G2 1767 0 = r.toInt64) ∧ (∀ e, res = .inr e → c e ≠ 0 ∧ k = nI (c e)) ∧ LQ s' ∧ LC s' ρ' G2 ∧ yF G G2 ∧ ∀ K, (∀ f' v, LM s' f' → rJ c res v (f' 1714 0) → K v f') → Mo G2 2046 f K := by
  have hG := hh_n hC.1
  have Zd : ∀ Gm, mm_S Gm → ∃ s' res, LQ s' ∧ (∀ k, res = .inr k → c k ≠ 0) ∧ mj_X 2046 mi 0 ls [] G (fun o G2 => ∃ k ρ', o = .inl (some (.inl k)) ∧ (∀ r, res = .inl r → k = nI 0 ∧ mj_j G2 1767 0 = r.toInt64) ∧ (∀ e, res = .inr e → k = nI (c e)) ∧ LC s' ρ' G2 ∧ yF G G2) ∧ ∀ K, (∀ f' v, LM s' f' → rJ c res v (f' 1714 0) → K v f') → Mo Gm 2046 f K := fun Gm hGm => by
    obtain ⟨s', res, d1, d2, d3, d4⟩ := D Gm s ρ G f hGm hs hC hL
    refine ⟨s', res, d1, d2, W _ (d3 _ (fun ρ' G' a1 a2 => ⟨(a2.1 1767 (by omega)).1.trans hS.2.2.2.1, (a2.1 1767 (by omega)).2.trans hS.2.2.2.2, fun v e => ⟨nI 0, ρ', rfl, fun r hr => ⟨rfl, ?_⟩, fun e' he => ?_, LC_J a1, yF_J a2⟩, fun e he => ⟨d2 e he, nI (c e), ρ', rfl, fun r hr => ?_, fun e' he' => ?_, a1, a2⟩⟩)), d4⟩
    · rw [e] at hr
      have := Sum.inl.inj hr
      rw [this]
      show mj_u2 (mj_j G') 1767 0 r.toInt64 1767 0 = r.toInt64
      exact if_pos ⟨rfl, rfl⟩
    · rw [e] at he
      cases he
    · rw [he] at hr
      cases hr
    · rw [he] at he'
      rw [Sum.inr.inj he']
  obtain ⟨s0, res0, -, -, X0, -⟩ := Zd G hS.1
  obtain ⟨o, G2, ⟨k0, ρ0, -, -, -, -, y0⟩, -, -, X1⟩ := mj_X_det X0
  obtain ⟨s', res, b1, b2, X2, b4⟩ := Zd G2 (lw_yR hG hS y0).1
  obtain ⟨o', G2', ⟨⟨e1, e2⟩, k, ρ', e3, z1, z2, z3, z4⟩, -, -, -⟩ := mj_X_det (cj_X X1 X2)
  subst e2
  refine ⟨k, G2', s', ρ', res, ?_, z1, fun e he => ⟨b2 e he, z2 e he⟩, b1, z3, z4, b4⟩
  rw [← e3, e1]
  exact X1
/-- a call of the class that throws nothing, and the state that both sides go on with -/
theorem wrap_d (D : opK Cl Mo (fun _ => 0)) (W : ∀ Q, Cl 2046 G (fun r G1 => ∀ v, r = .inl v → Q (.inl (some (.inl v))) G1) → mj_X 2046 mi 0 ls [] G Q) (hS : lw_S G N) (hs : LQ s) (hC : LC s ρ G) (hL : LM s f) :
    ∃ k G2 s' ρ', mj_X 2046 mi 0 ls [] G (fun a b => a = .inl (some (.inl k)) ∧ b = G2) ∧ LQ s' ∧ LC s' ρ' G2 ∧ yF G G2 ∧ ∀ K, (∀ f' v, LM s' f' → v = k ∧ f' 1714 0 = nI 0 → K v f') → Mo G2 2046 f K := by
  have hG := hh_n hC.1
  have Zd : ∀ Gm, mm_S Gm → ∃ s' k, LQ s' ∧ mj_X 2046 mi 0 ls [] G (fun o G2 => ∃ ρ', o = .inl (some (.inl k)) ∧ LC s' ρ' G2 ∧ yF G G2) ∧ ∀ K, (∀ f' v, LM s' f' → v = k ∧ f' 1714 0 = nI 0 → K v f') → Mo Gm 2046 f K := fun Gm hGm => by
    obtain ⟨s', res, d1, d2, d3, d4⟩ := D Gm s ρ G f hGm hs hC hL
    cases res with
    | inr k => exact absurd rfl (d2 k rfl)
    | inl k =>
      refine ⟨s', k, d1, W _ (d3 2046 _ (by decide) (fun ρ' G' a1 a2 v e => ⟨ρ', by rw [Sum.inl.inj e], a1, a2⟩)), fun K hK => d4 2046 K (by decide) (fun f' v a1 a2 => hK f' v a1 (a2.1 k rfl))⟩
  obtain ⟨s0, k0, -, X0, -⟩ := Zd G hS.1
  obtain ⟨o, G2, ⟨ρ0, -, -, y0⟩, -, -, X1⟩ := mj_X_det X0
  obtain ⟨s', k, b1, X2, b4⟩ := Zd G2 (lw_yR hG hS y0).1
  obtain ⟨o', G2', ⟨⟨e1, e2⟩, ρ', e3, z3, z4⟩, -, -, -⟩ := mj_X_det (cj_X X1 X2)
  subst e2
  refine ⟨k, G2', s', ρ', ?_, b1, z3, z4, b4⟩
  rw [← e3, e1]
  exact X1
/-- a wrapper that is told nothing -/
theorem wrap_u (D : opD Cl Mo c) (W : ∀ Q, Cl 2045 G (wrV c Q) → mj_X 2046 mi 0 ls [] G Q) (hS : lw_S G N) (hs : LQ s) (hC : LC s ρ G) (hL : LM s f) :
    ∃ k G2 s' ρ', mj_X 2046 mi 0 ls [] G (fun a b => a = .inl (some (.inl k)) ∧ b = G2) ∧ LQ s' ∧ LC s' ρ' G2 ∧ yF G G2 ∧ ∀ K, (∀ f' v, LM s' f' → f' 1714 0 = k → K v f') → Mo G2 2046 f K := by
  have hG := hh_n hC.1
  have Zd : ∀ Gm, mm_S Gm → ∃ s' k, LQ s' ∧ mj_X 2046 mi 0 ls [] G (fun o G2 => ∃ ρ', o = .inl (some (.inl k)) ∧ LC s' ρ' G2 ∧ yF G G2) ∧ ∀ K, (∀ f' v, LM s' f' → f' 1714 0 = k → K v f') → Mo Gm 2046 f K := fun Gm hGm => by
    obtain ⟨s', res, d1, d2, d3, d4⟩ := D Gm s ρ G f hGm hs hC hL
    cases res with
    | inr e => exact ⟨s', nI (c e), d1, W _ (d3 _ (fun ρ' G' a1 a2 => ⟨fun v h => (by cases h), fun e' h => by cases h; exact ⟨d2 e rfl, ρ', rfl, a1, a2⟩⟩)), fun K hK => d4 K (fun f' v a1 a2 => hK f' v a1 (a2.2 e rfl))⟩
    | inl r => exact ⟨s', nI 0, d1, W _ (d3 _ (fun ρ' G' a1 a2 => ⟨fun v h => ⟨ρ', rfl, a1, a2⟩, fun e' h => (by cases h)⟩)), fun K hK => d4 K (fun f' v a1 a2 => hK f' v a1 (a2.1 r rfl).2)⟩
  obtain ⟨s0, k0, -, X0, -⟩ := Zd G hS.1
  obtain ⟨o, G2, ⟨ρ0, -, -, y0⟩, -, -, X1⟩ := mj_X_det X0
  obtain ⟨s', k, b1, X2, b4⟩ := Zd G2 (lw_yR hG hS y0).1
  obtain ⟨o', G2', ⟨⟨e1, e2⟩, ρ', e3, z3, z4⟩, -, -, -⟩ := mj_X_det (cj_X X1 X2)
  subst e2
  refine ⟨k, G2', s', ρ', ?_, b1, z3, z4, b4⟩
  rw [← e3, e1]
  exact X1
/-- what holds ahead of a call of the law: cnt calls are behind -/
def LI (N cnt : Nat) (G : mj_G) : Prop := ∃ s ρ f, lw_S G N ∧ LQ s ∧ LC s ρ G ∧ LM s f ∧ (∀ a j, 1714 ≤ a → a ≤ 1766 → mj_i G a j = f a j) ∧ mj_n G + pw 1 2 G ≤ 3888 + 999 * cnt ∧ mj_u G + pw 300 8 G ≤ 564798 + 11999 * cnt
theorem LI_n {cnt : Nat} {G2 : mj_G} {s' : lst} (hG : 1768 ≤ mj_n G) (hS : lw_S G N) (hn : mj_n G + pw 1 2 G ≤ 3888 + 999 * cnt) (hu : mj_u G + pw 300 8 G ≤ 564798 + 11999 * cnt) (h1 : LQ s') (h2 : LC s' ρ' G2) (h3 : yF G G2) (h4 : LM s' f') : LI N (cnt + 1) (mm_M f' G2) := by
  have hS2 := lw_yR hG hS h3
  have hn' : mj_n G2 + pw 1 2 G2 ≤ mj_n G + pw 1 2 G + 999 := h3.2.2.2.1
  have hu' : mj_u G2 + pw 300 8 G2 ≤ mj_u G + pw 300 8 G + 11999 := h3.2.2.2.2
  have e1 : ∀ x y, pw x y (mm_M f' G2) = pw x y G2 := fun x y => pw_c (fun _ _ => rfl) (fun _ _ => rfl) (fun _ _ => rfl) (fun _ _ => ⟨rfl, fun _ => rfl⟩)
  have e2 : mj_n (mm_M f' G2) = mj_n G2 := rfl
  have e3 : mj_u (mm_M f' G2) = mj_u G2 := rfl
  exact ⟨s', ρ', f', hS2, h1, LC_M h2 hS2.1, h4, fun a j q1 q2 => mm_ii q1 q2, by rw [e1, e2]; exact Nat.le_trans hn' (by rw [Nat.mul_succ, ← Nat.add_assoc]; exact Nat.add_le_add_right hn 999), by rw [e1, e3]; exact Nat.le_trans hu' (by rw [Nat.mul_succ, ← Nat.add_assoc]; exact Nat.add_le_add_right hu 11999)⟩
theorem mm_G2 {G2 : mj_G} (h3 : yF G G2) (hE : ∀ a j, 1714 ≤ a → a ≤ 1766 → mj_i G a j = f a j) : mm_M f G2 = G2 := mm_self fun a j q1 q2 => ((h3.2.1 a j (Or.inr q1) (by omega)).1).trans (hE a j q1 q2)
end ZZZF
