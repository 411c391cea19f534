/-! ARGUMENTS ARE READ, by both sides alike -/
/-- as fe_F, but for one reference -/
def fx_F (rd x y : Nat) (G G' : mj_G) : Prop := mj_n G ≤ mj_n G' ∧ ∀ a, a < mj_n G → mj_k G' a = mj_k G a ∧ mj_l G' a = mj_l G a ∧ (∀ j, ¬ (a = x ∧ j = y) → mj_r G' a j = mj_r G a j) ∧ (∀ j, ¬ (a = rd ∧ 4 ≤ j) → mj_i G' a j = mj_i G a j) ∧ ∀ j, mj_j G' a j = mj_j G a j
theorem fx_of {rd x y : Nat} {G G' : mj_G} (h : fe_F rd G G') : fx_F rd x y G G' := ⟨h.1, fun a ha => by
  obtain ⟨a1, a2, a3, a4, a5⟩ := h.2 a ha
  exact ⟨a1, a2, fun j _ => a3 j, a4, a5⟩⟩
theorem fx_trans {rd x y : Nat} {G G1 G2 : mj_G} (h1 : fx_F rd x y G G1) (h2 : fx_F rd x y G1 G2) : fx_F rd x y G G2 := by
  refine ⟨Nat.le_trans h1.1 h2.1, fun a ha => ?_⟩
  obtain ⟨a1, a2, a3, a4, a5⟩ := h1.2 a ha
  obtain ⟨b1, b2, b3, b4, b5⟩ := h2.2 a (Nat.lt_of_lt_of_le ha h1.1)
  exact ⟨b1.trans a1, b2.trans a2, fun j hj => (b3 j hj).trans (a3 j hj), fun j hj => (b4 j hj).trans (a4 j hj), fun j => (b5 j).trans (a5 j)⟩
theorem fx_set {rd x y v : Nat} {G : mj_G} : fx_F rd x y G (mj_pR G x y v) :=
  ⟨Nat.le_refl _, fun a _ => ⟨rfl, rfl, fun j hj => if_neg hj, fun _ _ => rfl, fun _ => rfl⟩⟩
/-- the exception lies in what is new -/
theorem fx_new {rd x y x0 y0 : Nat} {G0 G G' : mj_G} (h0 : fx_F rd x0 y0 G0 G) (h : fx_F rd x y G G') (hx : mj_n G0 ≤ x) : fx_F rd x0 y0 G0 G' := by
  refine ⟨Nat.le_trans h0.1 h.1, fun a ha => ?_⟩
  obtain ⟨a1, a2, a3, a4, a5⟩ := h0.2 a ha
  obtain ⟨b1, b2, b3, b4, b5⟩ := h.2 a (Nat.lt_of_lt_of_le ha h0.1)
  exact ⟨b1.trans a1, b2.trans a2, fun j hj => (b3 j (fun q => by have := q.1; omega)).trans (a3 j hj), fun j hj => (b4 j hj).trans (a4 j hj), fun j => (b5 j).trans (a5 j)⟩
theorem fx_e {rd x y : Nat} {G0 G G' : mj_G} (h0 : fe_F rd G0 G) (h : fx_F rd x y G G') (hx : mj_n G0 ≤ x) : fe_F rd G0 G' := by
  refine ⟨Nat.le_trans h0.1 h.1, fun a ha => ?_⟩
  obtain ⟨a1, a2, a3, a4, a5⟩ := h0.2 a ha
  obtain ⟨b1, b2, b3, b4, b5⟩ := h.2 a (Nat.lt_of_lt_of_le ha h0.1)
  exact ⟨b1.trans a1, b2.trans a2, fun j => (b3 j (fun q => by have := q.1; omega)).trans (a3 j), fun j hj => (b4 j hj).trans (a4 j hj), fun j => (b5 j).trans (a5 j)⟩
theorem fx_R {G G' : mj_G} {rd x y n : Nat} {w : Nat → Nat} (hR : rd_R G rd w n) (h : fx_F rd x y G G') (hx : ¬ x = rd) : rd_R G' rd w n := by
  obtain ⟨hW, r1, r2, r3, r4, r5, r6⟩ := hR
  obtain ⟨a1, a2, a3, a4, a5⟩ := h.2 rd r3
  obtain ⟨b1, b2, b3, b4, b5⟩ := h.2 4 (by omega)
  exact ⟨hW, a1.trans r1, r2, Nat.lt_of_lt_of_le r3 h.1, (a3 0 (fun q => hx q.1.symm)).trans r4, (a4 1 (by omega)).trans r5, fun k hk => (b4 k (by omega)).trans (r6 k hk)⟩
/-- the heap with a new node -/
def nd_N (G : mj_G) (x1 x2 x3 : Int32) : mj_G := mj_pI (mj_pI (mj_pI (mj_pI (mj_pI (mj_al G 6 11 (fun _ => 0)) (mj_n G) 3 (Int32.ofInt (-1))) (mj_n G) 4 (Int32.ofInt (-1))) (mj_n G) 0 x1) (mj_n G) 1 x2) (mj_n G) 2 x3
section ND
variable {G : mj_G} {x1 x2 x3 : Int32} {a j rd : Nat}
theorem nd_k : mj_k (nd_N G x1 x2 x3) (mj_n G) = 6 := if_pos rfl
theorem nd_kn (h : a ≠ mj_n G) : mj_k (nd_N G x1 x2 x3) a = mj_k G a := if_neg h
theorem nd_i0 : mj_i (nd_N G x1 x2 x3) (mj_n G) 0 = x1 := (z_iIm (by decide)).trans ((z_iIm (by decide)).trans z_iIs)
theorem nd_i1 : mj_i (nd_N G x1 x2 x3) (mj_n G) 1 = x2 := (z_iIm (by decide)).trans z_iIs
theorem nd_i2 : mj_i (nd_N G x1 x2 x3) (mj_n G) 2 = x3 := z_iIs
theorem nd_i3 : mj_i (nd_N G x1 x2 x3) (mj_n G) 3 = Int32.ofInt (-1) := (z_iIm (by decide)).trans ((z_iIm (by decide)).trans ((z_iIm (by decide)).trans ((z_iIm (by decide)).trans z_iIs)))
theorem nd_i4 : mj_i (nd_N G x1 x2 x3) (mj_n G) 4 = Int32.ofInt (-1) := (z_iIm (by decide)).trans ((z_iIm (by decide)).trans ((z_iIm (by decide)).trans z_iIs))
theorem nd_in (h : a ≠ mj_n G) : mj_i (nd_N G x1 x2 x3) a j = mj_i G a j := (z_iIn h).trans ((z_iIn h).trans ((z_iIn h).trans ((z_iIn h).trans ((z_iIn h).trans (z_iAn h)))))
theorem nd_r : mj_r (nd_N G x1 x2 x3) (mj_n G) j = 0 := if_pos rfl
theorem nd_rn (h : a ≠ mj_n G) : mj_r (nd_N G x1 x2 x3) a j = mj_r G a j := if_neg h
theorem nd_n : mj_n (nd_N G x1 x2 x3) = mj_n G + 1 := rfl
theorem nd_u : mj_u (nd_N G x1 x2 x3) = mj_u G + 11 := rfl
theorem nd_S (hS : cs_S G) : cs_S (nd_N G x1 x2 x3) := cs_pI (cs_pI (cs_pI (cs_pI (cs_pI (cs_al hS)))))
theorem nd_F : fe_F rd G (nd_N G x1 x2 x3) := fe_nI (fe_nI (fe_nI (fe_nI (fe_nI fe_al (Nat.le_refl _)) (Nat.le_refl _)) (Nat.le_refl _)) (Nat.le_refl _)) (Nat.le_refl _)
theorem nd_O {p : Nat} (hO : rd_O G rd p) (h : rd ≠ mj_n G) : rd_O (nd_N G x1 x2 x3) rd p := ⟨(nd_in h).trans hO.1, (nd_in h).trans hO.2⟩
theorem c_newNd {d : Nat} {K : mj_G → Prop} (hS : cs_S G) (h : K (nd_N G x1 x2 x3)) : Nd_init d (mj_n G) x1 x2 x3 (mj_al G 6 11 (fun _ => 0)) K := by
  refine w_Nd_init (cs_al hS) ⟨by rw [z_kAs]; decide, z_kAs, ?_⟩
  rintro _ rfl
  rintro _ rfl
  rintro _ rfl
  rintro _ rfl
  rintro _ rfl
  exact h
end ND
/-- the head of an argument at p, whose expression begins at s -/
def tx_ah (w : Nat → Nat) (p s : Nat) (x : Int32) : Prop := (tx_L (w p) ∧ w (p + 1) = 58 ∧ s = p + 2 ∧ x = nI (w p - 97)) ∨ (¬ (tx_L (w p) ∧ w (p + 1) = 58) ∧ s = p ∧ x = Int32.ofInt (-1))
/-- arguments from p on, at most i; the last one ends at e -/
def tx_A : Nat → (Nat → Prop) → mj_G → Nat → (Nat → Nat) → Nat → Nat → Prop
  | 0, _, _, _, _, _, _ => False
  | i + 1, A, G, r, w, p, e => A r ∧ r ≠ 0 ∧ mj_k G r = 6 ∧ ∃ s m, tx_ah w p s (mj_i G r 4) ∧ (∃ l, tx_E l A G (mj_r G r 6) w s m false) ∧
      ((0 < i ∧ w m = 44 ∧ tx_A i A G (mj_r G r 10) w (m + 1) e) ∨ ((i = 0 ∨ ¬ w m = 44) ∧ m = e ∧ mj_r G r 10 = 0))
theorem tx_A_mono {A B : Nat → Prop} {G G' : mj_G} (w : Nat → Nat) (hAB : ∀ a, A a → B a) (hG : ∀ a, A a → mj_k G' a = mj_k G a ∧ mj_l G' a = mj_l G a ∧ (∀ j, mj_r G' a j = mj_r G a j) ∧ ∀ j, mj_i G' a j = mj_i G a j) :
    ∀ {i r p e}, tx_A i A G r w p e → tx_A i B G' r w p e
  | 0, _, _, _, h => h.elim
  | i + 1, r, p, e, h => by
    obtain ⟨h1, h2, h3, s, m, h4, ⟨l, h5⟩, h6⟩ := h
    obtain ⟨g1, g2, g3, g4⟩ := hG r h1
    refine ⟨hAB r h1, h2, g1.trans h3, s, m, ?_, ⟨l, ?_⟩, ?_⟩
    · rw [g4]; exact h4
    · rw [g3]; exact tx_E_mono w hAB hG (Nat.le_refl _) h5
    · rw [g3]
      rcases h6 with ⟨a, b, c⟩ | ⟨a, b, c⟩
      · exact Or.inl ⟨a, b, tx_A_mono w hAB hG c⟩
      · exact Or.inr ⟨a, b, c⟩
/-- how it ends, with the } behind it -/
def rd_fin (w : Nat → Nat) : Nat ⊕ Nat → Bool × Nat
  | .inl e => if w e = 125 then (true, e + 1) else (false, e)
  | .inr e => (false, e)
/-- how reading arguments from p on ends, which go to the reference (x, y) -/
def rd_XA (rd x y : Nat) (w : Nat → Nat) (p i : Nat) (G : mj_G) : Nat ⊕ Nat → mj_G → Prop
  | .inl e, G' => fx_F rd x y G G' ∧ rd_O G' rd e ∧ tx_A i (fe_I (mj_n G) (mj_n G')) G' (mj_r G' x y) w p e ∧ mj_n G' + 2 * p ≤ mj_n G + 2 * e ∧ mj_u G' + 11 * mj_n G + p ≤ mj_u G + 11 * mj_n G' + e
  | .inr e, G' => fx_F rd x y G G' ∧ mj_i G' rd 5 = nI e ∧ mj_n G' + 2 * p ≤ mj_n G + 2 * e + 3 ∧ mj_u G' + 11 * mj_n G + p ≤ mj_u G + 11 * mj_n G' + e
section JA
variable {w : Nat → Nat} {n : Nat}
/-- where the expression of an argument begins -/
def tx_as (w : Nat → Nat) (p : Nat) : Nat := if (97 ≤ w p ∧ w p ≤ 122) ∧ w (p + 1) = 58 then p + 2 else p
theorem ja_ah {p : Nat} (h : tx_L (w p) ∧ w (p + 1) = 58) : tx_as w p = p + 2 := by
  unfold tx_as
  exact if_pos h
theorem ja_an {p : Nat} (h : ¬ (tx_L (w p) ∧ w (p + 1) = 58)) : tx_as w p = p := by
  unfold tx_as
  exact if_neg h
/-- the class's way through the head of an argument -/
theorem ja_cls {d rd r1 r2 i p : Nat} {G : mj_G} {K : mj_G → Prop} (hd : 15 ≤ d) (hS : cs_S G) (hR : rd_R G rd w n) (hO : rd_O G rd p) (hp : p ≤ n) (hi : i < 3)
    (h : ∀ x, tx_ah w p (tx_as w p) x → Rd_readArguments_110 (d + 1) rd r1 r2 (nI i) (mj_n G) (mj_pI (mj_pI (nd_N G (nI 2) (mj_i G rd 2) (nI p)) (mj_n G) 4 x) rd 4 (nI (tx_as w p))) K) : Rd_readArguments_25 (d + 1) rd r1 r2 (nI i) G K := by
  have hn := hR.1.1
  have hw := tx_le hR.1 p
  have hw1 := tx_le hR.1 (p + 1)
  have hne : rd ≠ mj_n G := by have := hR.2.2.2.1; omega
  refine w_Rd_readArguments_25 hS hd ?_
  refine z_bf (by rw [z_le (by omega) (by omega)]; omega) ⟨hR.2.1, c_failed hS hR hO (z_bf (by decide) ?_)⟩
  rintro _ rfl
  refine ⟨(z_kAn hne).trans hR.2.1, ?_⟩
  rw [z_iAn hne, z_iAn hne, hO.1]
  refine c_newNd hS ⟨(nd_kn hne).trans hR.2.1, ?_⟩
  have hO1 : rd_O (nd_N G (nI 2) (mj_i G rd 2) (nI p)) rd p := nd_O hO hne
  have hR1 : rd_R (nd_N G (nI 2) (mj_i G rd 2) (nI p)) rd w n := fe_R hR nd_F
  have hS1 : cs_S (nd_N G (nI 2) (mj_i G rd 2) (nI p)) := nd_S hS
  have non : ¬ (tx_L (w p) ∧ w (p + 1) = 58) → Rd_readArguments_110 (d + 1) rd r1 r2 (nI i) (mj_n G) (nd_N G (nI 2) (mj_i G rd 2) (nI p)) K := fun hx => by
    have h' := h (Int32.ofInt (-1)) (Or.inr ⟨hx, ja_an hx, rfl⟩)
    rw [ja_an hx, z_pIi nd_i4, z_pIi hO1.1] at h'
    exact h'
  rw [hO1.1]
  refine c_sign hS1 hR1 (by omega) ?_
  rw [z_12029 (by omega)]
  refine z_br (fun hL => ⟨hR1.2.1, ?_⟩) (fun hL => non (fun q => hL q.1))
  rw [hO1.1, z_add]
  refine c_sign hS1 hR1 (by omega) ?_
  rw [z_eq (by omega) (by omega)]
  refine z_br (fun hC => ⟨hR1.2.1, ?_⟩) (fun hC => non (fun q => hC q.2))
  rw [hO1.1]
  refine c_sign hS1 hR1 (by omega) ⟨nd_k, ?_⟩
  rintro _ rfl
  refine ⟨z_kIa.trans hR1.2.1, ?_⟩
  rintro _ rfl
  have h' := h (nI (w p - 97)) (Or.inl ⟨hL, hC, ja_ah ⟨hL, hC⟩, rfl⟩)
  rw [ja_ah ⟨hL, hC⟩] at h'
  rw [z_iIn hne, hO1.1, z_add, z_sub hL.1]
  exact h'
/-- the model's way through the head of an argument -/
theorem ja_mod {d x2 p : Nat} {G : mj_G} {f : mm_F} {K : Bool → mm_F → Prop} (hd : 15 ≤ d) (hS : mm_S G) (hW : tx_W w n) (hT : pt_T f w n) (hp : p ≤ n)
    (h : m_takesExpression G d (pt_a f (tx_as w p)) (fun v f1 => mm_br (nI x2 = nI 2) (m_takesArguments_4 G (d + 1) (bI v) ((nI 3) + nI 1) f1 K) (mm_br (v = true) (m_takes G d (nI 44) f1 (fun v31 f30 => mm_br (v31 = true) (m_takesArguments_4 G (d + 1) (bI v) (nI x2 + nI 1) f30 K) (m_takesArguments_4 G (d + 1) (bI v) ((nI 3) + nI 1) f30 K))) (m_takesArguments_4 G (d + 1) (bI v) ((nI 3) + nI 1) f1 K)))) : m_takesArguments_26 G (d + 1) (nI x2) (pt_a f p) K := by
  have hn := hW.1
  have hw1 := tx_le hW (p + 1)
  refine w_m_takesArguments_26 hS hd (c_next hS hW hT hp ?_)
  rw [tx_nxL hW]
  refine z_br (fun hL => ?_) (fun hL => ?_)
  · have hpn : p < n := tx_in hW (by have := hL.1; omega)
    rw [show pt_a f p 1714 2 = nI n from (z_u2m (by decide)).trans hT.1, pt_a3, z_add, z_le (by omega) (by omega)]
    refine z_br (fun hc => ?_) (fun hc => ?_)
    · rw [ja_an (fun q => by have := q.2; rw [hW.2.2 (p + 1) hc] at this; omega)] at h
      exact h
    · refine z_ixi (by omega) (by decide) ?_
      rw [show pt_a f p 1715 (p + 1) = nI (w (p + 1)) from (z_u2n (by decide)).trans (hT.2 (p + 1) (by omega)), z_eq (by omega) (by omega)]
      refine z_br (fun hC => ?_) (fun hC => ?_)
      · rw [ja_ah ⟨hL, hC⟩] at h
        rw [z_add, pt_aa]
        exact h
      · rw [ja_an (fun q => hC q.2)] at h
        exact h
  · rw [ja_an (fun q => hL q.1)] at h
    exact h
/-- arguments at an end: what the model does then -/
theorem ja_end {d x e : Nat} {G : mj_G} {f : mm_F} {K : Bool → mm_F → Prop} (hd : 1 ≤ d) (hS : mm_S G) (hW : tx_W w n) (hT : pt_T f w n) (he : e ≤ n) (hx : 3 ≤ x ∧ x ≤ 4) (h : K (rd_fin w (.inl e)).1 (pt_a f (rd_fin w (.inl e)).2)) : m_takesArguments_4 G (d + 1) (nI 1) (nI x) (pt_a f e) K := by
  refine w_m_takesArguments_4 hS ?_
  refine z_bt (by rw [z_le (by omega) (by omega)]; omega) (z_bf (by decide) ?_)
  refine c_takes hS hW hT hd he (by decide) (fun q => z_bt rfl ?_) (fun q => z_bf (by decide) ?_)
  · rw [show rd_fin w (.inl e) = (true, e + 1) from if_pos q] at h
    exact h
  · rw [show rd_fin w (.inl e) = (false, e) from if_neg q] at h
    exact h
theorem ja_endF {d x e : Nat} {G : mj_G} {f : mm_F} {K : Bool → mm_F → Prop} (hS : mm_S G) (h : K false (pt_a f e)) : m_takesArguments_4 G (d + 1) (nI 0) (nI x) (pt_a f e) K := by
  refine w_m_takesArguments_4 hS ?_
  exact z_br (fun _ => z_bt rfl h) (fun _ => z_bt rfl (z_bt rfl h))
end JA
