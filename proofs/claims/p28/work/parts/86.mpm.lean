/-! RENDERING: the model's values: data, items, alike, less, filters -/
def rv_u (c : Nat) : Nat := if 97 ≤ c ∧ c ≤ 122 then c - 32 else c
/-- the digits of a text as a number, from the i-th character on -/
def rn_f (c : Nat → Nat) : Nat → Nat → Int32 → Bool × Int32
  | 0, _, acc => (true, acc)
  | m + 1, i, acc => if 48 ≤ c i ∧ c i ≤ 57 then rn_f c m (i + 1) (nI 10 * acc + nI (c i) - nI 48) else (false, nI 10 * acc + nI (c i) - nI 48)
def rv_fr (v : rv) : Nat := if rv_l v ≠ 0 ∧ rv_c v 0 = 45 then 1 else 0
def rv_rn (v : rv) : Bool × Int32 := if 1 ≤ rv_l v - rv_fr v ∧ rv_l v - rv_fr v ≤ 9 then rn_f (rv_c v) (rv_l v - rv_fr v) (rv_fr v) (nI 0) else (false, nI 0)
def rv_rd (v : rv) : rv := if (rv_rn v).1 = true then rv_N (if rv_fr v = 1 then -(rv_rn v).2 else (rv_rn v).2) else rv_0
theorem rv_frl {v : rv} : rv_fr v ≤ 1 ∧ rv_fr v ≤ rv_l v := by
  unfold rv_fr
  by_cases h : rv_l v ≠ 0 ∧ rv_c v 0 = 45
  · rw [if_pos h]; omega
  · rw [if_neg h]; omega
/-- the items of a list with commas between -/
def jn_c (k : Nat) (st : Nat × (Nat → Nat) × Bool) : Nat × (Nat → Nat) × Bool := if k = 0 then st else (st.1 + 1, rv_ap st.1 st.2.1 (fun _ => 44), st.2.2)
def jn_i (st : Nat × (Nat → Nat) × Bool) (v : rv) : Nat × (Nat → Nat) × Bool := if rv_t v = 1 then (st.1 + dg_l (rv_n v), rv_ap st.1 st.2.1 (dg_c (rv_n v)), st.2.2) else (st.1 + rv_l v, rv_ap st.1 st.2.1 (rv_c v), false)
def jn (I : Nat → Nat → rv) (l : Nat) : Nat → Nat × (Nat → Nat) × Bool
  | 0 => (0, fun _ => 0, true)
  | k + 1 => jn_i (jn_c k (jn I l k)) (I l k)
theorem jn_cle {k : Nat} {st : Nat × (Nat → Nat) × Bool} : st.1 ≤ (jn_c k st).1 := by
  unfold jn_c
  by_cases h : k = 0
  · rw [if_pos h]; exact Nat.le_refl _
  · rw [if_neg h]; exact Nat.le_succ _
theorem jn_ile {v : rv} {st : Nat × (Nat → Nat) × Bool} : st.1 ≤ (jn_i st v).1 := by
  unfold jn_i
  by_cases h : rv_t v = 1
  · rw [if_pos h]; exact Nat.le_add_right _ _
  · rw [if_neg h]; exact Nat.le_add_right _ _
theorem jn_le {I : Nat → Nat → rv} {l : Nat} : ∀ {m k : Nat}, (jn I l k).1 ≤ (jn I l (k + m)).1
  | 0, k => Nat.le_refl _
  | m + 1, k => Nat.le_trans (jn_le (m := m) (k := k)) (Nat.le_trans jn_cle jn_ile)
section MQ
variable {Gm : mj_G} {D : Nat → rv} {I : Nat → Nat → rv} {f : mm_F} {d k i : Nat} {v w : rv} {x : Int32}
/-- what the data's rows are: never written by a place -/
def p_dr (f f' : mm_F) : Prop := ∀ a i, 1720 ≤ a → a ≤ 1727 → f' a i = f a i
theorem p_td87 {l : Nat} {K : mm_F → Prop} (hM : mm_S Gm) (hk : k < 380) (hl : l < 26) (ht : rv_t v = 2) (h40 : rv_l v ≤ 40) (hch : ∀ j, j < rv_l v → f 1723 (40 * l + j) = nI (rv_c v j)) (h30 : f 1730 k = nI (rv_l v)) (h28 : f 1728 k = nI 2)
    (hK : ∀ f', mw (fun q => q = k) no_R no_R f f' → (∀ a q, a ≠ 1732 → f' a q = f a q) → (∀ j, j < rv_l v → f' 1732 (300 * k + j) = nI (rv_c v j)) → K f') : ∀ {m q : Nat} {f1 : mm_F}, q + m = rv_l v → mw (fun q => q = k) no_R no_R f f1 → (∀ a q, a ≠ 1732 → f1 a q = f a q) → (∀ p, p < q → f1 1732 (300 * k + p) = nI (rv_c v p)) → m_takesData_87 Gm d (nI l) (nI k) (nI q) f1 K
  | 0, q, f1, hq, F, e, hc => by
    refine w_m_takesData_87 hM (z_ixi hk (by decide) ?_)
    rw [e 1730 k (by decide), h30, z_le (by omega) (by omega)]
    exact z_bt (by omega) (hK f1 F e (fun p hp => hc p (by omega)))
  | m + 1, q, f1, hq, F, e, hc => by
    refine w_m_takesData_87 hM (z_ixi hk (by decide) ?_)
    rw [e 1730 k (by decide), h30, z_le (by omega) (by omega)]
    refine z_bf (by omega) (z_ixi hk (by decide) ?_)
    rw [e 1728 k (by decide), h28]
    refine z_bt rfl ?_
    rw [z_mul, z_add, z_mul, z_add, z_add]
    refine z_ixi (by omega) (by decide) (z_ixi (by omega) (by decide) ?_)
    rw [e 1723 _ (by decide), hch q (by omega)]
    refine p_td87 hM hk hl ht h40 hch h30 h28 hK (m := m) (q := q + 1) (by omega) (mw_t F (mw_C (show (300 * k + q) / 300 = k by omega))) (fun a p ha => (z_u2n ha).trans (e a p ha)) (fun p hp => ?_)
    by_cases hpq : p = q
    · rw [hpq, z_u2s]
    · exact (z_u2m (by omega)).trans (hc p (by omega))
theorem p_takesData {l : Nat} {K : mm_F → Prop} (hM : mm_S Gm) (hk : k < 380) (hd : md f D I) (hl : l < 26) (hK : ∀ f', mw (fun q => q = k) no_R no_R f f' → mv f' k (D l) → K f') : m_takesData Gm d (nI l) (nI k) f K := by
  obtain ⟨hok, h1, h2, h3, h4, h5⟩ := hd l hl
  have ht := hok.1
  -- behind kind and number
  have beh : ∀ f1 s2, mw (fun q => q = k) no_R no_R f f1 → (∀ a i, 1720 ≤ a → a ≤ 1727 → f1 a i = f a i) → f1 1728 k = nI (rv_t (D l)) → (rv_t (D l) = 1 → s2 = rv_n (D l)) → (rv_t (D l) = 3 → s2 = nI (rv_d (D l))) → m_takesData_37 Gm d (nI l) (nI k) (nI k) s2 f1 K := fun f1 s2 F1 e1 k1 n1 n3 => by
    refine w_m_takesData_37 hM (z_ixi hk (by decide) (z_ixi hl (by decide) ?_))
    rw [show (mj_u2 f1 1729 k s2) 1720 l = nI (rv_t (D l)) from (z_u2n (by decide)).trans ((e1 _ _ (by decide) (by decide)).trans h1), z_le (by decide) (by omega)]
    have F2 : mw (fun q => q = k) no_R no_R f (mj_u2 f1 1729 k s2) := mw_t F1 (mw_P (by decide) rfl)
    refine z_br (fun q => z_ixi hl (by decide) (z_ixi hk (by decide) (z_ixi hl (by decide) ?_))) (fun q => z_ixi hk (by decide) (z_ixi hl (by decide) ?_))
    · rw [show (mj_u2 f1 1729 k s2) 1722 l = nI (rv_l (D l)) from (z_u2n (by decide)).trans ((e1 _ _ (by decide) (by decide)).trans (h3 q)), show (mj_u2 (mj_u2 f1 1729 k s2) 1730 k (nI (rv_l (D l)))) 1720 l = nI (rv_t (D l)) from (z_u2n (by decide)).trans ((z_u2n (by decide)).trans ((e1 _ _ (by decide) (by decide)).trans h1)), z_eq (by omega) (by decide)]
      have F3 : ∀ y, mw (fun q => q = k) no_R no_R f (mj_u2 (mj_u2 (mj_u2 f1 1729 k s2) 1730 k (nI (rv_l (D l)))) 1731 k y) := fun y => mw_t F2 (mw_t (mw_P (by decide) rfl) (mw_P (by decide) rfl))
      have g28 : ∀ y, (mj_u2 (mj_u2 (mj_u2 f1 1729 k s2) 1730 k (nI (rv_l (D l)))) 1731 k y) 1728 k = nI (rv_t (D l)) := fun y => (z_u2n (by decide)).trans ((z_u2n (by decide)).trans ((z_u2n (by decide)).trans k1))
      have g29 : ∀ y, (mj_u2 (mj_u2 (mj_u2 f1 1729 k s2) 1730 k (nI (rv_l (D l)))) 1731 k y) 1729 k = s2 := fun y => (z_u2n (by decide)).trans ((z_u2n (by decide)).trans z_u2s)
      have g30 : ∀ y, (mj_u2 (mj_u2 (mj_u2 f1 1729 k s2) 1730 k (nI (rv_l (D l)))) 1731 k y) 1730 k = nI (rv_l (D l)) := fun y => (z_u2n (by decide)).trans z_u2s
      refine z_br (fun q2 => z_ixi hk (by decide) ?_) (fun q2 => z_ixi hk (by decide) ?_)
      · obtain ⟨s1, s3, s4⟩ := h4 q2
        refine p_td87 (f := mj_u2 (mj_u2 (mj_u2 f1 1729 k s2) 1730 k (nI (rv_l (D l)))) 1731 k (nI 0)) (v := D l) hM hk hl q2 s3 (fun j hj => ?_) (g30 _) ((g28 _).trans (by rw [q2])) (fun f' F' e' hc => hK f' (mw_t (F3 _) F') ⟨(e' _ _ (by decide)).trans (g28 _), (e' _ _ (by decide)).trans (g30 _), (e' _ _ (by decide)).trans (z_u2s.trans (by rw [s1]; rfl)), fun r => absurd r (by omega), fun r => absurd r (by omega), fun _ => hc⟩) (m := rv_l (D l)) (q := 0) (by omega) mw_r (fun _ _ _ => rfl) (fun p hp => absurd hp (by omega))
        exact (z_u2n (by decide)).trans ((z_u2n (by decide)).trans ((z_u2n (by decide)).trans ((e1 _ _ (by decide) (by decide)).trans (s4 j hj))))
      · have q3 : rv_t (D l) = 3 := by omega
        have l8 := (hok.2.2.2.2 q3).1
        have fin : K (mj_u2 (mj_u2 (mj_u2 f1 1729 k s2) 1730 k (nI (rv_l (D l)))) 1731 k (nI 1)) := hK _ (F3 _) ⟨g28 _, g30 _, z_u2s.trans (by rw [hok.2.2.1 (by omega)]; rfl), fun r => absurd r (by omega), fun r => (g29 _).trans (n3 r), fun r => absurd r (by omega)⟩
        refine w_m_takesData_87 hM (z_ixi hk (by decide) (z_br (fun _ => fin) (fun _ => z_ixi hk (by decide) ?_)))
        rw [g28, q3]
        exact z_bf (by decide) fin
    · rw [show (mj_u2 (mj_u2 f1 1729 k s2) 1730 k (nI 0)) 1720 l = nI (rv_t (D l)) from (z_u2n (by decide)).trans ((z_u2n (by decide)).trans ((e1 _ _ (by decide) (by decide)).trans h1)), z_eq (by omega) (by decide)]
      refine z_bf (by omega) (z_ixi hk (by decide) ?_)
      have l0 : rv_l (D l) = 0 := hok.2.1 (by omega)
      refine w_m_takesData_87 hM (z_ixi hk (by decide) ?_)
      rw [show (mj_u2 (mj_u2 (mj_u2 f1 1729 k s2) 1730 k (nI 0)) 1731 k (nI 1)) 1730 k = nI 0 from (z_u2n (by decide)).trans z_u2s]
      refine z_bt (by rw [z_le (by decide) (by decide)]; exact Nat.le_refl _) (hK _ (mw_t F2 (mw_t (mw_P (by decide) rfl) (mw_P (by decide) rfl))) ⟨(z_u2n (by decide)).trans ((z_u2n (by decide)).trans ((z_u2n (by decide)).trans k1)), ?_, z_u2s.trans (by rw [hok.2.2.1 (by omega)]; rfl), fun r => (z_u2n (by decide)).trans ((z_u2n (by decide)).trans (z_u2s.trans (n1 r))), fun r => absurd r (by omega), fun r => absurd r (by omega)⟩)
      rw [l0]
      exact (z_u2n (by decide)).trans z_u2s
  refine w_m_takesData hM (z_ixi hl (by decide) (z_ixi hk (by decide) (z_ixi hl (by decide) ?_)))
  rw [h1, show (mj_u2 f 1728 k (nI (rv_t (D l)))) 1720 l = nI (rv_t (D l)) from (z_u2n (by decide)).trans h1, z_eq (by omega) (by decide)]
  have F1 : mw (fun q => q = k) no_R no_R f (mj_u2 f 1728 k (nI (rv_t (D l)))) := mw_P (by decide) rfl
  have e1 : ∀ a i, 1720 ≤ a → a ≤ 1727 → (mj_u2 f 1728 k (nI (rv_t (D l)))) a i = f a i := fun a i p q => z_u2n (by omega)
  refine z_br (fun q => beh _ _ F1 e1 z_u2s (fun r => absurd r (by omega)) (fun r => by rw [(h5 r).1])) (fun q => z_ixi hl (by decide) (beh _ _ F1 e1 z_u2s (fun r => (e1 _ _ (by decide) (by decide)).trans (h2 r)) (fun r => absurd r q)))
theorem p_ti73 {t : Nat} {K : mm_F → Prop} (hM : mm_S Gm) (hk : k < 380) (hl : t < 208) (h40 : rv_l v ≤ 40) (hch : ∀ j, j < rv_l v → f 1727 (40 * t + j) = nI (rv_c v j)) (h30 : f 1730 k = nI (rv_l v))
    (hK : ∀ f', mw (fun q => q = k) no_R no_R f f' → (∀ a q, a ≠ 1732 → f' a q = f a q) → (∀ j, j < rv_l v → f' 1732 (300 * k + j) = nI (rv_c v j)) → K f') : ∀ {m q : Nat} {f1 : mm_F}, q + m = rv_l v → mw (fun q => q = k) no_R no_R f f1 → (∀ a q, a ≠ 1732 → f1 a q = f a q) → (∀ p, p < q → f1 1732 (300 * k + p) = nI (rv_c v p)) → m_takesItem_73 Gm d (nI t) (nI k) (nI q) f1 K
  | 0, q, f1, hq, F, e, hc => by
    refine w_m_takesItem_73 hM (z_ixi hk (by decide) ?_)
    rw [e 1730 k (by decide), h30, z_le (by omega) (by omega)]
    exact z_bt (by omega) (hK f1 F e (fun p hp => hc p (by omega)))
  | m + 1, q, f1, hq, F, e, hc => by
    refine w_m_takesItem_73 hM (z_ixi hk (by decide) ?_)
    rw [e 1730 k (by decide), h30, z_le (by omega) (by omega)]
    refine z_bf (by omega) ?_
    rw [z_mul, z_add, z_mul, z_add, z_add]
    refine z_ixi (by omega) (by decide) (z_ixi (by omega) (by decide) ?_)
    rw [e 1727 _ (by decide), hch q (by omega)]
    refine p_ti73 hM hk hl h40 hch h30 hK (m := m) (q := q + 1) (by omega) (mw_t F (mw_C (show (300 * k + q) / 300 = k by omega))) (fun a p ha => (z_u2n ha).trans (e a p ha)) (fun p hp => ?_)
    by_cases hpq : p = q
    · rw [hpq, z_u2s]
    · exact (z_u2m (by omega)).trans (hc p (by omega))
theorem p_takesItem {l t : Nat} {K : mm_F → Prop} (hM : mm_S Gm) (hk : k < 380) (hd : md f D I) (hl : l < 26) (h3 : rv_t (D l) = 3) (ht : t < rv_l (D l)) (hK : ∀ f', mw (fun q => q = k) no_R no_R f f' → mv f' k (I l t) → K f') : m_takesItem Gm d (nI (8 * l + t)) (nI k) f K := by
  obtain ⟨hok, -, -, -, -, h5⟩ := hd l hl
  have l8 := (hok.2.2.2.2 h3).1
  obtain ⟨-, g0⟩ := h5 h3
  obtain ⟨g1, g2, g3, g4, g5⟩ := g0 t ht
  have hi : 8 * l + t < 208 := by omega
  have t2 : rv_t (I l t) ≤ 2 := by omega
  refine w_m_takesItem hM (z_ixi hi (by decide) (z_ixi hk (by decide) (z_ixi hi (by decide) (z_ixi hk (by decide) (z_ixi hi (by decide) ?_)))))
  rw [g2]
  have e1 : (mj_u2 f 1728 k (nI (rv_t (I l t)))) 1725 (8 * l + t) = f 1725 (8 * l + t) := z_u2n (by decide)
  rw [e1]
  have e2 : (mj_u2 (mj_u2 f 1728 k (nI (rv_t (I l t)))) 1729 k (f 1725 (8 * l + t))) 1724 (8 * l + t) = nI (rv_t (I l t)) := (z_u2n (by decide)).trans ((z_u2n (by decide)).trans g2)
  rw [e2, z_eq (by omega) (by decide)]
  have F2 : mw (fun q => q = k) no_R no_R f (mj_u2 (mj_u2 f 1728 k (nI (rv_t (I l t)))) 1729 k (f 1725 (8 * l + t))) := mw_t (mw_P (by decide) rfl) (mw_P (by decide) rfl)
  refine z_br (fun q => ?_) (fun q => ?_)
  · obtain ⟨b1, b2⟩ := g5 q
    have hs : rv_s (I l t) = false ∧ rv_l (I l t) ≤ 40 := by
      rcases g3 with g3 | g3
      · omega
      · exact g3.2
    refine z_ixi hi (by decide) (z_ixi hk (by decide) (z_ixi hi (by decide) ?_))
    rw [show (mj_u2 (mj_u2 f 1728 k (nI (rv_t (I l t)))) 1729 k (f 1725 (8 * l + t))) 1726 (8 * l + t) = nI (rv_l (I l t)) from (z_u2n (by decide)).trans ((z_u2n (by decide)).trans b1)]
    rw [show (mj_u2 (mj_u2 (mj_u2 f 1728 k (nI (rv_t (I l t)))) 1729 k (f 1725 (8 * l + t))) 1730 k (nI (rv_l (I l t)))) 1724 (8 * l + t) = nI (rv_t (I l t)) from (z_u2n (by decide)).trans e2, z_eq (by omega) (by decide)]
    refine z_bt q (z_ixi hk (by decide) ?_)
    refine p_ti73 (f := mj_u2 (mj_u2 (mj_u2 (mj_u2 f 1728 k (nI (rv_t (I l t)))) 1729 k (f 1725 (8 * l + t))) 1730 k (nI (rv_l (I l t)))) 1731 k (nI 0)) (v := I l t) hM hk hi hs.2 (fun j hj => ?_) ((z_u2n (by decide)).trans z_u2s) (fun f' F' e' hc => hK f' (mw_t F2 (mw_t (mw_t (mw_P (by decide) rfl) (mw_P (by decide) rfl)) F')) ⟨(e' _ _ (by decide)).trans ((z_u2n (by decide)).trans ((z_u2n (by decide)).trans ((z_u2n (by decide)).trans z_u2s))), (e' _ _ (by decide)).trans ((z_u2n (by decide)).trans z_u2s), (e' _ _ (by decide)).trans (z_u2s.trans (by rw [hs.1]; rfl)), fun r => absurd r (by omega), fun r => absurd r (by omega), fun _ => hc⟩) (m := rv_l (I l t)) (q := 0) (by omega) mw_r (fun _ _ _ => rfl) (fun p hp => absurd hp (by omega))
    exact (z_u2n (by decide)).trans ((z_u2n (by decide)).trans ((z_u2n (by decide)).trans ((z_u2n (by decide)).trans (b2 j hj))))
  · have q1 : rv_t (I l t) = 1 := by rcases g3 with g3 | g3 <;> omega
    refine z_ixi hk (by decide) (z_ixi hi (by decide) ?_)
    rw [show (mj_u2 (mj_u2 (mj_u2 f 1728 k (nI (rv_t (I l t)))) 1729 k (f 1725 (8 * l + t))) 1730 k (nI 0)) 1724 (8 * l + t) = nI (rv_t (I l t)) from (z_u2n (by decide)).trans e2, z_eq (by omega) (by decide)]
    refine z_bf q (z_ixi hk (by decide) (w_m_takesItem_73 hM (z_ixi hk (by decide) ?_)))
    rw [show (mj_u2 (mj_u2 (mj_u2 (mj_u2 f 1728 k (nI (rv_t (I l t)))) 1729 k (f 1725 (8 * l + t))) 1730 k (nI 0)) 1731 k (nI 1)) 1730 k = nI 0 from (z_u2n (by decide)).trans z_u2s]
    refine z_bt (by rw [z_le (by decide) (by decide)]; exact Nat.le_refl _) (hK _ (mw_t F2 (mw_t (mw_P (by decide) rfl) (mw_P (by decide) rfl))) ⟨(z_u2n (by decide)).trans ((z_u2n (by decide)).trans ((z_u2n (by decide)).trans z_u2s)), ?_, z_u2s.trans (by rw [g1.2.2.1 (by omega)]; rfl), fun r => (z_u2n (by decide)).trans ((z_u2n (by decide)).trans (z_u2s.trans (g4 r))), fun r => absurd r (by omega), fun r => absurd r (by omega)⟩)
    rw [g1.2.1 (by omega)]
    exact (z_u2n (by decide)).trans z_u2s
/-- whether two items are alike -/
theorem p_ai84 {s t : Nat} {K : Bool → mm_F → Prop} (hM : mm_S Gm) (hs : s < 208) (ht : t < 208) (hl : rv_l v ≤ 40) (h26 : f 1726 s = nI (rv_l v)) (hv : ∀ j, j < rv_l v → f 1727 (40 * s + j) = nI (rv_c v j)) (hw : ∀ j, j < rv_l v → f 1727 (40 * t + j) = nI (rv_c w j)) (cv : ∀ j, j < rv_l v → rv_c v j ≤ 126) (cw : ∀ j, j < rv_l v → rv_c w j ≤ 126)
    (h1 : (∀ j, j < rv_l v → rv_c v j = rv_c w j) → K true f) (h2 : ¬ (∀ j, j < rv_l v → rv_c v j = rv_c w j) → K false f) : ∀ {m q : Nat}, q + m = rv_l v → (∀ j, j < q → rv_c v j = rv_c w j) → m_areAlikeItems_84 Gm d (nI s) (nI t) (nI 1) (nI q) f K
  | 0, q, hq, hj => by
    refine w_m_areAlikeItems_84 hM (z_ixi hs (by decide) ?_)
    rw [h26, z_le (by omega) (by omega)]
    exact z_bt (by omega) (z_ex (b := true) (h1 (fun j hj2 => hj j (by omega))))
  | m + 1, q, hq, hj => by
    have x1 := cv q (by omega)
    have x2 := cw q (by omega)
    refine w_m_areAlikeItems_84 hM (z_ixi hs (by decide) ?_)
    rw [h26, z_le (by omega) (by omega)]
    refine z_bf (by omega) (z_bf (by decide) ?_)
    rw [z_mul, z_add, z_mul, z_add, z_add]
    refine z_ixi (by omega) (by decide) (z_ixi (by omega) (by decide) ?_)
    rw [hv q (by omega), hw q (by omega), z_eq (by omega) (by omega)]
    refine z_br (fun g => p_ai84 hM hs ht hl h26 hv hw cv cw h1 h2 (m := m) (q := q + 1) (by omega) (fun j hj2 => ?_)) (fun g => ?_)
    · by_cases e : j = q
      · rw [e]; exact g
      · exact hj j (by omega)
    · refine w_m_areAlikeItems_84 hM (z_ixi hs (by decide) ?_)
      have fin : bI_ex (nI 0) (fun b => K b f) := z_ex (b := false) (h2 (fun q' => g (q' q (by omega))))
      exact z_br (fun _ => fin) (fun _ => z_bt rfl fin)
theorem p_areAlikeItems {s t : Nat} {K : Bool → mm_F → Prop} (hM : mm_S Gm) (hs : s < 208) (ht : t < 208) (ov : rv_ok v) (ow : rv_ok w) (tv : rv_t v = 1 ∨ (rv_t v = 2 ∧ rv_l v ≤ 40)) (tw : rv_t w = 1 ∨ (rv_t w = 2 ∧ rv_l w ≤ 40)) (v4 : f 1724 s = nI (rv_t v)) (w4 : f 1724 t = nI (rv_t w)) (v5 : rv_t v = 1 → f 1725 s = rv_n v) (w5 : rv_t w = 1 → f 1725 t = rv_n w)
    (v6 : rv_t v = 2 → f 1726 s = nI (rv_l v) ∧ ∀ j, j < rv_l v → f 1727 (40 * s + j) = nI (rv_c v j)) (w6 : rv_t w = 2 → f 1726 t = nI (rv_l w) ∧ ∀ j, j < rv_l w → f 1727 (40 * t + j) = nI (rv_c w j)) (h1 : rv_pl v w → K true f) (h2 : ¬ rv_pl v w → K false f) : m_areAlikeItems Gm d (nI s) (nI t) f K := by
  unfold rv_pl at h1 h2
  refine w_m_areAlikeItems hM (z_ixi hs (by decide) (z_ixi ht (by decide) ?_))
  rw [v4, w4, z_eq (by omega) (by omega)]
  refine z_br (fun q => ?_) (fun q => w_m_areAlikeItems_20 hM (z_bt rfl (z_bt rfl (h2 (fun q' => q q'.1)))))
  refine w_m_areAlikeItems_20 hM (z_bf (by decide) (z_ixi hs (by decide) ?_))
  rw [v4, z_eq (by omega) (by decide)]
  refine z_br (fun q1 => z_bf (by decide) (z_ixi hs (by decide) (z_ixi ht (by decide) ?_))) (fun q1 => z_ixi hs (by decide) (z_ixi ht (by decide) ?_))
  · rw [v5 q1, w5 (by omega)]
    exact z_br (fun g => h1 ⟨q, fun _ => g, fun _ => by omega⟩) (fun g => h2 (fun q' => g (q'.2.1 q1)))
  · have q2 : rv_t v = 2 := by omega
    obtain ⟨b1, b2⟩ := v6 q2
    obtain ⟨c1, c2⟩ := w6 (by omega)
    rw [b1, c1, z_eq (by omega) (by omega)]
    refine z_br (fun hl => ?_) (fun hl => ?_)
    · exact p_ai84 (v := v) (w := w) hM hs ht (by omega) b1 b2 (fun j hj => c2 j (by omega)) (fun j hj => ((ov.2.2.2.1 q2).2 j hj).2) (fun j hj => ((ow.2.2.2.1 (by omega)).2 j (by omega)).2) (fun g => h1 ⟨q, fun _ => by omega, fun _ => ⟨hl, g⟩⟩) (fun g => h2 (fun q' => g (q'.2.2 q2).2)) (m := rv_l v) (q := 0) (by omega) (fun j hj => absurd hj (by omega))
    · have fin : bI_ex (nI 0) (fun b => K b f) := z_ex (b := false) (h2 (fun q' => hl (q'.2.2 q2).1))
      exact w_m_areAlikeItems_84 hM (z_ixi hs (by decide) (z_br (fun _ => fin) (fun _ => z_bt rfl fin)))
end MQ
