/-! WHAT THE MODEL SEES OF A TEMPLATE'S TEXT -/
/-- the template t is the text w of n characters -/
def mt_T (f : mm_F) (t : Nat) (w : Nat → Nat) (n : Nat) : Prop := t < 10 ∧ tx_W w n ∧ f 1717 t = nI n ∧ ∀ k, k < n → f 1716 (80 * t + k) = nI (w k)
/-- no tag begins or ends between -/
def tx_N (w : Nat → Nat) (p q : Nat) : Prop := ∀ j, p ≤ j → j < q → w j ≠ 123 ∧ w j ≠ 125 ∧ w j ≠ 0
/-- no { between -/
def tx_M (w : Nat → Nat) (p q : Nat) : Prop := ∀ j, p ≤ j → j < q → w j ≠ 123
theorem tx_N1 {w : Nat → Nat} {p : Nat} (h : w p ≠ 123 ∧ w p ≠ 125 ∧ w p ≠ 0) : tx_N w p (p + 1) := fun j h1 h2 => by
  have : j = p := by omega
  rw [this]; exact h
theorem tx_Na {w : Nat → Nat} {p m q : Nat} (h1 : tx_N w p m) (h2 : tx_N w m q) : tx_N w p q := fun j a b => by
  by_cases h : j < m
  · exact h1 j a h
  · exact h2 j (by omega) b
theorem tx_E_ch {A : Nat → Prop} {G : mj_G} {w : Nat → Nat} : ∀ {l r p q pr}, tx_E l A G r w p q pr → p < q ∧ tx_N w p q
  | 0, _, _, _, _, h => h.elim
  | l + 1, r, p, q, pr, h => by
    obtain ⟨-, -, -, h⟩ := h
    have one : ∀ {k c}, w k = c → (c ≠ 123 ∧ c ≠ 125 ∧ c ≠ 0) → tx_N w k (k + 1) := fun hk hc => tx_N1 (by rw [hk]; exact hc)
    rcases h with ⟨m, a1, a2, a3, a4, -⟩ | ⟨a1, a2, -⟩ | ⟨a1, a2, a3, a4, -⟩ | ⟨a1, a2, a3, a4, -⟩ | ⟨a1, -, -, -, a2⟩ | ⟨a1, m, a2, a3, a4, a5, -, a6, a7⟩ | ⟨-, m, a1, a2, a3, a4, -, -, a5⟩ | ⟨-, m, a1, a2, a3, a4, -, a5, a6⟩
    · refine ⟨by omega, fun j h1 h2 => ?_⟩
      have := a4 j h1 h2
      unfold tx_D at this
      omega
    · subst a2
      unfold tx_L at a1
      exact ⟨by omega, tx_N1 (by omega)⟩
    · subst a4
      unfold tx_L at a1
      unfold tx_D at a3
      exact ⟨by omega, tx_Na (tx_N1 (by omega)) (tx_Na (tx_N1 (p := p + 1) (by omega)) (tx_N1 (p := p + 2) (by omega)))⟩
    · refine ⟨by omega, fun j h1 h2 => ?_⟩
      by_cases hj : j = p
      · rw [hj]; omega
      · by_cases hj2 : j = q - 1
        · rw [hj2]; omega
        · have := a4 j (by omega) (by omega)
          exact ⟨this.2.1, this.2.2.1, this.2.2.2⟩
    · obtain ⟨b1, b2⟩ := tx_E_ch a2
      exact ⟨by omega, tx_Na (one a1 (by decide)) b2⟩
    · obtain ⟨b1, b2⟩ := tx_E_ch a6
      obtain ⟨c1, c2⟩ := tx_E_ch a7
      have hm : tx_N w m (m + 1) := tx_N1 (by unfold tx_O at a4; omega)
      have hq : tx_N w (q - 1) (q - 1 + 1) := one a5 (by decide)
      rw [show q - 1 + 1 = q by omega] at hq
      exact ⟨by omega, tx_Na (one a1 (by decide)) (tx_Na b2 (tx_Na hm (tx_Na c2 hq)))⟩
    · obtain ⟨b1, b2⟩ := tx_E_ch a5
      subst a2
      exact ⟨by omega, tx_Na b2 (tx_Na (one a3 (by decide)) (tx_N1 (p := m + 1) (by omega)))⟩
    · obtain ⟨b1, b2⟩ := tx_E_ch a5
      obtain ⟨c1, c2⟩ := tx_E_ch a6
      exact ⟨by omega, tx_Na b2 (tx_Na (one a3 (by decide)) (tx_Na (one (k := m + 1) a4 (by decide)) c2))⟩
theorem tx_A_ch {A : Nat → Prop} {G : mj_G} {w : Nat → Nat} : ∀ {i r p e}, tx_A i A G r w p e → p < e ∧ tx_N w p e
  | 0, _, _, _, h => h.elim
  | i + 1, r, p, e, h => by
    obtain ⟨-, -, -, s, m, h1, ⟨l, h2⟩, h3⟩ := h
    obtain ⟨b1, b2⟩ := tx_E_ch h2
    have hs : p ≤ s ∧ tx_N w p s := by
      rcases h1 with ⟨a1, a2, rfl, -⟩ | ⟨-, rfl, -⟩
      · unfold tx_L at a1
        exact ⟨by omega, tx_Na (tx_N1 (by omega)) (tx_N1 (p := p + 1) (by omega))⟩
      · exact ⟨Nat.le_refl _, fun j a b => absurd b (by omega)⟩
    have hm : tx_N w p m := tx_Na hs.2 b2
    rcases h3 with ⟨-, a1, a2⟩ | ⟨-, rfl, -⟩
    · obtain ⟨c1, c2⟩ := tx_A_ch a2
      exact ⟨by omega, tx_Na hm (tx_Na (tx_N1 (by omega)) c2)⟩
    · exact ⟨by omega, hm⟩
theorem tx_P_ch {A : Nat → Prop} {G : mj_G} {w : Nat → Nat} : ∀ {i r p e sn}, tx_P i A G r w p e sn → p ≤ e ∧ tx_N w p e
  | 0, _, p, e, _, h => by
    obtain ⟨-, rfl⟩ := h
    exact ⟨Nat.le_refl _, fun j a b => absurd b (by omega)⟩
  | i + 1, r, p, e, sn, h => by
    rcases h with ⟨-, rfl, -⟩ | ⟨-, -, -, h1, -, -, m, h2, h3⟩
    · exact ⟨Nat.le_refl _, fun j a b => absurd b (by omega)⟩
    · obtain ⟨c1, c2⟩ := tx_P_ch h3
      unfold tx_L at h1
      have hp : tx_N w p (p + 1) := tx_N1 (by omega)
      rcases h2 with ⟨-, rfl, -⟩ | ⟨a1, l, a2⟩
      · exact ⟨by omega, tx_Na hp c2⟩
      · obtain ⟨b1, b2⟩ := tx_E_ch a2
        exact ⟨by omega, tx_Na hp (tx_Na (tx_N1 (p := p + 1) (by omega)) (tx_Na b2 c2))⟩
theorem tb_h_ch {A : Nat → Prop} {G : mj_G} {r : Nat} {b : Int32} {w : Nat → Nat} {p e : Nat} (h : tb_h A G r b w p e) : p + 2 ≤ e ∧ tx_N w (p + 1) e := by
  have sg : ∀ {q}, w (p + 1) ≠ 123 ∧ w (p + 1) ≠ 125 ∧ w (p + 1) ≠ 0 → tx_N w (p + 2) q → tx_N w (p + 1) q := fun h1 h2 => tx_Na (tx_N1 (p := p + 1) h1) h2
  have d2 : ∀ {q}, tx_D (w (p + 2)) → tx_N w (p + 3) q → tx_N w (p + 2) q := fun h1 h2 => tx_Na (tx_N1 (p := p + 2) (by unfold tx_D at h1; omega)) h2
  have no : ∀ {x}, tx_N w x x := fun j a b => absurd b (by omega)
  rcases h with ⟨a, ⟨l, c⟩, -⟩ | ⟨a, a2, ⟨l, c⟩, -⟩ | ⟨a, a2, ⟨l, c⟩, -⟩ | ⟨a, a2, rfl, -⟩ | ⟨a, rfl, -⟩ | ⟨a, rfl, -⟩ | ⟨a, a2, c, -⟩ | ⟨a, a2, c, -⟩
  · obtain ⟨b1, b2⟩ := tx_E_ch c
    exact ⟨by omega, sg (by omega) b2⟩
  · obtain ⟨b1, b2⟩ := tx_E_ch c
    exact ⟨by omega, sg (by omega) (tx_Na (tx_N1 (p := p + 2) (by unfold tx_L at a2; omega)) b2)⟩
  · obtain ⟨b1, b2⟩ := tx_E_ch c
    exact ⟨by omega, sg (by omega) (d2 a2 b2)⟩
  · exact ⟨by omega, sg (by omega) (d2 a2 no)⟩
  · exact ⟨by omega, sg (by omega) no⟩
  · exact ⟨by omega, sg (by omega) no⟩
  · obtain ⟨b1, b2⟩ := tx_P_ch c
    exact ⟨by omega, sg (by omega) (d2 a2 b2)⟩
  · rcases c with ⟨rfl, -⟩ | ⟨-, c⟩
    · exact ⟨by omega, sg (by omega) (d2 a2 no)⟩
    · obtain ⟨b1, b2⟩ := tx_A_ch c
      exact ⟨by omega, sg (by omega) (d2 a2 b2)⟩
theorem tb_le {A : Nat → Prop} {G : mj_G} {hm : Int32} {w : Nat → Nat} : ∀ {k b r p q L}, tb_B k A G hm b r w p q L → p ≤ q
  | 0, _, _, _, _, _, h => h.elim
  | k + 1, b, r, p, q, L, h => by
    rcases h with ⟨-, rfl, -⟩ | ⟨-, -, -, -, -, -, -, -, -, -, h⟩ | ⟨-, -, -, -, -, -, -, -, e, m, L1, L2, he, -, -, -, h13, h14⟩
    · exact Nat.le_refl _
    · have := tb_le h
      omega
    · have := tb_le h13
      rcases h14 with ⟨-, rfl, -⟩ | ⟨-, -, -, q1, a4, -, -, -, rfl⟩ | ⟨-, q1, q2, La, Lb, a2, -, -, -, a6, -, -, -, rfl, -⟩
      · omega
      · have := tb_le a4
        omega
      · have := tb_le a2
        have := tb_le a6
        omega
section MT
variable {G : mj_G} {f : mm_F} {t : Nat} {w : Nat → Nat} {n d : Nat}
theorem c_letter {k : Nat} {K : Int32 → mm_F → Prop} (hS : mm_S G) (hT : mt_T f t w n) (hk : k ≤ 400) (h : K (tx_nx w n k) f) : m_letter G d (nI t) (nI k) f K := by
  obtain ⟨t1, t2, t3, t4⟩ := hT
  have hn := t2.1
  refine w_m_letter hS (z_ixi t1 (by decide) ?_)
  rw [t3, z_le (by omega) (by omega)]
  refine z_br (fun hc => ?_) (fun hc => ?_)
  · rw [show tx_nx w n k = Int32.ofInt (-1) from if_neg (by omega)] at h
    exact h
  · rw [show tx_nx w n k = nI (w k) from if_pos (by omega)] at h
    rw [z_mul, z_add]
    refine z_ixi (by omega) (by decide) ?_
    rw [t4 k (by omega)]
    exact h
theorem c_endOf {e : Nat} {K : Int32 → mm_F → Prop} (hS : mm_S G) (hT : mt_T f t w n) (he : w e = 125) (h : K (nI e) f) : ∀ {m p : Nat}, p + m = e → (∀ j, p ≤ j → j < e → w j ≠ 125) → m_endOf_2 G (d + 1) (nI t) (nI p) f K
  | 0, p, hm, _ => by
    have hn := hT.2.1.1
    have hen := tx_in hT.2.1 (k := e) (by omega)
    have : p = e := hm
    subst this
    refine w_m_endOf_2 hS (c_letter hS hT (by omega) ?_)
    rw [tx_nxe hT.2.1 (by decide)]
    exact z_bt he h
  | m + 1, p, hm, hq => by
    have hn := hT.2.1.1
    have hen := tx_in hT.2.1 (k := e) (by omega)
    refine w_m_endOf_2 hS (c_letter hS hT (by omega) ?_)
    rw [tx_nxe hT.2.1 (by decide)]
    refine z_bf (hq p (Nat.le_refl _) (by omega)) ?_
    rw [z_add]
    exact c_endOf hS hT he h (m := m) (by omega) (fun j a b => hq j (by omega) b)
/-- the } of a tag -/
theorem c_tagEnd {A : Nat → Prop} {G' : mj_G} {r p e : Nat} {b : Int32} {K : Int32 → mm_F → Prop} (hS : mm_S G) (hT : mt_T f t w n) (hd : 1 ≤ d) (hH : tb_h A G' r b w p e) (hp : w p = 123) (he : w e = 125) (h : K (nI e) f) : m_endOf G d (nI t) (nI p) f K := by
  obtain ⟨d, rfl⟩ : ∃ e, d = e + 1 := ⟨d - 1, by omega⟩
  obtain ⟨h1, h2⟩ := tb_h_ch hH
  refine w_m_endOf hS (c_endOf hS hT he h (m := e - p) (by omega) (fun j a b => ?_))
  by_cases hj : j = p
  · rw [hj]; omega
  · exact (h2 j (by omega) b).2.1
/-! what closes a body -/
theorem bo_skip {D e : Nat} {K : Int32 → mm_F → Prop} (hS : mm_S G) (hT : mt_T f t w n) (hd : 15 ≤ d) (he : e ≤ 300) (h : m_borderOf_5 G (d + 1) (nI t) (nI D) (nI e) f K) : ∀ {m p : Nat}, p + m = e → tx_M w p e → m_borderOf_5 G (d + 1) (nI t) (nI D) (nI p) f K
  | 0, p, hm, _ => by
    have : p = e := hm
    rw [this]; exact h
  | m + 1, p, hm, hq => by
    refine w_m_borderOf_5 hS hd (c_letter hS hT (by omega) ?_)
    rw [tx_nxe hT.2.1 (by decide)]
    refine z_bf (hq p (Nat.le_refl _) (by omega)) ?_
    rw [z_add]
    exact bo_skip hS hT hd he h (m := m) (by omega) (fun j a b => hq j (by omega) b)
end MT
