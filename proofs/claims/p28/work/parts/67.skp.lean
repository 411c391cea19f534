/-! THE MODEL GOES OVER EXPRESSIONS -/
/-- the model at a place of the text that it reads -/
def sp_a (f : mm_F) (p : Nat) : mm_F := mj_u2 f 1714 23 (nI p)
theorem sp_aa {f : mm_F} {p q : Nat} : mj_u2 (sp_a f p) 1714 23 (nI q) = sp_a f q := z_u2u
theorem sp_23 {f : mm_F} {p : Nat} : sp_a f p 1714 23 = nI p := z_u2s
theorem sp_n {f : mm_F} {p a k : Nat} (h : a ≠ 1714) : sp_a f p a k = f a k := z_u2n h
theorem sp_m {f : mm_F} {p k : Nat} (h : k ≠ 23) : sp_a f p 1714 k = f 1714 k := z_u2m h
theorem sp_i {f : mm_F} {p : Nat} (h : f 1714 23 = nI p) : sp_a f p = f := by
  unfold sp_a
  rw [← h]
  exact z_u2i
/-- the text that is read -/
def mr_T (f : mm_F) (t : Nat) (w : Nat → Nat) (n : Nat) : Prop := mt_T f t w n ∧ f 1714 22 = nI t
theorem mt_o {f g : mm_F} {t : Nat} {w : Nat → Nat} {n : Nat} (h : mt_T f t w n) (h1 : ∀ k, g 1716 k = f 1716 k) (h2 : ∀ k, g 1717 k = f 1717 k) : mt_T g t w n := ⟨h.1, h.2.1, (h2 t).trans h.2.2.1, fun k hk => (h1 _).trans (h.2.2.2 k hk)⟩
theorem mr_a {f : mm_F} {t p : Nat} {w : Nat → Nat} {n : Nat} (h : mr_T f t w n) : mr_T (sp_a f p) t w n := ⟨mt_o h.1 (fun k => sp_n (by decide)) (fun k => sp_n (by decide)), (sp_m (by decide)).trans h.2⟩
section SK
variable {G G' : mj_G} {f : mm_F} {w : Nat → Nat} {n t : Nat} {A : Nat → Prop}
theorem c_here {d p : Nat} {K : Int32 → mm_F → Prop} (hM : mm_S G) (hT : mr_T f t w n) (hd : 1 ≤ d) (hp : p ≤ 400) (h : K (tx_nx w n p) (sp_a f p)) : m_here G d (sp_a f p) K := by
  obtain ⟨d, rfl⟩ : ∃ e, d = e + 1 := ⟨d - 1, by omega⟩
  have hT' := mr_a (p := p) hT
  refine w_m_here hM ?_
  rw [hT'.2, sp_23]
  exact c_letter hM hT'.1 hp h
theorem sk_text {d e : Nat} {K : mm_F → Prop} (hM : mm_S G) (hT : mr_T f t w n) (hd : 1 ≤ d) (he : w e = 39) (h : K (sp_a f (e + 1))) : ∀ {m p : Nat}, p + m = e → (∀ j, p ≤ j → j < e → tx_Q (w j)) → m_skipsText_10 G (d + 1) (sp_a f p) K
  | 0, p, hm, _ => by
    have hn := hT.1.2.1.1
    have hen := tx_in hT.1.2.1 (k := e) (by omega)
    have hp : p = e := hm
    refine w_m_skipsText_10 hM (c_here hM hT hd (by omega) ?_)
    rw [tx_nxe hT.1.2.1 (by decide), sp_23, z_add, sp_aa]
    refine z_bt (by rw [hp]; exact he) ?_
    rw [hp]
    exact h
  | m + 1, p, hm, hq => by
    have hn := hT.1.2.1.1
    have hen := tx_in hT.1.2.1 (k := e) (by omega)
    refine w_m_skipsText_10 hM (c_here hM hT hd (by omega) ?_)
    rw [tx_nxe hT.1.2.1 (by decide), sp_23, z_add, sp_aa]
    exact z_bf (hq p (Nat.le_refl _) (by omega)).1 (sk_text hM hT hd he h (m := m) (by omega) (fun j a b => hq j (by omega) b))
theorem sk_digits {d e : Nat} {K : mm_F → Prop} (hM : mm_S G) (hT : mr_T f t w n) (hd : 16 ≤ d) (he : e ≤ n) (h : K (sp_a f e)) : ∀ {m i p : Nat}, p + m = e → i + m ≤ 4 → (∀ j, p ≤ j → j < e → tx_D (w j)) → (i + m < 4 → ¬ tx_D (w e)) → m_skipsPrimary_14 G (d + 1) (nI i) (sp_a f p) K
  | 0, i, p, hm, hi, _, hx => by
    have hn := hT.1.2.1.1
    have hp : p = e := hm
    refine w_m_skipsPrimary_14 hM (by omega) ?_
    rw [z_le (by omega) (by omega)]
    refine z_br (fun _ => by rw [hp]; exact h) (fun hc => c_here hM hT (by omega) (by omega) ?_)
    rw [tx_nxD hT.1.2.1]
    refine z_bf (by rw [hp]; exact hx (by omega)) ?_
    rw [hp]
    exact h
  | m + 1, i, p, hm, hi, hq, hx => by
    have hn := hT.1.2.1.1
    refine w_m_skipsPrimary_14 hM (by omega) ?_
    rw [z_le (by omega) (by omega)]
    refine z_bf (by omega) (c_here hM hT (by omega) (by omega) ?_)
    rw [tx_nxD hT.1.2.1, sp_23, z_add, z_add, sp_aa]
    exact z_bt (hq p (Nat.le_refl _) (by omega)) (sk_digits hM hT hd he h (m := m) (by omega) (by omega) (fun j a b => hq j (by omega) b) (fun q => hx (by omega)))
/-- a primary tree is one that the model goes over as such -/
def tx_pm (A : Nat → Prop) (G' : mj_G) (l r : Nat) (w : Nat → Nat) (p q : Nat) : Prop := tx_E l A G' r w p q true
theorem sk_all (hM : mm_S G) (hT : mr_T f t w n) : ∀ {l r p q pr}, tx_E l A G' r w p q pr → q ≤ n → (∀ d K, 3 * (q - p) + 20 ≤ d → m_skipsExpression_4 G (d + 1) (sp_a f q) K → m_skipsExpression G (d + 1) (sp_a f p) K) ∧ (pr = true → ∀ d K, 3 * (q - p) + 19 ≤ d → K (sp_a f q) → m_skipsPrimary G d (sp_a f p) K)
  | 0, _, _, _, _, h, _ => h.elim
  | l + 1, r, p, q, pr, h, hq => by
    have hW := hT.1.2.1
    have hn := hW.1
    obtain ⟨hlt, -⟩ := tx_E_ch h
    obtain ⟨hA, hr0, hk, h⟩ := h
    have hw := tx_le hW p
    -- a primary one
    have prim : (∀ d K, 3 * (q - p) + 19 ≤ d → K (sp_a f q) → m_skipsPrimary G d (sp_a f p) K) → (∀ d K, 3 * (q - p) + 20 ≤ d → m_skipsExpression_4 G (d + 1) (sp_a f q) K → m_skipsExpression G (d + 1) (sp_a f p) K) ∧ (pr = true → ∀ d K, 3 * (q - p) + 19 ≤ d → K (sp_a f q) → m_skipsPrimary G d (sp_a f p) K) := fun h => ⟨fun d K hd hK => w_m_skipsExpression hM (h d _ (by omega) hK), fun _ => h⟩
    -- the way up to the cases
    have way : ∀ d K, 16 ≤ d → (tx_D (w p) → m_skipsPrimary_14 G (d + 1) (nI 0) (sp_a f p) K) → (w p = 39 → m_skipsText G d (sp_a f p) (fun f11 => K f11)) → (w p = 33 → m_skipsExpression G d (sp_a f (p + 1)) (fun f9 => K f9)) →
        (w p = 40 → m_skipsExpression G d (sp_a f (p + 1)) (fun f6 => m_skipsExpression G d (mj_u2 f6 1714 23 ((f6 1714 23) + (nI 1))) (fun f7 => K (mj_u2 f7 1714 23 ((f7 1714 23) + (nI 1)))))) → (¬ tx_D (w p) → w p ≠ 39 → w p ≠ 33 → w p ≠ 40 → mm_br (w (p + 1) = 46) (K (sp_a f (p + 3))) (K (sp_a f (p + 1)))) → m_skipsPrimary G (d + 1) (sp_a f p) K := fun d K hd h1 h2 h3 h4 h5 => by
      refine w_m_skipsPrimary hM (by omega) (c_here hM hT (by omega) (by omega) ?_)
      rw [tx_nxD hW, tx_nxe hW (by decide), tx_nxe hW (by decide), tx_nxe hW (by decide), sp_23, z_add, sp_aa]
      refine z_br h1 (fun c1 => z_br h2 (fun c2 => z_br h3 (fun c3 => z_br h4 (fun c4 => ?_))))
      rw [(mr_a hT).2]
      refine c_letter hM (mr_a hT).1 (by omega) ?_
      rw [tx_nxe hW (by decide), z_add, sp_aa, sp_aa]
      exact h5 c1 c2 c3 c4
    rcases h with ⟨m, a1, a2, a3, a4, a5, a6, a7⟩ | ⟨a1, a2, a3, a4, a5⟩ | ⟨a1, a2, a3, a4, a5, a6, a7⟩ | ⟨a1, a2, a3, a4, a5, -⟩ | ⟨a1, a2, a3, a4, a5⟩ | ⟨a1, m, a2, a3, a4, a5, a6, a7, a8⟩ | ⟨hpr, m, a1, a2, a3, a4, a5, a6, a7⟩ | ⟨hpr, m, a1, a2, a3, a4, a5, a6, a7⟩
    · have h0 := a4 p (Nat.le_refl _) hlt
      refine prim (fun d K hd hK => ?_)
      obtain ⟨d, rfl⟩ : ∃ e, d = e + 1 := ⟨d - 1, by omega⟩
      refine way d K (by omega) (fun _ => sk_digits hM hT (by omega) hq hK (m := m) (i := 0) a3.symm (by omega) a4 (fun q => a5 (by omega))) (fun q => ?_) (fun q => ?_) (fun q => ?_) (fun q => absurd h0 q)
      all_goals (unfold tx_D at h0; omega)
    · refine prim (fun d K hd hK => ?_)
      obtain ⟨d, rfl⟩ : ∃ e, d = e + 1 := ⟨d - 1, by omega⟩
      unfold tx_L at a1
      refine way d K (by omega) (fun q => ?_) (fun q => ?_) (fun q => ?_) (fun q => ?_) (fun _ _ _ _ => z_bf (by rw [← a2]; exact a3) (by rw [← a2]; exact hK))
      · unfold tx_D at q; omega
      all_goals omega
    · refine prim (fun d K hd hK => ?_)
      obtain ⟨d, rfl⟩ : ∃ e, d = e + 1 := ⟨d - 1, by omega⟩
      unfold tx_L at a1
      refine way d K (by omega) (fun q => ?_) (fun q => ?_) (fun q => ?_) (fun q => ?_) (fun _ _ _ _ => z_bt a2 (by rw [← a4]; exact hK))
      · unfold tx_D at q; omega
      all_goals omega
    · refine prim (fun d K hd hK => ?_)
      obtain ⟨d, rfl⟩ : ∃ e, d = e + 2 := ⟨d - 2, by omega⟩
      refine way (d + 1) K (by omega) (fun q => ?_) (fun _ => w_m_skipsText hM ?_) (fun q => ?_) (fun q => ?_) (fun _ q => absurd a1 q)
      · unfold tx_D at q; omega
      · rw [sp_23, z_add, sp_aa]
        refine sk_text hM hT (by omega) (e := q - 1) a3 ?_ (m := q - 1 - (p + 1)) (by omega) (fun j b1 b2 => a4 j (by omega) b2)
        rw [show q - 1 + 1 = q by omega]
        exact hK
      all_goals omega
    · obtain ⟨b1, -⟩ := tx_E_ch a5
      obtain ⟨s1, -⟩ := sk_all hM hT a5 hq
      refine prim (fun d K hd hK => ?_)
      obtain ⟨d, rfl⟩ : ∃ e, d = e + 2 := ⟨d - 2, by omega⟩
      refine way (d + 1) K (by omega) (fun q => ?_) (fun q => ?_) (fun _ => s1 d _ (by omega) ?_) (fun q => ?_) (fun _ _ q => absurd a1 q)
      · unfold tx_D at q; omega
      · omega
      · refine w_m_skipsExpression_4 hM (c_here hM hT (by omega) (by omega) ?_)
        rw [tx_nxe hW (by decide)]
        exact z_bf a2 hK
      · omega
    · obtain ⟨b1, -⟩ := tx_E_ch a7
      obtain ⟨b2, -⟩ := tx_E_ch a8
      obtain ⟨s1, -⟩ := sk_all hM hT a7 (by omega)
      obtain ⟨s2, -⟩ := sk_all hM hT a8 (by omega)
      refine prim (fun d K hd hK => ?_)
      obtain ⟨d, rfl⟩ : ∃ e, d = e + 2 := ⟨d - 2, by omega⟩
      refine way (d + 1) K (by omega) (fun q => ?_) (fun q => ?_) (fun q => ?_) (fun _ => s1 d _ (by omega) ?_) (fun _ _ _ q => absurd a1 q)
      · unfold tx_D at q; omega
      · omega
      · omega
      · refine w_m_skipsExpression_4 hM (c_here hM hT (by omega) (by omega) ?_)
        rw [tx_nxe hW (by decide)]
        refine z_bf (by unfold tx_O at a4; omega) ?_
        rw [sp_23, z_add, sp_aa]
        refine s2 d _ (by omega) (w_m_skipsExpression_4 hM (c_here hM hT (by omega) (by omega) ?_))
        rw [tx_nxe hW (by decide)]
        refine z_bf (by omega) ?_
        rw [sp_23, z_add, sp_aa, show q - 1 + 1 = q by omega]
        exact hK
    · obtain ⟨b1, -⟩ := tx_E_ch a7
      obtain ⟨s1, -⟩ := sk_all hM hT a7 (by omega)
      refine ⟨fun d K hd hK => s1 d K (by omega) (w_m_skipsExpression_4 hM (c_here hM hT (by omega) (by omega) ?_)), fun q => by rw [hpr] at q; cases q⟩
      rw [tx_nxe hW (by decide), sp_23, z_add, sp_aa, sp_23]
      refine z_bt a3 ?_
      rw [(mr_a hT).2, z_sub (by omega)]
      refine c_letter hM (mr_a hT).1 (by omega) ?_
      rw [tx_nxe hW (by decide), show m + 2 - 1 = m + 1 by omega, a2]
      exact z_bf (by omega) hK
    · obtain ⟨b1, -⟩ := tx_E_ch a6
      obtain ⟨b2, -⟩ := tx_E_ch a7
      obtain ⟨s1, -⟩ := sk_all hM hT a6 (by omega)
      obtain ⟨-, s2⟩ := sk_all hM hT a7 hq
      refine ⟨fun d K hd hK => s1 d K (by omega) (w_m_skipsExpression_4 hM (c_here hM hT (by omega) (by omega) ?_)), fun q => by rw [hpr] at q; cases q⟩
      rw [tx_nxe hW (by decide), sp_23, z_add, sp_aa, sp_23]
      refine z_bt a3 ?_
      rw [(mr_a hT).2, z_sub (by omega)]
      refine c_letter hM (mr_a hT).1 (by omega) ?_
      rw [tx_nxe hW (by decide), show m + 2 - 1 = m + 1 by omega]
      exact z_bt a4 (s2 rfl d _ (by omega) hK)
/-- a whole expression, behind which no filter stands -/
theorem c_skipsExpression {l r p q d : Nat} {pr : Bool} {K : mm_F → Prop} (hM : mm_S G) (hT : mr_T f t w n) (h : tx_E l A G' r w p q pr) (hq : q ≤ n) (h124 : ¬ w q = 124) (hd : 3 * (q - p) + 21 ≤ d) (hK : K (sp_a f q)) : m_skipsExpression G d (sp_a f p) K := by
  obtain ⟨d, rfl⟩ : ∃ e, d = e + 1 := ⟨d - 1, by omega⟩
  have hn := hT.1.2.1.1
  refine (sk_all hM hT h hq).1 d K (by omega) (w_m_skipsExpression_4 hM (c_here hM hT (by omega) (by omega) ?_))
  rw [tx_nxe hT.1.2.1 (by decide)]
  exact z_bf h124 hK
end SK
