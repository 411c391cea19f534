/-! RENDERING: a line laid, by the model -/
/-- the model's templates, as far as lines go -/
def tL (f : mm_F) (w : Nat → Nat → Nat) (n : Nat → Nat) (pa : Nat → Nat) : Prop := ∀ t, t < 10 → mt_T f t (w t) (n t) ∧ pa t ≤ 10 ∧ ((pa t = 0 ∧ ¬ (w t 0 = 123 ∧ w t 1 = 60)) ∨ (w t 0 = 123 ∧ w t 1 = 60 ∧ tx_D (w t 2) ∧ pa t = w t 2 - 48 + 1))
def R_l (a : Nat) : Prop := a = 1737 ∨ a = 1738
theorem tL_f {P S R : Nat → Prop} {f f' : mm_F} {w : Nat → Nat → Nat} {n pa : Nat → Nat} (h : tL f w n pa) (hF : mw P S R f f') (hR : ¬ R 1716 ∧ ¬ R 1717) : tL f' w n pa := fun t ht => by
  obtain ⟨h1, h2, h3⟩ := h t ht
  exact ⟨mt_o h1 (fun k => hF.1 1716 k (by decide) (by decide) hR.1) (fun k => hF.1 1717 k (by decide) (by decide) hR.2), h2, h3⟩
/-- the model's line -/
def mL (f : mm_F) (L n : Nat) (c : Nat → Nat) : Prop := f 1738 L = nI n ∧ ∀ k, k < n → f 1737 (10 * L + k) = nI (c k) ∧ c k < 10
/-- other lines stay -/
def oL (L : Nat) (f f' : mm_F) : Prop := (∀ i, i ≠ L → f' 1738 i = f 1738 i) ∧ ∀ j, ¬ (10 * L ≤ j ∧ j < 10 * L + 10) → f' 1737 j = f 1737 j
section LM
variable {Gm : mj_G} {f : mm_F} {d L : Nat} {w : Nat → Nat → Nat} {nn pa : Nat → Nat}
/-- looked for in the line -/
theorem p_lay17 {n t : Nat} {c : Nat → Nat} {K : mm_F → Prop} (hM : mm_S Gm) (hL : L < 14) (hn : n ≤ 10) (ht : t < 10) (hml : mL f L n c) (h70 : f 1714 70 = nI 0) (h1 : (∃ k, k < n ∧ c k = t) → m_laysLine_97 Gm (d + 1) (nI L) (nI t) (mj_u2 f 1714 70 (Int32.ofInt (-8))) K) (h2 : (∀ k, k < n → c k ≠ t) → n < 10 → m_laysLine_97 Gm (d + 1) (nI L) (nI t) (mj_u2 (mj_u2 f 1737 (10 * L + n) (nI t)) 1738 L (nI (n + 1))) K) (hn10 : (∀ k, k < n → c k ≠ t) → n < 10) : m_laysLine_17 Gm (d + 1) (nI L) (nI t) (nI 0) f K := by
  have n8 : ¬ Int32.ofInt (-8) = nI 0 := by decide
  -- once it was found
  have fd : ∀ m k, k + m = n → (∃ k, k < n ∧ c k = t) → m_laysLine_17 Gm (d + 1) (nI L) (nI t) (nI k) (mj_u2 f 1714 70 (Int32.ofInt (-8))) K := fun m => by
    induction m with
    | zero =>
      intro k hk hx
      refine w_m_laysLine_17 hM (z_ixi hL (by decide) ?_)
      rw [show (mj_u2 f 1714 70 (Int32.ofInt (-8))) 1738 L = nI n from (z_u2n (by decide)).trans hml.1, z_le (by omega) (by omega), show (mj_u2 f 1714 70 (Int32.ofInt (-8))) 1714 70 = Int32.ofInt (-8) from z_u2s]
      exact z_bt (by omega) (z_bf n8 (h1 hx))
    | succ m ih =>
      intro k hk hx
      refine w_m_laysLine_17 hM (z_ixi hL (by decide) ?_)
      rw [show (mj_u2 f 1714 70 (Int32.ofInt (-8))) 1738 L = nI n from (z_u2n (by decide)).trans hml.1, z_le (by omega) (by omega)]
      refine z_bf (by omega) ?_
      rw [z_mul, z_add]
      refine z_ixi (by omega) (by decide) ?_
      rw [z_add, z_u2u, z_u2i]
      exact z_br (fun _ => ih (k + 1) (by omega) hx) (fun _ => ih (k + 1) (by omega) hx)
  have go : ∀ m k, k + m = n → (∀ j, j < k → c j ≠ t) → m_laysLine_17 Gm (d + 1) (nI L) (nI t) (nI k) f K := fun m => by
    induction m with
    | zero =>
      intro k hk hno
      have hno' : ∀ j, j < n → c j ≠ t := fun j hj => hno j (by omega)
      have h10 := hn10 hno'
      refine w_m_laysLine_17 hM (z_ixi hL (by decide) ?_)
      rw [hml.1, z_le (by omega) (by omega)]
      refine z_bt (by omega) (z_bt h70 (z_ixi hL (by decide) ?_))
      rw [hml.1, z_mul, z_add]
      refine z_ixi (by omega) (by decide) (z_ixi hL (by decide) (z_ixi hL (by decide) ?_))
      rw [show (mj_u2 f 1737 (10 * L + n) (nI t)) 1738 L = nI n from (z_u2n (by decide)).trans hml.1, z_add]
      exact h2 hno' h10
    | succ m ih =>
      intro k hk hno
      obtain ⟨c1, c2⟩ := hml.2 k (by omega)
      refine w_m_laysLine_17 hM (z_ixi hL (by decide) ?_)
      rw [hml.1, z_le (by omega) (by omega)]
      refine z_bf (by omega) ?_
      rw [z_mul, z_add]
      refine z_ixi (by omega) (by decide) ?_
      rw [c1, z_eq (by omega) (by omega), z_add, z_u2i]
      refine z_br (fun q => fd m (k + 1) (by omega) ⟨k, by omega, q⟩) (fun q => ih (k + 1) (by omega) (fun j hj => ?_))
      by_cases e : j = k
      · rw [e]; exact q
      · exact hno j (by omega)
  exact go n 0 (by omega) (fun j hj => absurd hj (Nat.not_lt_zero j))
theorem p_lay {f0 : mm_F} {K : mm_F → Prop} (hM : mm_S Gm) (hL : L < 14) (hd : 2 ≤ d) : ∀ {m n t : Nat} {c : Nat → Nat} {f : mm_F}, n + m = 10 → t < 10 → (∀ k, k < n → c k ≠ t) → (∀ i j, i < j → j < n → c i ≠ c j) → mL f L n c → tL f w nn pa → f 1714 70 = nI 0 → mw no_R (fun j => j = 70) R_l f0 f → oL L f0 f →
    (∀ f', mw no_R (fun j => j = 70) R_l f0 f' → oL L f0 f' → ((l_go pa m n c t).1 = true → mL f' L (l_go pa m n c t).2.1 (l_go pa m n c t).2.2 ∧ f' 1714 70 = nI 0) → (¬ (l_go pa m n c t).1 = true → f' 1714 70 = Int32.ofInt (-8)) → K f') → m_laysLine_9 Gm (d + 1) (nI L) (nI t) f K
  | 0, n, t, c, f, hn, ht, hno, hdi, hml, hT, h70, F, O, hK => by
    -- ten places hold all templates
    exfalso
    have hn10 : n = 10 := hn
    obtain ⟨i, j, h1, h2, h3⟩ := pg_n (n := 10) (c := fun i => if i = 10 then t else c i) (fun i hi => by
      show (if i = 10 then t else c i) < 10
      by_cases e : i = 10
      · rw [if_pos e]; exact ht
      · rw [if_neg e]; exact (hml.2 i (by omega)).2)
    have h3' : (if i = 10 then t else c i) = (if j = 10 then t else c j) := h3
    rw [if_neg (by omega)] at h3'
    by_cases e : j = 10
    · rw [if_pos e] at h3'
      exact hno i (by omega) h3'
    · rw [if_neg e] at h3'
      exact hdi i j h1 (by omega) h3'
  | m + 1, n, t, c, f, hn, ht, hno, hdi, hml, hT, h70, F, O, hK => by
    have big : ¬ nI t = Int32.ofInt (-1) := fun q => by
      rw [← sh_s, sh_n (by omega)] at q
      omega
    refine w_m_laysLine_9 hM (z_bf big (p_lay17 hM hL (by omega) ht hml h70 (fun q => ?_) (fun _ _ => ?_) (fun _ => by omega)))
    · obtain ⟨k, k1, k2⟩ := q
      exact absurd k2 (hno k k1)
    · have F1 : mw no_R (fun j => j = 70) R_l f (mj_u2 (mj_u2 f 1737 (10 * L + n) (nI t)) 1738 L (nI (n + 1))) := mw_t (mw_R (by decide) (Or.inl rfl)) (mw_R (by decide) (Or.inr rfl))
      have ml1 : mL (mj_u2 (mj_u2 f 1737 (10 * L + n) (nI t)) 1738 L (nI (n + 1))) L (n + 1) (l_ad c n t) := ⟨z_u2s, fun k hk => by
        unfold l_ad
        by_cases e : k = n
        · rw [if_pos e]
          refine ⟨(z_u2n (by decide)).trans ?_, ht⟩
          rw [e, z_u2s]
        · rw [if_neg e]
          obtain ⟨g1, g2⟩ := hml.2 k (by omega)
          exact ⟨(z_u2n (by decide)).trans ((z_u2m (by omega)).trans g1), g2⟩⟩
      have o1 : oL L f (mj_u2 (mj_u2 f 1737 (10 * L + n) (nI t)) 1738 L (nI (n + 1))) := ⟨fun i hi => (z_u2m hi).trans (z_u2n (by decide)), fun j hj => (z_u2n (by decide)).trans (z_u2m (by omega))⟩
      have e70 : (mj_u2 (mj_u2 f 1737 (10 * L + n) (nI t)) 1738 L (nI (n + 1))) 1714 70 = nI 0 := (z_u2n (by decide)).trans ((z_u2n (by decide)).trans h70)
      have T1 := tL_f hT F1 (by unfold R_l; decide)
      generalize mj_u2 (mj_u2 f 1737 (10 * L + n) (nI t)) 1738 L (nI (n + 1)) = f1 at F1 ml1 o1 e70 T1 ⊢
      have F01 := mw_t F F1
      have O1 : oL L f0 f1 := ⟨fun i hi => (o1.1 i hi).trans (O.1 i hi), fun j hj => (o1.2 j hj).trans (O.2 j hj)⟩
      obtain ⟨t1, t2, t3⟩ := T1 t ht
      have hW := t1.2.1
      -- no parent
      have none : pa t = 0 → m_laysLine_9 Gm (d + 1) (nI L) (Int32.ofInt (-1)) f1 K := fun q => by
        have e : l_go pa (m + 1) n c t = (true, n + 1, l_ad c n t) := by show (if pa t = 0 then _ else _) = _; rw [if_pos q]
        rw [e] at hK
        exact w_m_laysLine_9 hM (z_bt rfl (hK f1 F01 O1 (fun _ => ⟨ml1, e70⟩) (fun r => absurd rfl r)))
      refine w_m_laysLine_97 hM (z_bt e70 (c_letter hM t1 (by decide) ?_))
      rw [tx_nxe hW (by decide)]
      refine z_br (fun q0 => c_letter hM t1 (by decide) ?_) (fun q0 => none (by rcases t3 with t3 | t3; exact t3.1; exact absurd t3.1 q0))
      rw [tx_nxe hW (by decide)]
      refine z_br (fun q1 => c_letter hM t1 (by decide) ?_) (fun q1 => none (by rcases t3 with t3 | t3; exact t3.1; exact absurd t3.2.1 q1))
      have t4 : tx_D (w t 2) ∧ pa t = w t 2 - 48 + 1 := by
        rcases t3 with t3 | t3
        · exact absurd ⟨q0, q1⟩ t3.2
        · exact t3.2.2
      have t5 := t4.1
      unfold tx_D at t5
      rw [tx_nxi (tx_in hW (k := 2) (by omega)), z_sub (by omega)]
      have hpa : pa t - 1 = w t 2 - 48 := by omega
      have hdi1 : ∀ i j, i < j → j < n + 1 → l_ad c n t i ≠ l_ad c n t j := fun i j h1 h2 => by
        unfold l_ad
        by_cases e : j = n
        · rw [if_neg (by omega), if_pos e]
          exact hno i (by omega)
        · rw [if_neg (by omega), if_neg e]
          exact hdi i j h1 (by omega)
      by_cases hh1 : l_has (l_ad c n t) (n + 1) (pa t - 1) = true
      · have e : l_go pa (m + 1) n c t = (false, n + 1, l_ad c n t) := by show (if pa t = 0 then _ else _) = _; rw [if_neg (by omega), if_pos hh1]
        rw [e] at hK
        obtain ⟨k, k1, k2⟩ := l_hasT.mp hh1
        have big2 : ¬ nI (w t 2 - 48) = Int32.ofInt (-1) := fun q => by
          rw [← sh_s, sh_n (by omega)] at q
          omega
        refine w_m_laysLine_9 hM (z_bf big2 (p_lay17 hM hL (by omega) (by omega) ml1 e70 (fun _ => ?_) (fun q => absurd (k2.trans hpa) (q k k1)) (fun q => absurd (k2.trans hpa) (q k k1))))
        have g70 : (mj_u2 f1 1714 70 (Int32.ofInt (-8))) 1714 70 = Int32.ofInt (-8) := z_u2s
        refine w_m_laysLine_97 hM ?_
        rw [g70]
        refine z_bf (by decide) (w_m_laysLine_9 hM (z_bt rfl (hK _ (mw_t F01 (mw_S rfl)) ⟨fun i hi => (z_u2n (by decide)).trans (O1.1 i hi), fun j hj => (z_u2n (by decide)).trans (O1.2 j hj)⟩ (fun q => absurd q (show ¬ false = true by decide)) (fun _ => g70))))
      · have e : l_go pa (m + 1) n c t = l_go pa m (n + 1) (l_ad c n t) (pa t - 1) := by show (if pa t = 0 then _ else _) = _; rw [if_neg (by omega), if_neg hh1]
        rw [e, hpa] at hK
        exact p_lay hM hL hd (m := m) (n := n + 1) (t := w t 2 - 48) (by omega) (by omega) (fun k hk q => hh1 (l_hasT.mpr ⟨k, hk, by rw [hpa]; exact q⟩)) hdi1 ml1 T1 e70 F01 O1 hK
end LM
