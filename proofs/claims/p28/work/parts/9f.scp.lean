/-! RENDERING: scopes of the model opened and closed -/
/-- where the variables of each scope begin -/
def mb (f : mm_F) (N : Nat) (bg : Nat → Nat) (vc : Nat) : Prop := f 1714 26 = nI N ∧ ∀ s, s < N → f 1734 s = nI (bg s) ∧ bg s ≤ vc ∧ ∀ k, k < vc → ∀ r, r < N → f 1735 k = nI r → (s ≤ r ↔ bg s ≤ k)
def e_bh (B : Nat → Nat) (N x : Nat) : Nat → Nat := fun s => if s = N then x else B s
def e_rm (V : Nat → Nat → Option rv) (N : Nat) : Nat → Nat → Option rv := fun s l => if s < N then V s l else none
def R_o (a : Nat) : Prop := a = 1733 ∨ a = 1734
section SO
variable {Gm : mj_G} {D : Nat → rv} {f f' : mm_F} {N d x vc op : Nat} {B bg : Nat → Nat} {V : Nat → Nat → Option rv} {y : Int32}
theorem mb_f {P S R : Nat → Prop} (h : mb f N bg vc) (hF : mw P S R f f') (hS : ¬ S 26) (hR : ∀ a, R a → a ≠ 1734 ∧ a ≠ 1735) : mb f' N bg vc := by
  have e : ∀ a i, a = 1734 ∨ a = 1735 → f' a i = f a i := fun a i q => hF.1 a i (by omega) (by omega) (fun r => by have := hR a r; omega)
  refine ⟨(hF.2.1 26 hS).trans h.1, fun s hs => ?_⟩
  obtain ⟨h1, h2, h3⟩ := h.2 s hs
  exact ⟨(e _ s (Or.inl rfl)).trans h1, h2, fun k hk r hr q => h3 k hk r hr ((e _ k (Or.inr rfl)).symm.trans q)⟩
theorem p_opensScope {K : Int32 → mm_F → Prop} (hM : mm_S Gm) (hE : me f D N B V) (hu : mu f vc) (hb : mb f N bg vc) (hN : N < 400) (hx : x ≤ N)
    (hK : ∀ f', mw no_R (fun j => j = 26 ∨ j = 27) R_o f f' → me f' D (N + 1) (e_bh B N x) V → mu f' vc → mb f' (N + 1) (e_bh bg N vc) vc → f' 1714 27 = nI N → K (f 1714 27) f') : m_opensScope Gm d (sh x) f K := by
  obtain ⟨h5, h6⟩ := me_vc hE hu
  obtain ⟨h26, hb2⟩ := hb
  have hB := hE.2.1
  refine w_m_opensScope hM ?_
  rw [h26]
  refine z_ixi hN (by decide) ?_
  rw [show (mj_u2 f 1733 N (sh x)) 1714 26 = nI N from (z_u2n (by decide)).trans h26]
  refine z_ixi hN (by decide) ?_
  rw [show (mj_u2 f 1733 N (sh x)) 1714 30 = nI vc from (z_u2n (by decide)).trans hu.2.1, show (mj_u2 (mj_u2 f 1733 N (sh x)) 1734 N (nI vc)) 1714 26 = nI N from (z_u2n (by decide)).trans ((z_u2n (by decide)).trans h26), show (mj_u2 (mj_u2 (mj_u2 f 1733 N (sh x)) 1734 N (nI vc)) 1714 27 (nI N)) 1714 26 = nI N from (z_u2m (by decide)).trans ((z_u2n (by decide)).trans ((z_u2n (by decide)).trans h26)), z_add]
  have F : mw no_R (fun j => j = 26 ∨ j = 27) R_o f (mj_u2 (mj_u2 (mj_u2 (mj_u2 f 1733 N (sh x)) 1734 N (nI vc)) 1714 27 (nI N)) 1714 26 (nI (N + 1))) := mw_t (mw_R (by decide) (Or.inl rfl)) (mw_t (mw_R (by decide) (Or.inr rfl)) (mw_t (mw_S (Or.inr rfl)) (mw_S (Or.inl rfl))))
  have q33 : ∀ i, (mj_u2 (mj_u2 (mj_u2 (mj_u2 f 1733 N (sh x)) 1734 N (nI vc)) 1714 27 (nI N)) 1714 26 (nI (N + 1))) 1733 i = if i = N then sh x else f 1733 i := fun i => by
    refine (z_u2n (by decide)).trans ((z_u2n (by decide)).trans ((z_u2n (by decide)).trans ?_))
    by_cases q : i = N
    · rw [if_pos q, q, z_u2s]
    · rw [if_neg q, z_u2m q]
  have q34 : ∀ i, (mj_u2 (mj_u2 (mj_u2 (mj_u2 f 1733 N (sh x)) 1734 N (nI vc)) 1714 27 (nI N)) 1714 26 (nI (N + 1))) 1734 i = if i = N then nI vc else f 1734 i := fun i => by
    refine (z_u2n (by decide)).trans ((z_u2n (by decide)).trans ?_)
    by_cases q : i = N
    · rw [if_pos q, q, z_u2s]
    · rw [if_neg q, z_u2m q]
      exact z_u2n (by decide)
  have q26 : (mj_u2 (mj_u2 (mj_u2 (mj_u2 f 1733 N (sh x)) 1734 N (nI vc)) 1714 27 (nI N)) 1714 26 (nI (N + 1))) 1714 26 = nI (N + 1) := z_u2s
  have q27 : (mj_u2 (mj_u2 (mj_u2 (mj_u2 f 1733 N (sh x)) 1734 N (nI vc)) 1714 27 (nI N)) 1714 26 (nI (N + 1))) 1714 27 = nI N := (z_u2m (by decide)).trans z_u2s
  generalize mj_u2 (mj_u2 (mj_u2 (mj_u2 f 1733 N (sh x)) 1734 N (nI vc)) 1714 27 (nI N)) 1714 26 (nI (N + 1)) = f1 at F q33 q34 q26 q27 ⊢
  have e35 : ∀ k, f1 1735 k = f 1735 k := fun k => F.1 1735 k (by decide) (by decide) (by unfold R_o; decide)
  have e36 : ∀ k, f1 1736 k = f 1736 k := fun k => F.1 1736 k (by decide) (by decide) (by unfold R_o; decide)
  have e30 : f1 1714 30 = nI vc := (F.2.1 30 (by decide)).trans hu.2.1
  refine hK f1 F ⟨by omega, fun s hs => ?_, vc, hu.1, e30, fun k hk => ?_, fun s l v q => ?_⟩ (mu_f hu F (by decide) (fun a q => by unfold R_o at q; omega)) ⟨q26, fun s hs => ?_⟩ q27
  · rw [q33]
    unfold e_bh
    by_cases q : s = N
    · rw [if_pos q, if_pos q]
    · rw [if_neg q, if_neg q]
      exact hB s (by omega)
  · obtain ⟨s, l, v, a1, a2, a3, a4, a5, a6, a7⟩ := h5 k hk
    exact ⟨s, l, v, by omega, a2, (e35 k).trans a3, (e36 k).trans a4, a5, mq_st a6 F (fun q => q) a7.1, a7⟩
  · obtain ⟨a1, a2, a3, k, a4, a5, a6⟩ := h6 s l v q
    exact ⟨by omega, a2, a3, k, a4, (e35 k).trans a5, (e36 k).trans a6⟩
  · rw [q34]
    unfold e_bh
    by_cases q : s = N
    · rw [if_pos q, if_pos q]
      refine ⟨rfl, Nat.le_refl _, fun k hk r hr g => ?_⟩
      obtain ⟨s', l, v, a1, a2, a3, -⟩ := h5 k hk
      rw [e35, a3, z_eq (by omega) (by omega)] at g
      exact ⟨fun r1 => by omega, fun r1 => by omega⟩
    · rw [if_neg q, if_neg q]
      obtain ⟨c1, c2, c3⟩ := hb2 s (by omega)
      refine ⟨c1, c2, fun k hk r hr g => ?_⟩
      obtain ⟨s', l, v, a1, a2, a3, -⟩ := h5 k hk
      have g' := g
      rw [e35, a3, z_eq (by omega) (by omega)] at g'
      exact c3 k hk r (by omega) ((e35 k).symm.trans g)
theorem p_closesScope {K : mm_F → Prop} (hM : mm_S Gm) (hE : me f D (N + 1) B V) (hu : mu f vc) (hb : mb f (N + 1) bg vc)
    (hK : ∀ f', mw no_R (fun j => j = 26 ∨ j = 27 ∨ j = 30) no_R f f' → me f' D N B (e_rm V N) → mu f' (bg N) → mb f' N bg (bg N) → f' 1714 27 = y → K f') : m_closesScope Gm d y f K := by
  obtain ⟨h5, h6⟩ := me_vc hE hu
  obtain ⟨h26, hb2⟩ := hb
  obtain ⟨hN4, hB, -⟩ := hE
  obtain ⟨b1, b2, b3⟩ := hb2 N (Nat.lt_succ_self N)
  refine w_m_closesScope hM ?_
  rw [h26, z_sub (by omega), Nat.add_sub_cancel, show (mj_u2 f 1714 26 (nI N)) 1714 26 = nI N from z_u2s]
  refine z_ixi (by omega) (by decide) ?_
  rw [show (mj_u2 f 1714 26 (nI N)) 1734 N = nI (bg N) from (z_u2n (by decide)).trans b1]
  have F : mw no_R (fun j => j = 26 ∨ j = 27 ∨ j = 30) no_R f (mj_u2 (mj_u2 (mj_u2 f 1714 26 (nI N)) 1714 30 (nI (bg N))) 1714 27 y) := mw_t (mw_S (Or.inl rfl)) (mw_t (mw_S (Or.inr (Or.inr rfl))) (mw_S (Or.inr (Or.inl rfl))))
  have q26 : (mj_u2 (mj_u2 (mj_u2 f 1714 26 (nI N)) 1714 30 (nI (bg N))) 1714 27 y) 1714 26 = nI N := (z_u2m (by decide)).trans ((z_u2m (by decide)).trans z_u2s)
  have q30 : (mj_u2 (mj_u2 (mj_u2 f 1714 26 (nI N)) 1714 30 (nI (bg N))) 1714 27 y) 1714 30 = nI (bg N) := (z_u2m (by decide)).trans z_u2s
  have q27 : (mj_u2 (mj_u2 (mj_u2 f 1714 26 (nI N)) 1714 30 (nI (bg N))) 1714 27 y) 1714 27 = y := z_u2s
  generalize mj_u2 (mj_u2 (mj_u2 f 1714 26 (nI N)) 1714 30 (nI (bg N))) 1714 27 y = f1 at F q26 q30 q27 ⊢
  have er : ∀ a k, a ≠ 1714 → ¬ (1728 ≤ a ∧ a ≤ 1732) → f1 a k = f a k := fun a k h1 h2 => F.1 a k h1 h2 (fun q => q)
  have hv := hu.1
  refine hK f1 F ⟨by omega, fun s hs => (er _ s (by decide) (by decide)).trans (hB s (by omega)), bg N, by omega, q30, fun k hk => ?_, fun s l v q => ?_⟩ ⟨by omega, q30, fun k j hk hj e1 e2 => hu.2.2 k j (by omega) (by omega) (by rw [← er 1735 k (by decide) (by decide), ← er 1735 j (by decide) (by decide)]; exact e1) (by rw [← er 1736 k (by decide) (by decide), ← er 1736 j (by decide) (by decide)]; exact e2)⟩ ⟨q26, fun s hs => ?_⟩ q27
  · obtain ⟨s, l, v, a1, a2, a3, a4, a5, a6, a7⟩ := h5 k (by omega)
    have hs : s < N := by
      have := b3 k (by omega) s a1 a3
      omega
    exact ⟨s, l, v, hs, a2, (er _ k (by decide) (by decide)).trans a3, (er _ k (by decide) (by decide)).trans a4, (if_pos hs).trans a5, mq_st a6 F (fun q => q) a7.1, a7⟩
  · unfold e_rm at q
    by_cases hs : s < N
    · rw [if_pos hs] at q
      obtain ⟨a1, a2, a3, k, a4, a5, a6⟩ := h6 s l v q
      have := b3 k a4 s a1 a5
      exact ⟨hs, a2, a3, k, by omega, (er _ k (by decide) (by decide)).trans a5, (er _ k (by decide) (by decide)).trans a6⟩
    · rw [if_neg hs] at q
      exact absurd q (by simp)
  · obtain ⟨c1, c2, c3⟩ := hb2 s (by omega)
    refine ⟨(er _ s (by decide) (by decide)).trans c1, ?_, fun k hk r hr g => c3 k (by omega) r (by omega) ((er _ k (by decide) (by decide)).symm.trans g)⟩
    -- the bases grow
    by_cases q : bg s ≤ bg N
    · exact q
    · exfalso
      have hk : bg N < vc := by omega
      obtain ⟨s', l, v, a1, a2, a3, -⟩ := h5 (bg N) hk
      have r1 := b3 (bg N) hk s' a1 a3
      have r2 := c3 (bg N) hk s' (by omega) a3
      omega
/-- one more is open, or too many are -/
theorem p_opens {K : Bool → mm_F → Prop} (hM : mm_S Gm) (h70 : f 1714 70 = nI 0) (h43 : f 1714 43 = nI op) (hop : op ≤ 12) (h1 : op < 12 → ∀ f', mw no_R (fun j => j = 43 ∨ j = 70) no_R f f' → f' 1714 43 = nI (op + 1) → f' 1714 70 = nI 0 → K true f') (h2 : op = 12 → ∀ f', mw no_R (fun j => j = 43 ∨ j = 70) no_R f f' → f' 1714 43 = nI op → f' 1714 70 = Int32.ofInt (-8) → K false f') : m_opens Gm d f K := by
  have n8 : ¬ Int32.ofInt (-8) = nI 0 := by decide
  refine w_m_opens hM (z_bt h70 ?_)
  rw [h43, z_eq (by omega) (by decide)]
  refine z_br (fun q => ?_) (fun q => ?_)
  · have e70 : (mj_u2 f 1714 70 (Int32.ofInt (-8))) 1714 70 = Int32.ofInt (-8) := z_u2s
    have e43 : (mj_u2 f 1714 70 (Int32.ofInt (-8))) 1714 43 = nI op := (z_u2m (by decide)).trans h43
    have e0 : nI op + nI 0 = nI op := by rw [z_add, Nat.add_zero]
    rw [e70, e43, e0]
    refine z_bf n8 ?_
    have f70 : (mj_u2 (mj_u2 f 1714 70 (Int32.ofInt (-8))) 1714 43 (nI op)) 1714 70 = Int32.ofInt (-8) := (z_u2m (by decide)).trans e70
    rw [f70]
    exact z_bf n8 (h2 q _ (mw_t (mw_S (Or.inr rfl)) (mw_S (Or.inl rfl))) z_u2s f70)
  · have e1 : nI op + nI 1 = nI (op + 1) := z_add op 1
    rw [e1]
    have f70 : (mj_u2 f 1714 43 (nI (op + 1))) 1714 70 = nI 0 := (z_u2m (by decide)).trans h70
    exact z_bt h70 (z_bt f70 (h1 (by omega) _ (mw_S (Or.inl rfl)) z_u2s f70))
end SO
