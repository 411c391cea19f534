/-! RENDERING: a variable is set, by the model; scopes opened and closed -/
def e_st (V : Nat → Nat → Option rv) (s l : Nat) (v : rv) : Nat → Nat → Option rv := fun a b => if a = s ∧ b = l then some v else V a b
theorem e_st_s {V : Nat → Nat → Option rv} {s l : Nat} {v : rv} : e_st V s l v s l = some v := if_pos ⟨rfl, rfl⟩
theorem e_st_n {V : Nat → Nat → Option rv} {s l a b : Nat} {v : rv} (h : ¬ (a = s ∧ b = l)) : e_st V s l v a b = V a b := if_neg h
/-- how many variables the model has; each one is told once -/
def mu (f : mm_F) (vc : Nat) : Prop := vc ≤ 320 ∧ f 1714 30 = nI vc ∧ ∀ k j, k < vc → j < vc → f 1735 k = f 1735 j → f 1736 k = f 1736 j → k = j
def R_v (a : Nat) : Prop := a = 1735 ∨ a = 1736
section ST
variable {Gm : mj_G} {D : Nat → rv} {f f' : mm_F} {N d l k vc : Nat} {B : Nat → Nat} {V : Nat → Nat → Option rv} {v : rv}
theorem mu_f {P S R : Nat → Prop} (h : mu f vc) (hF : mw P S R f f') (hS : ¬ S 30) (hR : ∀ a, R a → a ≠ 1735 ∧ a ≠ 1736) : mu f' vc := by
  obtain ⟨h1, h2, h3⟩ := h
  have e : ∀ a i, a = 1735 ∨ a = 1736 → f' a i = f a i := fun a i q => hF.1 a i (by omega) (by omega) (fun r => by have := hR a r; omega)
  refine ⟨h1, (hF.2.1 30 hS).trans h2, fun k j a b c d => h3 k j a b ?_ ?_⟩
  · rw [← e _ k (Or.inl rfl), ← e _ j (Or.inl rfl)]; exact c
  · rw [← e _ k (Or.inr rfl), ← e _ j (Or.inr rfl)]; exact d
/-- the state with the number of variables told -/
theorem me_vc (hE : me f D N B V) (hu : mu f vc) : (∀ k, k < vc → ∃ s l v, s < N ∧ l < 26 ∧ f 1735 k = nI s ∧ f 1736 k = nI l ∧ V s l = some v ∧ mv f k v ∧ rv_in D v) ∧ ∀ s l v, V s l = some v → s < N ∧ l < 26 ∧ rv_in D v ∧ ∃ k, k < vc ∧ f 1735 k = nI s ∧ f 1736 k = nI l := by
  obtain ⟨hN, -, vc', hv, h30, h5, h6⟩ := hE
  have e := hu.2.1
  rw [h30, z_eq (by omega) (by have := hu.1; omega)] at e
  rw [← e]
  exact ⟨h5, h6⟩
theorem p_vin {s : Nat} {K : Int32 → mm_F → Prop} (hM : mm_S Gm) (hE : me f D N B V) (hu : mu f vc) (hs : s < N) (hl : l < 26) (h1 : V s l = none → K (Int32.ofInt (-1)) f) (h2 : ∀ k v, k < vc → f 1735 k = nI s → f 1736 k = nI l → V s l = some v → K (nI k) f) : m_variableIn Gm d (nI s) (nI l) f K := by
  obtain ⟨h5, h6⟩ := me_vc hE hu
  have hN := hE.1
  have hv := hu.1
  have go : ∀ j, j ≤ vc → (∀ k, j ≤ k → k < vc → ¬ (f 1735 k = nI s ∧ f 1736 k = nI l)) → m_variableIn_7 Gm d (nI s) (nI l) (sh j) f K := fun j => by
    induction j with
    | zero =>
      intro _ hno
      refine w_m_variableIn_7 hM (z_bt (by rw [sh_l (by decide)]) (h1 ?_))
      cases hV : V s l with
      | none => rfl
      | some v =>
        obtain ⟨-, -, -, k, g1, g2, g3⟩ := h6 s l v hV
        exact absurd ⟨g2, g3⟩ (hno k (Nat.zero_le _) g1)
    | succ j ih =>
      intro hj hno
      obtain ⟨s', l', v, g1, g2, g3, g4, g5, g6, g7⟩ := h5 j (by omega)
      refine w_m_variableIn_7 hM (z_bf (by rw [sh_l (by omega)]; omega) ?_)
      rw [sh_s]
      have nx : ¬ (f 1735 j = nI s ∧ f 1736 j = nI l) → m_variableIn_7 Gm d (nI s) (nI l) (nI j + Int32.ofInt (-1)) f K := fun q => by
        rw [sh_p]
        exact ih (by omega) (fun k a b => by
          by_cases e : k = j
          · rw [e]; exact q
          · exact hno k (by omega) b)
      refine z_ixi (by omega) (by decide) (z_br (fun q => z_ixi (by omega) (by decide) (z_br (fun q1 => ?_) (fun q1 => nx (fun r => q1 r.2)))) (fun q => nx (fun r => q r.1)))
      have q' := q
      have q1' := q1
      rw [g3, z_eq (by omega) (by omega)] at q'
      rw [g4, z_eq (by omega) (by omega)] at q1'
      rw [q', q1'] at g5
      exact h2 j v (by omega) q q1 g5
  refine w_m_variableIn hM ?_
  rw [hu.2.1, sh_m]
  exact go vc (Nat.le_refl _) (fun k a b => absurd b (by omega))
theorem p_sets {K : mm_F → Prop} (hM : mm_S Gm) (hE : me f D N B V) (hu : mu f vc) (hN : 1 ≤ N) (h27 : f 1714 27 = nI (N - 1)) (hl : l < 26) (hk : 320 ≤ k) (hk2 : k < 380) (hv : mv f k v) (hvin : rv_in D v) (hroom : vc < 320)
    (hK : ∀ f' vc', mw (fun j => j < 320) (fun j => j = 30) R_v f f' → me f' D N B (e_st V (N - 1) l v) → mu f' vc' → vc ≤ vc' → vc' ≤ vc + 1 → (∀ i, i < vc → f' 1735 i = f 1735 i) → (vc' = vc + 1 → f' 1735 vc = nI (N - 1)) → K f') : m_sets Gm (d + 1) (nI l) (nI k) f K := by
  obtain ⟨h5, h6⟩ := me_vc hE hu
  obtain ⟨hN4, hB, -⟩ := hE
  have hE' : me f D N B V := ⟨hN4, hB, vc, hu.1, hu.2.1, h5, h6⟩
  refine w_m_sets hM ?_
  rw [h27]
  refine p_vin hM hE' hu (by omega) hl (fun hV => z_bt rfl ?_) (fun j w g1 g2 g3 g4 => z_bf (fun q => ?_) ?_)
  · -- a new one
    rw [hu.2.1]
    refine z_ixi hroom (by decide) (z_ixi hroom (by decide) ?_)
    have e30 : (mj_u2 (mj_u2 f 1735 vc (f 1714 27)) 1736 vc (nI l)) 1714 30 = nI vc := (z_u2n (by decide)).trans ((z_u2n (by decide)).trans hu.2.1)
    rw [e30, z_add]
    have F1 : mw (fun j => j < 320) (fun j => j = 30) R_v f (mj_u2 (mj_u2 (mj_u2 f 1735 vc (f 1714 27)) 1736 vc (nI l)) 1714 30 (nI (vc + 1))) := mw_t (mw_R (by decide) (Or.inl rfl)) (mw_t (mw_R (by decide) (Or.inr rfl)) (mw_S rfl))
    have q35 : ∀ i, (mj_u2 (mj_u2 (mj_u2 f 1735 vc (f 1714 27)) 1736 vc (nI l)) 1714 30 (nI (vc + 1))) 1735 i = if i = vc then nI (N - 1) else f 1735 i := fun i => by
      refine (z_u2n (by decide)).trans ((z_u2n (by decide)).trans ?_)
      by_cases q : i = vc
      · rw [if_pos q, q, z_u2s]; exact h27
      · rw [if_neg q, z_u2m q]
    have q36 : ∀ i, (mj_u2 (mj_u2 (mj_u2 f 1735 vc (f 1714 27)) 1736 vc (nI l)) 1714 30 (nI (vc + 1))) 1736 i = if i = vc then nI l else f 1736 i := fun i => by
      refine (z_u2n (by decide)).trans ?_
      by_cases q : i = vc
      · rw [if_pos q, q, z_u2s]
      · rw [if_neg q, z_u2m q]
        exact z_u2n (by decide)
    have q30 : (mj_u2 (mj_u2 (mj_u2 f 1735 vc (f 1714 27)) 1736 vc (nI l)) 1714 30 (nI (vc + 1))) 1714 30 = nI (vc + 1) := z_u2s
    have vk : ∀ i w, mv f i w → mv (mj_u2 (mj_u2 (mj_u2 f 1735 vc (f 1714 27)) 1736 vc (nI l)) 1714 30 (nI (vc + 1))) i w := fun i w h => ⟨(z_u2n (by decide)).trans ((z_u2n (by decide)).trans ((z_u2n (by decide)).trans h.1)), (z_u2n (by decide)).trans ((z_u2n (by decide)).trans ((z_u2n (by decide)).trans h.2.1)), (z_u2n (by decide)).trans ((z_u2n (by decide)).trans ((z_u2n (by decide)).trans h.2.2.1)), fun q => (z_u2n (by decide)).trans ((z_u2n (by decide)).trans ((z_u2n (by decide)).trans (h.2.2.2.1 q))), fun q => (z_u2n (by decide)).trans ((z_u2n (by decide)).trans ((z_u2n (by decide)).trans (h.2.2.2.2.1 q))), fun q j hj => (z_u2n (by decide)).trans ((z_u2n (by decide)).trans ((z_u2n (by decide)).trans (h.2.2.2.2.2 q j hj)))⟩
    have q33 : ∀ s, (mj_u2 (mj_u2 (mj_u2 f 1735 vc (f 1714 27)) 1736 vc (nI l)) 1714 30 (nI (vc + 1))) 1733 s = f 1733 s := fun s => (z_u2n (by decide)).trans ((z_u2n (by decide)).trans (z_u2n (by decide)))
    generalize mj_u2 (mj_u2 (mj_u2 f 1735 vc (f 1714 27)) 1736 vc (nI l)) 1714 30 (nI (vc + 1)) = f1 at F1 q35 q36 q30 vk q33 ⊢
    refine p_moves hM hk2 (by omega) (by omega) (vk k v hv) hvin.1 (fun f2 F2 w2 => ?_)
    have r35 : ∀ i, f2 1735 i = if i = vc then nI (N - 1) else f 1735 i := fun i => (F2.1 1735 i (by decide) (by decide) (fun q => q)).trans (q35 i)
    have r36 : ∀ i, f2 1736 i = if i = vc then nI l else f 1736 i := fun i => (F2.1 1736 i (by decide) (by decide) (fun q => q)).trans (q36 i)
    have r30 : f2 1714 30 = nI (vc + 1) := (F2.2.1 30 (fun q => q)).trans q30
    refine hK f2 (vc + 1) (mw_t F1 (mw_m F2 (fun j q => by have q' : j = vc := q; show j < 320; omega) (fun _ q => q.elim) (fun _ q => q.elim))) ⟨hN4, fun s hs => (F2.1 1733 s (by decide) (by decide) (fun q => q)).trans ((q33 s).trans (hB s hs)), vc + 1, by omega, r30, fun i hi => ?_, fun s l' w q => ?_⟩ ⟨by omega, r30, fun i j hi hj e1 e2 => ?_⟩ (Nat.le_succ _) (Nat.le_refl _) (fun i hi => by rw [r35, if_neg (by omega)]) (fun _ => by rw [r35, if_pos rfl])
    · by_cases q : i = vc
      · refine ⟨N - 1, l, v, by omega, hl, by rw [r35, if_pos q], by rw [r36, if_pos q], e_st_s, by rw [q]; exact w2, hvin⟩
      · obtain ⟨s, l', w, a1, a2, a3, a4, a5, a6, a7⟩ := h5 i (by omega)
        refine ⟨s, l', w, a1, a2, by rw [r35, if_neg q]; exact a3, by rw [r36, if_neg q]; exact a4, (e_st_n (fun r => ?_)).trans a5, mq_st (vk i w a6) F2 q a7.1, a7⟩
        rw [r.1, r.2, hV] at a5
        exact absurd a5 (by simp)
    · by_cases r : s = N - 1 ∧ l' = l
      · obtain ⟨rfl, rfl⟩ := r
        rw [e_st_s] at q
        have q' : v = w := Option.some.inj q
        rw [← q']
        exact ⟨by omega, hl, hvin, vc, Nat.lt_succ_self vc, by rw [r35, if_pos rfl], by rw [r36, if_pos rfl]⟩
      · rw [e_st_n r] at q
        obtain ⟨a1, a2, a3, i, a4, a5, a6⟩ := h6 s l' w q
        exact ⟨a1, a2, a3, i, by omega, by rw [r35, if_neg (by omega)]; exact a5, by rw [r36, if_neg (by omega)]; exact a6⟩
    · have no : ∀ i, i < vc → ¬ (f 1735 i = nI (N - 1) ∧ f 1736 i = nI l) := fun i hi q => by
        obtain ⟨s, l', w, a1, a2, a3, a4, a5, -⟩ := h5 i hi
        have b1 := q.1
        have b2 := q.2
        rw [a3, z_eq (by omega) (by omega)] at b1
        rw [a4, z_eq (by omega) (by omega)] at b2
        rw [b1, b2, hV] at a5
        exact absurd a5 (by simp)
      rw [r35, r35] at e1
      rw [r36, r36] at e2
      by_cases qi : i = vc
      · by_cases qj : j = vc
        · omega
        · rw [if_pos qi, if_neg qj] at e1 e2
          exact absurd ⟨e1.symm, e2.symm⟩ (no j (by omega))
      · by_cases qj : j = vc
        · rw [if_neg qi, if_pos qj] at e1 e2
          exact absurd ⟨e1, e2⟩ (no i (by omega))
        · rw [if_neg qi, if_neg qj] at e1 e2
          exact hu.2.2 i j (by omega) (by omega) e1 e2
  · rw [← sh_s, sh_n (by omega)] at q
    omega
  · -- one that stands
    refine p_moves hM hk2 (by omega) (by omega) hv hvin.1 (fun f2 F2 w2 => ?_)
    have r35 : ∀ i, f2 1735 i = f 1735 i := fun i => F2.1 1735 i (by decide) (by decide) (fun q => q)
    have r36 : ∀ i, f2 1736 i = f 1736 i := fun i => F2.1 1736 i (by decide) (by decide) (fun q => q)
    have r30 : f2 1714 30 = nI vc := (F2.2.1 30 (fun q => q)).trans hu.2.1
    refine hK f2 vc (mw_m F2 (fun i q => by have q' : i = j := q; show i < 320; omega) (fun _ q => q.elim) (fun _ q => q.elim)) ⟨hN4, fun s hs => (F2.1 1733 s (by decide) (by decide) (fun q => q)).trans (hB s hs), vc, hu.1, r30, fun i hi => ?_, fun s l' w' q => ?_⟩ ⟨hu.1, r30, fun i j hi hj e1 e2 => hu.2.2 i j hi hj (by rw [← r35, ← r35]; exact e1) (by rw [← r36, ← r36]; exact e2)⟩ (Nat.le_refl _) (Nat.le_succ _) (fun i _ => r35 i) (fun q => absurd q (by omega))
    · by_cases q : i = j
      · exact ⟨N - 1, l, v, by omega, hl, by rw [r35, q]; exact g2, by rw [r36, q]; exact g3, e_st_s, by rw [q]; exact w2, hvin⟩
      · obtain ⟨s, l', w', a1, a2, a3, a4, a5, a6, a7⟩ := h5 i hi
        refine ⟨s, l', w', a1, a2, by rw [r35]; exact a3, by rw [r36]; exact a4, (e_st_n (fun r => q ?_)).trans a5, mq_st a6 F2 q a7.1, a7⟩
        refine hu.2.2 i j hi g1 ?_ ?_
        · rw [a3, g2, r.1]
        · rw [a4, g3, r.2]
    · by_cases r : s = N - 1 ∧ l' = l
      · obtain ⟨rfl, rfl⟩ := r
        rw [e_st_s] at q
        have q' : v = w' := Option.some.inj q
        rw [← q']
        exact ⟨by omega, hl, hvin, j, g1, by rw [r35]; exact g2, by rw [r36]; exact g3⟩
      · rw [e_st_n r] at q
        obtain ⟨a1, a2, a3, i, a4, a5, a6⟩ := h6 s l' w' q
        exact ⟨a1, a2, a3, i, a4, by rw [r35]; exact a5, by rw [r36]; exact a6⟩
end ST
