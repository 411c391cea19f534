/-! RENDERING: items in the model's snapshots -/
/-- an item as the model has it in its rows -/
def iv (f : mm_F) (it : Nat) (v : rv) : Prop := rv_ok v ∧ f 1724 it = nI (rv_t v) ∧ (rv_t v = 1 ∨ (rv_t v = 2 ∧ rv_l v ≤ 40)) ∧ (rv_t v = 1 → f 1725 it = rv_n v) ∧ (rv_t v = 2 → f 1726 it = nI (rv_l v) ∧ ∀ j, j < rv_l v → f 1727 (40 * it + j) = nI (rv_c v j))
theorem iv_f {P S R : Nat → Prop} {f f' : mm_F} {it : Nat} {v : rv} (h : iv f it v) (hF : mw P S R f f') (hR : ∀ a, R a → ¬ (1724 ≤ a ∧ a ≤ 1727)) : iv f' it v := by
  obtain ⟨h0, h1, h2, h3, h4⟩ := h
  have e : ∀ a i, 1724 ≤ a → a ≤ 1727 → f' a i = f a i := fun a i p q => hF.1 a i (by omega) (by omega) (fun r => hR a r ⟨p, q⟩)
  exact ⟨h0, (e _ _ (by decide) (by decide)).trans h1, h2, fun q => (e _ _ (by decide) (by decide)).trans (h3 q), fun q => ⟨(e _ _ (by decide) (by decide)).trans (h4 q).1, fun j hj => (e _ _ (by decide) (by decide)).trans ((h4 q).2 j hj)⟩⟩
/-- an item as it is stored -/
def si (f : mm_F) (fm : Nat) (v : rv) : Prop := (rv_t v = 1 → f 1756 fm = Int32.ofInt (-1) ∧ f 1756 (fm + 1) = rv_n v) ∧ (rv_t v = 2 → f 1756 fm = nI (rv_l v) ∧ pz f (fm + 2) (rv_l v) (rv_c v))
theorem si_f {f f' : mm_F} {fm : Nat} {v : rv} (h : si f fm v) (hv : rv_l v ≤ 40) (e : ∀ i, fm ≤ i → i < fm + 12 → f' 1756 i = f 1756 i) : si f' fm v := by
  refine ⟨fun q => ⟨(e _ (by omega) (by omega)).trans (h.1 q).1, (e _ (by omega) (by omega)).trans (h.1 q).2⟩, fun q => ⟨(e _ (by omega) (by omega)).trans (h.2 q).1, fun j hj => (e _ (by omega) (by omega)).trans ((h.2 q).2 j hj)⟩⟩
section SI
variable {Gm : mj_G} {f : mm_F} {d fm it : Nat} {v v0 : rv}
theorem p_sit42 {K : mm_F → Prop} (hM : mm_S Gm) (hit : it < 208) (hf : fm + 12 ≤ 50960) (tv : rv_t v = 2) (hK : ∀ f', mw no_R no_R R_z f f' → (∀ i, ¬ (fm + 2 ≤ i ∧ i < fm + 12) → f' 1756 i = f 1756 i) → pz f' (fm + 2) (rv_l v) (rv_c v) → K f') :
    ∀ {m j : Nat} {f1 : mm_F}, j + m = rv_l v → iv f1 it v → mw no_R no_R R_z f f1 → (∀ i, ¬ (fm + 2 ≤ i ∧ i < fm + 12) → f1 1756 i = f 1756 i) → pz f1 (fm + 2) j (rv_c v) → m_storesItem_42 Gm (d + 1) (nI fm) (nI it) (nI j) f1 K
  | 0, j, f1, hj, hv, F, e, z => by
    obtain ⟨h0, h1, h2, h3, h4⟩ := hv
    obtain ⟨g1, g2⟩ := h4 tv
    have l40 : rv_l v ≤ 40 := by omega
    refine w_m_storesItem_42 hM (z_ixi hit (by decide) ?_)
    rw [g1, z_le (by omega) (by omega)]
    refine z_bt (by omega) (hK f1 F e ?_)
    rw [show rv_l v = j by omega]
    exact z
  | m + 1, j, f1, hj, hv, F, e, z => by
    have hv' := hv
    obtain ⟨h0, h1, h2, h3, h4⟩ := hv
    obtain ⟨g1, g2⟩ := h4 tv
    have l40 : rv_l v ≤ 40 := by omega
    have hb := (h0.2.2.2.1 tv).2
    refine w_m_storesItem_42 hM (z_ixi hit (by decide) ?_)
    rw [g1, z_le (by omega) (by omega)]
    refine z_bf (by omega) (z_ixi hit (by decide) ?_)
    rw [h1, z_eq (by omega) (by decide), z_mul, z_add, z_add, z_add]
    refine z_bf (by omega) (z_ixi (by omega) (by decide) ?_)
    rw [g2 j (by omega)]
    refine p_packs (ch := rv_c v) hM z (fun i hi => (hb i (by omega)).2) (by omega) (by omega) (fun f2 F2 z2 e2 => ?_)
    refine p_sit42 hM hit hf tv hK (m := m) (j := j + 1) (by omega) (iv_f hv' F2 (fun a q => by unfold R_z at q; omega)) (mw_t F F2) (fun i hi => (e2 i (by omega)).trans (e i hi)) z2
theorem p_storesItem {K : mm_F → Prop} (hM : mm_S Gm) (hit : it < 208) (hf : fm + 12 ≤ 50960) (hv : iv f it v) (hK : ∀ f', mw no_R no_R R_z f f' → (∀ i, ¬ (fm ≤ i ∧ i < fm + 12) → f' 1756 i = f 1756 i) → si f' fm v → K f') : m_storesItem Gm (d + 1) (nI fm) (nI it) f K := by
  have hv' := hv
  obtain ⟨h0, h1, h2, h3, h4⟩ := hv
  refine w_m_storesItem hM (z_ixi hit (by decide) ?_)
  rw [h1, z_eq (by omega) (by decide), z_add]
  refine z_br (fun q => z_ixi (by omega) (by decide) (z_ixi hit (by decide) (z_ixi (by omega) (by decide) ?_))) (fun q => z_ixi hit (by decide) (z_ixi (by omega) (by decide) (z_ixi hit (by decide) (z_ixi (by omega) (by decide) ?_))))
  · rw [show (mj_u2 f 1756 fm (Int32.ofInt (-1))) 1725 it = rv_n v from (z_u2n (by decide)).trans (h3 q)]
    have F1 : mw no_R no_R R_z f (mj_u2 (mj_u2 f 1756 fm (Int32.ofInt (-1))) 1756 (fm + 1) (rv_n v)) := mw_t (mw_R (by decide) rfl) (mw_R (by decide) rfl)
    have fin : K (mj_u2 (mj_u2 f 1756 fm (Int32.ofInt (-1))) 1756 (fm + 1) (rv_n v)) := hK _ F1 (fun i hi => (z_u2m (by omega)).trans (z_u2m (by omega))) ⟨fun _ => ⟨(z_u2m (by omega)).trans z_u2s, z_u2s⟩, fun r => absurd r (by omega)⟩
    refine w_m_storesItem_42 hM (z_ixi hit (by decide) (z_br (fun _ => fin) (fun _ => z_ixi hit (by decide) ?_)))
    rw [show (mj_u2 (mj_u2 f 1756 fm (Int32.ofInt (-1))) 1756 (fm + 1) (rv_n v)) 1724 it = nI (rv_t v) from (z_u2n (by decide)).trans ((z_u2n (by decide)).trans h1), z_eq (by omega) (by decide)]
    exact z_bt q fin
  · have t2 : rv_t v = 2 := by omega
    obtain ⟨g1, g2⟩ := h4 t2
    rw [g1]
    have F1 : ∀ y, mw no_R no_R R_z f (mj_u2 (mj_u2 f 1756 fm (nI (rv_l v))) 1756 (fm + 1) y) := fun y => mw_t (mw_R (by decide) rfl) (mw_R (by decide) rfl)
    refine p_sit42 (f := mj_u2 (mj_u2 f 1756 fm (nI (rv_l v))) 1756 (fm + 1) ((mj_u2 f 1756 fm (nI (rv_l v))) 1725 it)) (v := v) hM hit hf t2 (fun f2 F2 e2 z2 => hK f2 (mw_t (F1 _) F2) (fun i hi => (e2 i (by omega)).trans ((z_u2m (by omega)).trans (z_u2m (by omega)))) ⟨fun r => absurd r q, fun _ => ⟨(e2 fm (by omega)).trans ((z_u2m (by omega)).trans z_u2s), z2⟩⟩) (m := rv_l v) (j := 0) (by omega) (iv_f hv' (F1 _) (fun a r => by unfold R_z at r; omega)) mw_r (fun _ _ => rfl) (fun j hj => absurd hj (Nat.not_lt_zero _))
end SI
