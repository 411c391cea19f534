/-! RENDERING: whole values in the model's snapshots -/
def hd8 (v : rv) : Nat := rv_t v + (if rv_s v = true then 4 else 0) + 8 * rv_l v
def sn (f : mm_F) (I : Nat → Nat → rv) (fm : Nat) (v : rv) : Prop := f 1756 fm = nI (hd8 v) ∧ (rv_t v = 1 → f 1756 (fm + 1) = rv_n v) ∧ (rv_t v = 2 → pz f (fm + 2) (rv_l v) (rv_c v)) ∧ (rv_t v = 3 → ∀ k, k < rv_l v → si f (fm + 2 + 12 * k) (I (rv_d v) k))
section SN
variable {Gm : mj_G} {f : mm_F} {d fm k : Nat} {I : Nat → Nat → rv} {v : rv}
theorem p_st53t {K : mm_F → Prop} (hM : mm_S Gm) (hk : k < 380) (hf : fm + 98 ≤ 50960) (ov : rv_ok v) (tv : rv_t v = 2) (hK : ∀ f', mw no_R no_R R_z f f' → (∀ i, ¬ (fm + 2 ≤ i ∧ i < fm + 98) → f' 1756 i = f 1756 i) → pz f' (fm + 2) (rv_l v) (rv_c v) → K f') :
    ∀ {m j : Nat} {f1 : mm_F}, j + m = rv_l v → mv f1 k v → mw no_R no_R R_z f f1 → (∀ i, ¬ (fm + 2 ≤ i ∧ i < fm + 98) → f1 1756 i = f 1756 i) → pz f1 (fm + 2) j (rv_c v) → m_stores_53 Gm (d + 1) (nI fm) (nI k) (nI j) f1 K
  | 0, j, f1, hj, hv, F, e, z => by
    have hl := (ov.2.2.2.1 tv).1
    refine w_m_stores_53 hM (z_ixi hk (by decide) ?_)
    rw [hv.2.1, z_le (by omega) (by omega)]
    refine z_bt (by omega) (hK f1 F e ?_)
    rw [show rv_l v = j by omega]
    exact z
  | m + 1, j, f1, hj, hv, F, e, z => by
    obtain ⟨hl, hb⟩ := ov.2.2.2.1 tv
    refine w_m_stores_53 hM (z_ixi hk (by decide) ?_)
    rw [hv.2.1, z_le (by omega) (by omega)]
    refine z_bf (by omega) (z_ixi hk (by decide) ?_)
    rw [hv.1, z_eq (by omega) (by decide)]
    refine z_bf (by omega) ?_
    rw [z_mul, z_add, z_add, z_add]
    refine z_ixi (by omega) (by decide) ?_
    rw [hv.2.2.2.2.2 tv j (by omega)]
    refine p_packs (ch := rv_c v) hM z (fun i hi => (hb i (by omega)).2) (by omega) (by omega) (fun f2 F2 z2 e2 => ?_)
    exact p_st53t hM hk hf ov tv hK (m := m) (j := j + 1) (by omega) (mq_st hv F2 (fun q => q) ov) (mw_t F F2) (fun i hi => (e2 i (by omega)).trans (e i hi)) z2
theorem p_st53l {K : mm_F → Prop} (hM : mm_S Gm) (hk : k < 380) (hf : fm + 98 ≤ 50960) (ov : rv_ok v) (tv : rv_t v = 3) (hit : ∀ j, j < rv_l v → iv f (8 * rv_d v + j) (I (rv_d v) j)) (hK : ∀ f', mw no_R no_R R_z f f' → (∀ i, ¬ (fm + 2 ≤ i ∧ i < fm + 98) → f' 1756 i = f 1756 i) → (∀ j, j < rv_l v → si f' (fm + 2 + 12 * j) (I (rv_d v) j)) → K f') :
    ∀ {m j : Nat} {f1 : mm_F}, j + m = rv_l v → mv f1 k v → mw no_R no_R R_z f f1 → (∀ i, ¬ (fm + 2 ≤ i ∧ i < fm + 98) → f1 1756 i = f 1756 i) → (∀ i, i < j → si f1 (fm + 2 + 12 * i) (I (rv_d v) i)) → m_stores_53 Gm (d + 2) (nI fm) (nI k) (nI j) f1 K
  | 0, j, f1, hj, hv, F, e, z => by
    have hl := (ov.2.2.2.2 tv).1
    refine w_m_stores_53 hM (z_ixi hk (by decide) ?_)
    rw [hv.2.1, z_le (by omega) (by omega)]
    exact z_bt (by omega) (hK f1 F e (fun i hi => z i (by omega)))
  | m + 1, j, f1, hj, hv, F, e, z => by
    obtain ⟨hl, hdl⟩ := ov.2.2.2.2 tv
    refine w_m_stores_53 hM (z_ixi hk (by decide) ?_)
    rw [hv.2.1, z_le (by omega) (by omega)]
    refine z_bf (by omega) (z_ixi hk (by decide) ?_)
    rw [hv.1, z_eq (by omega) (by decide)]
    refine z_bt tv (z_ixi hk (by decide) ?_)
    rw [hv.2.2.2.2.1 tv, z_mul, z_add, z_add, z_mul, z_add, z_add]
    have iv1 := iv_f (hit j (by omega)) F (fun a q => by unfold R_z at q; omega)
    refine p_storesItem hM (by omega) (by omega) iv1 (fun f2 F2 e2 s2 => ?_)
    refine p_st53l hM hk hf ov tv hit hK (m := m) (j := j + 1) (by omega) (mq_st hv F2 (fun q => q) ov) (mw_t F F2) (fun i hi => (e2 i (by omega)).trans (e i hi)) (fun i hi => ?_)
    by_cases q : i = j
    · rw [q]; exact s2
    · have l40 : rv_l (I (rv_d v) i) ≤ 40 := by
        obtain ⟨o1, -, o3, -⟩ := hit i (by omega)
        rcases o3 with o3 | o3
        · rw [o1.2.1 (by omega)]; decide
        · exact o3.2
      exact si_f (z i (by omega)) l40 (fun i2 h1 h2 => e2 i2 (by omega))
theorem p_stores {K : mm_F → Prop} (hM : mm_S Gm) (hk : k < 380) (hf : fm + 98 ≤ 50960) (ov : rv_ok v) (hv : mv f k v) (hit : rv_t v = 3 → ∀ j, j < rv_l v → iv f (8 * rv_d v + j) (I (rv_d v) j)) (hK : ∀ f', mw no_R no_R R_z f f' → (∀ i, ¬ (fm ≤ i ∧ i < fm + 98) → f' 1756 i = f 1756 i) → sn f' I fm v → K f') : m_stores Gm (d + 2) (nI fm) (nI k) f K := by
  have tv := ov.1
  have lb := rv_lb ov
  -- behind the header
  have beh : ∀ h y, h = hd8 v → (rv_t v = 1 → y = rv_n v) → m_stores_53 Gm (d + 2) (nI fm) (nI k) (nI 0) (mj_u2 (mj_u2 f 1756 fm (nI h)) 1756 (fm + 1) y) K := fun h y hh hy => by
    have F1 : mw no_R no_R R_z f (mj_u2 (mj_u2 f 1756 fm (nI h)) 1756 (fm + 1) y) := mw_t (mw_R (by decide) rfl) (mw_R (by decide) rfl)
    have a0 : (mj_u2 (mj_u2 f 1756 fm (nI h)) 1756 (fm + 1) y) 1756 fm = nI (hd8 v) := (z_u2m (by omega)).trans (by rw [z_u2s, hh])
    have a1 : (mj_u2 (mj_u2 f 1756 fm (nI h)) 1756 (fm + 1) y) 1756 (fm + 1) = y := z_u2s
    have eo : ∀ i, ¬ (fm ≤ i ∧ i < fm + 98) → (mj_u2 (mj_u2 f 1756 fm (nI h)) 1756 (fm + 1) y) 1756 i = f 1756 i := fun i hi => (z_u2m (by omega)).trans (z_u2m (by omega))
    have w1 : mv (mj_u2 (mj_u2 f 1756 fm (nI h)) 1756 (fm + 1) y) k v := mq_st hv F1 (fun q => q) ov
    generalize mj_u2 (mj_u2 f 1756 fm (nI h)) 1756 (fm + 1) y = f1 at F1 a0 a1 eo w1 ⊢
    by_cases t2 : rv_t v = 2
    · exact p_st53t (f := f1) hM hk hf ov t2 (fun f2 F2 e2 z2 => hK f2 (mw_t F1 F2) (fun i hi => (e2 i (by omega)).trans (eo i hi)) ⟨(e2 fm (by omega)).trans a0, fun q => absurd q (by omega), fun _ => z2, fun q => absurd q (by omega)⟩) (m := rv_l v) (j := 0) (by omega) w1 mw_r (fun _ _ => rfl) (fun j hj => absurd hj (Nat.not_lt_zero _))
    · by_cases t3 : rv_t v = 3
      · exact p_st53l (f := f1) (I := I) hM hk hf ov t3 (fun j hj => iv_f (hit t3 j hj) F1 (fun a q => by unfold R_z at q; omega)) (fun f2 F2 e2 z2 => hK f2 (mw_t F1 F2) (fun i hi => (e2 i (by omega)).trans (eo i hi)) ⟨(e2 fm (by omega)).trans a0, fun q => absurd q (by omega), fun q => absurd q (by omega), fun _ => z2⟩) (m := rv_l v) (j := 0) (by omega) w1 mw_r (fun _ _ => rfl) (fun j hj => absurd hj (Nat.not_lt_zero _))
      · have l0 := ov.2.1 (by omega)
        refine w_m_stores_53 hM (z_ixi hk (by decide) ?_)
        rw [w1.2.1, l0, z_le (by decide) (by decide)]
        exact z_bt (Nat.le_refl _) (hK f1 F1 eo ⟨a0, fun q => a1.trans (hy q), fun q => absurd q t2, fun q => absurd q t3⟩)
  refine w_m_stores hM (z_ixi hk (by decide) (z_ixi hk (by decide) ?_))
  rw [hv.2.2.1, hv.1]
  cases hs : rv_s v with
  | false =>
    refine z_bt rfl (z_ixi hk (by decide) (z_ixi (by omega) (by decide) (z_ixi hk (by decide) ?_)))
    rw [hv.2.1, z_add, z_mul, z_add, z_add]
    refine z_ixi (by omega) (by decide) (beh _ _ (by unfold hd8; rw [if_neg (by rw [hs]; decide)]) (fun q => (z_u2n (by decide)).trans (hv.2.2.2.1 q)))
  | true =>
    refine z_bf (by decide) (z_ixi hk (by decide) (z_ixi (by omega) (by decide) (z_ixi hk (by decide) ?_)))
    rw [hv.2.1, z_add, z_mul, z_add, z_add]
    refine z_ixi (by omega) (by decide) (beh _ _ (by unfold hd8; rw [if_pos hs]) (fun q => (z_u2n (by decide)).trans (hv.2.2.2.1 q)))
end SN
