/-! RENDERING: whether an item is as it was stored -/
section IS
variable {Gm : mj_G} {f : mm_F} {d fm it : Nat} {v v0 : rv}
theorem p_sis67 {K : Bool → mm_F → Prop} (hM : mm_S Gm) (hit : it < 208) (hf : fm + 12 ≤ 50960) (hv : iv f it v) (tv : rv_t v = 2) (ok0 : rv_ok v0) (t0 : rv_t v0 = 2) (hl : rv_l v0 = rv_l v) (hz : pz f (fm + 2) (rv_l v0) (rv_c v0)) (h1 : (∀ j, j < rv_l v → rv_c v0 j = rv_c v j) → K true f) (h2 : ¬ (∀ j, j < rv_l v → rv_c v0 j = rv_c v j) → K false f) :
    ∀ {m j : Nat}, j + m = rv_l v → (∀ i, i < j → rv_c v0 i = rv_c v i) → m_isItemStored_67 Gm (d + 1) (nI fm) (nI it) (nI 1) (nI j) f K
  | 0, j, hj, he => by
    obtain ⟨o0, g1, g2, g3, g4⟩ := hv
    obtain ⟨c1, c2⟩ := g4 tv
    have l40 : rv_l v ≤ 40 := by omega
    refine w_m_isItemStored_67 hM (z_ixi hit (by decide) ?_)
    rw [c1, z_le (by omega) (by omega)]
    exact z_bt (by omega) (z_ex (b := true) (h1 (fun i hi => he i (by omega))))
  | m + 1, j, hj, he => by
    have hv' := hv
    obtain ⟨o0, g1, g2, g3, g4⟩ := hv
    obtain ⟨c1, c2⟩ := g4 tv
    have l40 : rv_l v ≤ 40 := by omega
    have hb0 := (ok0.2.2.2.1 t0).2
    have hb := (o0.2.2.2.1 tv).2
    have x1 := hb0 j (by omega)
    have x2 := hb j (by omega)
    refine w_m_isItemStored_67 hM (z_ixi hit (by decide) ?_)
    rw [c1, z_le (by omega) (by omega), z_add, z_mul, z_add, z_add]
    refine z_bf (by omega) (z_bf (by decide) (p_packed (ch := rv_c v0) (n := rv_l v0) hM hz (fun i hi => (hb0 i hi).2) (by omega) (by omega) (by omega) (z_ixi (by omega) (by decide) ?_)))
    rw [c2 j (by omega), z_eq (by omega) (by omega)]
    refine z_br (fun q => p_sis67 hM hit hf hv' tv ok0 t0 hl hz h1 h2 (m := m) (j := j + 1) (by omega) (fun i hi => ?_)) (fun q => ?_)
    · by_cases e : i = j
      · rw [e]; exact q
      · exact he i (by omega)
    · have fin : bI_ex (nI 0) (fun b => K b f) := z_ex (b := false) (h2 (fun r => q (r j (by omega))))
      exact w_m_isItemStored_67 hM (z_ixi hit (by decide) (z_br (fun _ => fin) (fun _ => z_bt rfl fin)))
theorem p_isItemStored {K : Bool → mm_F → Prop} (hM : mm_S Gm) (hit : it < 208) (hf : fm + 12 ≤ 50960) (hv : iv f it v) (ok0 : rv_ok v0) (t0 : rv_t v0 = 1 ∨ (rv_t v0 = 2 ∧ rv_l v0 ≤ 40)) (hs : si f fm v0) (h1 : rv_pl v0 v → K true f) (h2 : ¬ rv_pl v0 v → K false f) : m_isItemStored Gm (d + 1) (nI fm) (nI it) f K := by
  have hv' := hv
  obtain ⟨o0, g1, g2, g3, g4⟩ := hv
  unfold rv_pl at h1 h2
  have big : ∀ l, l ≤ 40 → ¬ nI l = Int32.ofInt (-1) := fun l hl q => by
    rw [← sh_s, sh_n (by omega)] at q
    omega
  refine w_m_isItemStored hM (z_ixi hit (by decide) ?_)
  rw [g1, z_eq (by omega) (by decide), z_add]
  refine z_br (fun q => z_ixi (by omega) (by decide) ?_) (fun q => z_ixi (by omega) (by decide) (z_ixi hit (by decide) ?_))
  · by_cases t1 : rv_t v0 = 1
    · obtain ⟨s1, s2⟩ := hs.1 t1
      rw [s1]
      refine z_bt rfl (z_ixi (by omega) (by decide) (z_ixi hit (by decide) ?_))
      rw [s2, g3 q]
      exact z_br (fun e => h1 ⟨by omega, fun _ => e, fun _ => by omega⟩) (fun e => h2 (fun r => e (r.2.1 t1)))
    · have t2 : rv_t v0 = 2 ∧ rv_l v0 ≤ 40 := by omega
      rw [(hs.2 t2.1).1]
      exact z_bf (big _ t2.2) (h2 (fun r => t1 (by omega)))
  · have tv : rv_t v = 2 ∧ rv_l v ≤ 40 := by omega
    obtain ⟨c1, c2⟩ := g4 tv.1
    have no : ¬ ((rv_t v0 = rv_t v ∧ (rv_t v0 = 1 → rv_n v0 = rv_n v) ∧ (rv_t v0 = 2 → rv_l v0 = rv_l v ∧ ∀ j, j < rv_l v0 → rv_c v0 j = rv_c v j))) → m_isItemStored_67 Gm (d + 1) (nI fm) (nI it) (nI 0) (nI 0) f K := fun r => by
      have fin : bI_ex (nI 0) (fun b => K b f) := z_ex (b := false) (h2 r)
      exact w_m_isItemStored_67 hM (z_ixi hit (by decide) (z_br (fun _ => fin) (fun _ => z_bt rfl fin)))
    rw [c1]
    by_cases t1 : rv_t v0 = 1
    · rw [(hs.1 t1).1]
      exact z_bf (fun r => big _ tv.2 r.symm) (no (fun r => by omega))
    · have t2 : rv_t v0 = 2 ∧ rv_l v0 ≤ 40 := by omega
      obtain ⟨s1, s2⟩ := hs.2 t2.1
      rw [s1, z_eq (by omega) (by omega)]
      refine z_br (fun e => ?_) (fun e => no (fun r => e (r.2.2 t2.1).1))
      exact p_sis67 hM hit hf hv' tv.1 ok0 t2.1 e s2 (fun r => h1 ⟨by omega, fun _ => by omega, fun _ => ⟨e, fun j hj => r j (by omega)⟩⟩) (fun r => h2 (fun r' => r (fun j hj => (r'.2.2 t2.1).2 j (by omega)))) (m := rv_l v) (j := 0) (by omega) (fun i hi => absurd hi (Nat.not_lt_zero i))
end IS
