/-! RENDERING: whether a value is as it was stored (the items as they were then: I0) -/
def rv_sk (I0 I : Nat → Nat → rv) (v0 v : rv) : Prop := rv_t v0 = rv_t v ∧ rv_s v0 = rv_s v ∧ rv_l v0 = rv_l v ∧ (rv_t v0 = 1 → rv_n v0 = rv_n v) ∧ (rv_t v0 = 2 → ∀ j, j < rv_l v → rv_c v0 j = rv_c v j) ∧ (rv_t v0 = 3 → ∀ k, k < rv_l v → rv_pl (I0 (rv_d v0) k) (I (rv_d v) k))
theorem hd8_eq {v0 v : rv} (h0 : rv_t v0 ≤ 3) (h : rv_t v ≤ 3) : (hd8 v0 = hd8 v) = (rv_t v0 = rv_t v ∧ rv_s v0 = rv_s v ∧ rv_l v0 = rv_l v) := by
  unfold hd8
  cases e0 : rv_s v0 with
  | true =>
    cases e : rv_s v with
    | true => rw [if_pos rfl]; exact propext ⟨fun q => ⟨by omega, rfl, by omega⟩, fun q => by omega⟩
    | false => rw [if_pos rfl, if_neg (by decide)]; exact propext ⟨fun q => by omega, fun q => absurd q.2.1 (by decide)⟩
  | false =>
    cases e : rv_s v with
    | true => rw [if_neg (by decide), if_pos rfl]; exact propext ⟨fun q => by omega, fun q => absurd q.2.1 (by decide)⟩
    | false => rw [if_neg (by decide)]; exact propext ⟨fun q => ⟨by omega, rfl, by omega⟩, fun q => by omega⟩
section IK
variable {Gm : mj_G} {f : mm_F} {d fm k : Nat} {I0 I : Nat → Nat → rv} {v v0 : rv}
theorem p_isk76 {K : Bool → mm_F → Prop} (hM : mm_S Gm) (hk : k < 380) (hf : fm + 98 ≤ 50960) (ov : rv_ok v) (ok0 : rv_ok v0) (hv : mv f k v) (ht : rv_t v0 = rv_t v) (hl : rv_l v0 = rv_l v) (hs : sn f I0 fm v0) (hit : rv_t v = 3 → ∀ j, j < rv_l v → iv f (8 * rv_d v + j) (I (rv_d v) j)) (hi0 : rv_t v0 = 3 → ∀ j, j < rv_l v0 → rv_ok (I0 (rv_d v0) j) ∧ (rv_t (I0 (rv_d v0) j) = 1 ∨ (rv_t (I0 (rv_d v0) j) = 2 ∧ rv_l (I0 (rv_d v0) j) ≤ 40)))
    (h1 : (rv_t v0 = 2 → ∀ j, j < rv_l v → rv_c v0 j = rv_c v j) → (rv_t v0 = 3 → ∀ k, k < rv_l v → rv_pl (I0 (rv_d v0) k) (I (rv_d v) k)) → K true f) (h2 : ¬ ((rv_t v0 = 2 → ∀ j, j < rv_l v → rv_c v0 j = rv_c v j) ∧ (rv_t v0 = 3 → ∀ k, k < rv_l v → rv_pl (I0 (rv_d v0) k) (I (rv_d v) k))) → K false f) :
    ∀ {m j : Nat}, j + m = rv_l v → (rv_t v0 = 2 → ∀ i, i < j → rv_c v0 i = rv_c v i) → (rv_t v0 = 3 → ∀ i, i < j → rv_pl (I0 (rv_d v0) i) (I (rv_d v) i)) → m_isStored_76 Gm (d + 2) (nI fm) (nI k) (nI 1) (nI j) f K
  | 0, j, hj, g2, g3 => by
    have lb := rv_lb ov
    refine w_m_isStored_76 hM (z_ixi hk (by decide) ?_)
    rw [hv.2.1, z_le (by omega) (by omega)]
    exact z_bt (by omega) (z_ex (b := true) (h1 (fun q i hi => g2 q i (by omega)) (fun q i hi => g3 q i (by omega))))
  | m + 1, j, hj, g2, g3 => by
    have lb := rv_lb ov
    have tv := ov.1
    have fin : ¬ ((rv_t v0 = 2 → ∀ j, j < rv_l v → rv_c v0 j = rv_c v j) ∧ (rv_t v0 = 3 → ∀ k, k < rv_l v → rv_pl (I0 (rv_d v0) k) (I (rv_d v) k))) → m_isStored_76 Gm (d + 2) (nI fm) (nI k) (nI 0) (nI (j + 1)) f K := fun r => by
      have e : bI_ex (nI 0) (fun b => K b f) := z_ex (b := false) (h2 r)
      exact w_m_isStored_76 hM (z_ixi hk (by decide) (z_br (fun _ => e) (fun _ => z_bt rfl e)))
    refine w_m_isStored_76 hM (z_ixi hk (by decide) ?_)
    rw [hv.2.1, z_le (by omega) (by omega)]
    refine z_bf (by omega) (z_bf (by decide) (z_ixi hk (by decide) ?_))
    rw [hv.1, z_eq (by omega) (by decide)]
    refine z_br (fun t3 => z_ixi hk (by decide) ?_) (fun t3 => ?_)
    · obtain ⟨l8, dl⟩ := ov.2.2.2.2 t3
      have t0 : rv_t v0 = 3 := by omega
      rw [hv.2.2.2.2.1 t3, z_mul, z_add, z_add, z_mul, z_add, z_add]
      obtain ⟨o1, o2⟩ := hi0 t0 j (by omega)
      refine p_isItemStored hM (by omega) (by omega) (hit t3 j (by omega)) o1 o2 (hs.2.2.2 t0 j (by omega)) (fun q => ?_) (fun q => fin (fun r => q (r.2 t0 j (by omega))))
      refine p_isk76 hM hk hf ov ok0 hv ht hl hs hit hi0 h1 h2 (m := m) (j := j + 1) (by omega) (fun q2 => absurd q2 (by omega)) (fun q3 i hi => ?_)
      by_cases e : i = j
      · rw [e]; exact q
      · exact g3 q3 i (by omega)
    · have t2 : rv_t v = 2 := by
        by_cases q : rv_t v = 2
        · exact q
        · have := ov.2.1 (by omega)
          omega
      have t0 : rv_t v0 = 2 := by omega
      have x1 := (ok0.2.2.2.1 t0).2 j (by omega)
      have x2 := (ov.2.2.2.1 t2).2 j (by omega)
      rw [z_mul, z_add, z_add, z_add]
      refine p_packed (ch := rv_c v0) (n := rv_l v0) hM (hs.2.2.1 t0) (fun i hi => ((ok0.2.2.2.1 t0).2 i hi).2) (by omega) (by omega) (by omega) (z_ixi (by omega) (by decide) ?_)
      rw [hv.2.2.2.2.2 t2 j (by omega), z_eq (by omega) (by omega)]
      refine z_br (fun q => p_isk76 hM hk hf ov ok0 hv ht hl hs hit hi0 h1 h2 (m := m) (j := j + 1) (by omega) (fun q2 i hi => ?_) (fun q3 => absurd q3 (by omega))) (fun q => fin (fun r => q (r.1 t0 j (by omega))))
      by_cases e : i = j
      · rw [e]; exact q
      · exact g2 q2 i (by omega)
end IK
