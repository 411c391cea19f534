/-! RENDERING: whether a value is as it was stored, from the top -/
section IT
variable {Gm : mj_G} {f : mm_F} {d fm k : Nat} {I0 I : Nat → Nat → rv} {v v0 : rv}
theorem p_isStored {K : Bool → mm_F → Prop} (hM : mm_S Gm) (hk : k < 380) (hf : fm + 98 ≤ 50960) (ov : rv_ok v) (ok0 : rv_ok v0) (hv : mv f k v) (hs : sn f I0 fm v0) (hit : rv_t v = 3 → ∀ j, j < rv_l v → iv f (8 * rv_d v + j) (I (rv_d v) j)) (hi0 : rv_t v0 = 3 → ∀ j, j < rv_l v0 → rv_ok (I0 (rv_d v0) j) ∧ (rv_t (I0 (rv_d v0) j) = 1 ∨ (rv_t (I0 (rv_d v0) j) = 2 ∧ rv_l (I0 (rv_d v0) j) ≤ 40))) (h1 : rv_sk I0 I v0 v → K true f) (h2 : ¬ rv_sk I0 I v0 v → K false f) : m_isStored Gm (d + 2) (nI fm) (nI k) f K := by
  have tv := ov.1
  have tv0 := ok0.1
  have lb := rv_lb ov
  have lb0 := rv_lb ok0
  unfold rv_sk at h1 h2
  have no : ¬ (rv_t v0 = rv_t v ∧ rv_s v0 = rv_s v ∧ rv_l v0 = rv_l v ∧ (rv_t v0 = 1 → rv_n v0 = rv_n v) ∧ (rv_t v0 = 2 → ∀ j, j < rv_l v → rv_c v0 j = rv_c v j) ∧ (rv_t v0 = 3 → ∀ k, k < rv_l v → rv_pl (I0 (rv_d v0) k) (I (rv_d v) k))) → m_isStored_76 Gm (d + 2) (nI fm) (nI k) (nI 0) (nI 0) f K := fun r => by
    have e : bI_ex (nI 0) (fun b => K b f) := z_ex (b := false) (h2 r)
    exact w_m_isStored_76 hM (z_ixi hk (by decide) (z_br (fun _ => e) (fun _ => z_bt rfl e)))
  -- behind the header
  have same : rv_t v0 = rv_t v ∧ rv_s v0 = rv_s v ∧ rv_l v0 = rv_l v → mm_ix (nI k) 380 (fun n5 => mm_br ((f 1728 n5) = (nI 1)) (mm_ix (nI (fm + 1)) 50960 (fun n6 => mm_ix (nI k) 380 (fun n7 => mm_br ((f 1756 n6) = (f 1729 n7)) (m_isStored_76 Gm (d + 2) (nI fm) (nI k) (nI 1) (nI 0) f K) (m_isStored_76 Gm (d + 2) (nI fm) (nI k) (nI 0) (nI 0) f K)))) (m_isStored_76 Gm (d + 2) (nI fm) (nI k) (nI 1) (nI 0) f K)) := fun ⟨ht, hss, hl⟩ => by
    have go : (rv_t v0 = 1 → rv_n v0 = rv_n v) → m_isStored_76 Gm (d + 2) (nI fm) (nI k) (nI 1) (nI 0) f K := fun hn => p_isk76 (I := I) hM hk hf ov ok0 hv ht hl hs hit hi0 (fun a b => h1 ⟨ht, hss, hl, hn, a, b⟩) (fun r => h2 (fun r' => r ⟨r'.2.2.2.2.1, r'.2.2.2.2.2⟩)) (m := rv_l v) (j := 0) (by omega) (fun _ i hi => absurd hi (Nat.not_lt_zero i)) (fun _ i hi => absurd hi (Nat.not_lt_zero i))
    refine z_ixi hk (by decide) ?_
    rw [hv.1, z_eq (by omega) (by decide)]
    refine z_br (fun q => z_ixi (by omega) (by decide) (z_ixi hk (by decide) ?_)) (fun q => go (fun r => by omega))
    rw [hs.2.1 (by omega), hv.2.2.2.1 q]
    exact z_br (fun e => go (fun _ => e)) (fun e => no (fun r => e (r.2.2.2.1 (by omega))))
  have hb : ∀ u : rv, rv_t u ≤ 3 → rv_l u ≤ 300 → hd8 u < 2 ^ 31 := fun u a b => by
    unfold hd8
    by_cases q : rv_s u = true
    · rw [if_pos q]; omega
    · rw [if_neg q]; omega
  have he : ∀ h, h = hd8 v → ((f 1756 fm = nI h) = (rv_t v0 = rv_t v ∧ rv_s v0 = rv_s v ∧ rv_l v0 = rv_l v)) := fun h hh => by
    rw [hs.1, hh, z_eq (hb v0 tv0 lb0) (hb v tv lb), hd8_eq tv0 tv]
  refine w_m_isStored hM (z_ixi (by omega) (by decide) (z_ixi hk (by decide) (z_ixi hk (by decide) ?_)))
  rw [hv.2.2.1, hv.1]
  cases hsv : rv_s v with
  | false =>
    refine z_bt rfl (z_ixi hk (by decide) ?_)
    rw [hv.2.1, z_add, z_mul, z_add, z_add]
    rw [he (rv_t v + 0 + 8 * rv_l v) (by unfold hd8; rw [if_neg (by rw [hsv]; decide)]), hsv]
    rw [hsv] at same no
    exact z_br same (fun r => no (fun r' => r ⟨r'.1, r'.2.1, r'.2.2.1⟩))
  | true =>
    refine z_bf (by decide) (z_ixi hk (by decide) ?_)
    rw [hv.2.1, z_add, z_mul, z_add, z_add]
    rw [he (rv_t v + 4 + 8 * rv_l v) (by unfold hd8; rw [if_pos hsv]), hsv]
    rw [hsv] at same no
    exact z_br same (fun r => no (fun r' => r ⟨r'.1, r'.2.1, r'.2.2.1⟩))
end IT
