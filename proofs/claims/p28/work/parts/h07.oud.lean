/-! THE OUTPUT, character by character -/
section H07
variable {s : lst} {H H1 H' G Gm : mj_G} {d k c t x : Nat} {ρ : Nat → Nat}
theorem od_out {K : Int32 ⊕ Nat → mj_G → Prop} (hs : LQ s) (h : LC s ρ G) (hk : k < o_n (ls_o s)) (hd : 1200 ≤ d) (hK : K (.inl (nI (o_c (ls_o s) k % 128))) G) : Tq_out d (nI k) G K := by
  have ho := hs.2.2.2.1
  have h300 : o_n (ls_o s) ≤ 300 := ho.1
  have hz := ho.2.2 k hk
  obtain ⟨d, rfl⟩ : ∃ y, d = y + 1 := ⟨d - 1, by omega⟩
  have hoC := h.2.2.2.1.1
  obtain ⟨k1, k2⟩ := yO_k h.1.1 hoC
  refine w_Tq_out h.1.1 (by omega) (by omega) ?_
  rw [hoC.2.2.1, z_lt (by omega) (by decide), z_lt (by omega) (by omega)]
  refine z_bf (by omega) (z_bt hk ⟨k1, z_ixi (by omega) (by omega) ?_⟩)
  rw [hoC.2.2.2.2.1 k hk, q_40 hz.1]
  exact ⟨z_ch (by omega), hK⟩
theorem od_source {K : Int32 ⊕ Nat → mj_G → Prop} (hs : LQ s) (h : LC s ρ G) (hk : k < o_n (ls_o s)) (hd : 1200 ≤ d) (hK : K (.inl (nI (o_c (ls_o s) k / 262144))) G) : Tq_source d (nI k) G K := by
  have ho := hs.2.2.2.1
  have h300 : o_n (ls_o s) ≤ 300 := ho.1
  have hz := ho.2.2 k hk
  obtain ⟨d, rfl⟩ : ∃ y, d = y + 1 := ⟨d - 1, by omega⟩
  have hoC := h.2.2.2.1.1
  obtain ⟨k1, k2⟩ := yO_k h.1.1 hoC
  refine w_Tq_source h.1.1 (by omega) (by omega) ?_
  rw [hoC.2.2.1, z_lt (by omega) (by decide), z_lt (by omega) (by omega)]
  refine z_bf (by omega) (z_bt hk ⟨k1, z_ixi (by omega) (by omega) ?_⟩)
  rw [hoC.2.2.2.2.1 k hk, q_45 hz.1]
  exact hK
theorem od_outAnew {K : Int32 ⊕ Nat → mj_G → Prop} (hs : LQ s) (h : LC s ρ G) (hk : k < o_n (ls_o s)) (hd : 1200 ≤ d) (hK : K (.inl (nI (o_c (ls_o s) k % 128))) G) : Tq_outAnew d (nI k) G K := by
  have ho := hs.2.2.2.1
  have hz := ho.2.2 k hk
  have h300 := ho.1
  obtain ⟨d, rfl⟩ : ∃ y, d = y + 2 := ⟨d - 2, by omega⟩
  have hoC := h.2.2.2.1.1
  obtain ⟨k1, k2⟩ := yO_k h.1.1 hoC
  refine w_Tq_outAnew h.1.1 (by omega) ?_
  rw [hoC.2.2.1, z_lt (by omega) (by decide), z_lt (by omega) (by omega)]
  refine z_bf (by omega) (z_bt hk ?_)
  have go : ∀ m i, i + m = k → Tq_outAnew_30 (d + 1 + 1) (nI k) (nI (o_x (ls_o s) i)) (nI i) G K := fun m => by
    induction m with
    | zero =>
      intro i hi
      have hi' : i = k := by omega
      subst hi'
      have x8 := o_x8 ho (i := i) (by omega)
      refine w_Tq_outAnew_30 h.1.1 (by omega) (by omega) (z_bt (by rw [z_le (by omega) (by omega)]; exact Nat.le_refl _) ⟨k1, z_ixi (by omega) (by omega) ?_⟩)
      rw [hoC.2.2.2.2.1 i hk, q_43 hz.1, q_41 hz.1, q_44 hz.1]
      obtain ⟨g1, g2⟩ := hz.2.2.2.2
      refine z_br (fun q => ?_) (fun q => ?_)
      · refine c_escaped h.1 (by omega) x8 (by omega) (by omega) ?_
        rw [← g1 q]
        exact ⟨z_ch (by omega), hK⟩
      · rw [g2 (by omega)]
        exact ⟨z_ch (by omega), hK⟩
    | succ m ih =>
      intro i hi
      have x8 := o_x8 ho (i := i) (by omega)
      have hzi := ho.2.2 i (by omega)
      refine w_Tq_outAnew_30 h.1.1 (by omega) (by omega) (z_bf (by rw [z_le (by omega) (by omega)]; omega) ⟨k1, z_ixi (by omega) (by omega) ?_⟩)
      rw [hoC.2.2.2.2.1 i (by omega), q_40 hzi.1, (ld_f x8 (by omega)).2.1, ← hzi.2.2.2.1, z_add]
      exact ih (i + 1) (by omega)
  have g0 := go k 0 (by omega)
  rw [ho.2.1] at g0
  exact g0
theorem k_outv (hk : x < o_n (ls_o s)) (hd : 1200 ≤ d) (hs : OB k s H) : RV d 12020 [some (.inl (nI x))] (.inl (some (.inl (nI (o_c (ls_o s) x % 128))))) H H := by
  obtain ⟨q1, q2, ⟨ρ, q3⟩, q4, q5⟩ := hs
  have hX : Tq_out d (nI x) H (fun r G' => r = (Sum.inl (nI (o_c (ls_o s) x % 128)) : Int32 ⊕ Nat) ∧ G' = H) := od_out q1 q3 hk hd ⟨rfl, rfl⟩
  obtain ⟨H', rfl, -, -, -, b5⟩ := C_b (mi := 12020) (as := [some (.inl (nI x))]) (f := oI) (res := .inl (nI (o_c (ls_o s) x % 128))) (R := fun G' => G' = H) (by decide) rfl oI_n (fun _ => rfl) q4 (mj_X_mono hX fun _ _ q => cxI q)
  exact b5
theorem k_srcv (hk : x < o_n (ls_o s)) (hd : 1200 ≤ d) (hs : OB k s H) : RV d 12022 [some (.inl (nI x))] (.inl (some (.inl (nI (o_c (ls_o s) x / 262144))))) H H := by
  obtain ⟨q1, q2, ⟨ρ, q3⟩, q4, q5⟩ := hs
  have hX : Tq_source d (nI x) H (fun r G' => r = (Sum.inl (nI (o_c (ls_o s) x / 262144)) : Int32 ⊕ Nat) ∧ G' = H) := od_source q1 q3 hk hd ⟨rfl, rfl⟩
  obtain ⟨H', rfl, -, -, -, b5⟩ := C_b (mi := 12022) (as := [some (.inl (nI x))]) (f := oI) (res := .inl (nI (o_c (ls_o s) x / 262144))) (R := fun G' => G' = H) (by decide) rfl oI_n (fun _ => rfl) q4 (mj_X_mono hX fun _ _ q => cxI q)
  exact b5
theorem k_outAv (hk : x < o_n (ls_o s)) (hd : 1200 ≤ d) (hs : OB k s H) : RV d 12021 [some (.inl (nI x)), none, none] (.inl (some (.inl (nI (o_c (ls_o s) x % 128))))) H H := by
  obtain ⟨q1, q2, ⟨ρ, q3⟩, q4, q5⟩ := hs
  have hX : Tq_outAnew d (nI x) H (fun r G' => r = (Sum.inl (nI (o_c (ls_o s) x % 128)) : Int32 ⊕ Nat) ∧ G' = H) := od_outAnew q1 q3 hk hd ⟨rfl, rfl⟩
  obtain ⟨H', rfl, -, -, -, b5⟩ := C_b (mi := 12021) (as := [some (.inl (nI x)), none, none]) (f := oI) (res := .inl (nI (o_c (ls_o s) x % 128))) (R := fun G' => G' = H) (by decide) rfl oI_n (fun _ => rfl) q4 (mj_X_mono hX fun _ _ q => cxI q)
  exact b5
theorem kp_le : ∀ (F : Nat → kfr) (i : Nat), kp F i ≤ i
  | _, 0 => Nat.le_refl _
  | F, i + 1 => by
    have := kp_le F i
    show kp F i + (if k_is (F i) = true then 1 else 0) ≤ i + 1
    by_cases q : k_is (F i) = true
    · rw [if_pos q]; omega
    · rw [if_neg q]; omega
theorem al2_le {a b : Nat → Nat} {n m : Nat} : ∀ k i, al2 a b n m k i ≤ i + k
  | 0, i => Nat.le_refl _
  | k + 1, i => by
    show (if a (n - 1 - i) % 128 = b (m - 1 - i) % 128 then al2 a b n m k (i + 1) else i) ≤ i + (k + 1)
    by_cases q : a (n - 1 - i) % 128 = b (m - 1 - i) % 128
    · rw [if_pos q]
      have := al2_le k (i + 1) (a := a) (b := b) (n := n) (m := m)
      omega
    · rw [if_neg q]; omega
theorem ak_all {a b : Nat → Nat} {N : Nat} (h : ∀ i, i < N → a i % 128 = b i % 128) : ∀ m i, i + m = N → ak a b N m i = N
  | 0, i, hi => by
    show i = N
    omega
  | m + 1, i, hi => by
    show (if a i % 128 = b i % 128 then ak a b N m (i + 1) else i) = N
    rw [if_pos (h i (by omega))]
    exact ak_all h m (i + 1) (by omega)
end H07
