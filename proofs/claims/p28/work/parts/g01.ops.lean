/-! THE CALLS, by the one side that the law knows -/
section G01A
variable {s : lst} {ρ ρ' : Nat → Nat} {G G1 G' : mj_G} {f f' : mm_F} {W S1 R1 P : Nat → Prop} {n c x l : Nat} {w z : Nat → Nat} {d : Nat}
theorem ov_spent : opv (fun d G K => Tq_spent d G (fun v G' => K (.inl v) G')) (fun r => match r with | .inl _ => (0, 0) | .inr _ => (1, 6)) (fun s s' res => s' = s ∧ res = .inl (nI (ls_t s))) := fun s hs => ⟨s, .inl (nI (ls_t s)), hs, ⟨rfl, rfl⟩, fun d ρ G K hd h hK => by
  refine w_Tq_spent h.1.1 ?_
  rw [h.2.2.2.2.1.2.1]
  exact hK ρ G h (yR_r)⟩
theorem ov_hits : opv (fun d G K => Tq_hits d G (fun v G' => K (.inl v) G')) (fun r => match r with | .inl _ => (0, 0) | .inr _ => (1, 6)) (fun s s' res => s' = s ∧ res = .inl (nI (ls_h s))) := fun s hs => ⟨s, .inl (nI (ls_h s)), hs, ⟨rfl, rfl⟩, fun d ρ G K hd h hK => by
  refine w_Tq_hits h.1.1 ?_
  rw [h.2.2.2.2.1.2.2]
  exact hK ρ G h (yR_r)⟩
theorem ov_type {c : Nat} (hc : c < 65536) : opv (fun d G K => Tq_type d (nI c) G K) (fun r => match r with | .inl _ => (0, 0) | .inr _ => (1, 6)) (fun s s' res => (s' = s ∧ (∃ k, res = .inr k ∧ (k = 15 ∨ k = 16)) ∧ ¬ (32 ≤ c ∧ c ≤ 126 ∧ ls_n s < 80)) ∨ (32 ≤ c ∧ c ≤ 126 ∧ ls_n s < 80 ∧ s' = ls_z s (ls_n s + 1) (g_u (ls_w s) (ls_n s) c) (ls_k s) ∧ res = .inl (nI (ls_n s + 1)))) := fun s hs => by
  have hn := hs.2.1.1
  by_cases h1 : 32 ≤ c ∧ c ≤ 126
  case neg =>
    refine ⟨s, .inr 15, hs, Or.inl ⟨rfl, ⟨15, rfl, Or.inl rfl⟩, by omega⟩, fun d ρ G K hd h hK => ?_⟩
    · obtain ⟨a1, a2⟩ := LC_al (kd := 16) (len := 6) h (by decide)
      have hk := hK ρ _ a1 (yR_i a2 (by decide) (by decide))
      refine w_Tq_type h.1.1 (by omega) ?_
      rw [z_lt (by omega) (by decide), z_le (by omega) (by decide)]
      exact z_br (fun _ => hk) (fun q => z_bf (by omega) hk)
  by_cases h2 : ls_n s = 80
  · refine ⟨s, .inr 16, hs, Or.inl ⟨rfl, ⟨16, rfl, Or.inr rfl⟩, by omega⟩, fun d ρ G K hd h hK => ?_⟩
    · obtain ⟨a1, a2⟩ := LC_al (kd := 17) (len := 6) h (by decide)
      have hk := hK ρ _ a1 (yR_i a2 (by decide) (by decide))
      refine w_Tq_type h.1.1 (by omega) ?_
      rw [z_lt (by omega) (by decide), z_le (by omega) (by decide), h.2.2.2.2.2.1.1, z_lt (by omega) (by decide)]
      exact z_bf (by omega) (z_bt h1.2 (z_bf (by omega) hk))
  have hW' := tx_Wu hs.2.1 (by omega) h1
  refine ⟨ls_z s (ls_n s + 1) (g_u (ls_w s) (ls_n s) c) (ls_k s), .inl (nI (ls_n s + 1)), ⟨hs.1, hW', hs.2.2⟩, Or.inr ⟨h1.1, h1.2, by omega, rfl, rfl⟩, fun d ρ G K hd h hK => ?_⟩
  · refine w_Tq_type h.1.1 (by omega) ?_
    rw [z_lt (by omega) (by decide), z_le (by omega) (by decide), h.2.2.2.2.2.1.1, z_lt (by omega) (by decide)]
    refine z_bf (by omega) (z_bt h1.2 (z_bt (by omega) (z_ixi (by omega) (by decide) ⟨z_ch hc, ?_⟩)))
    rintro _ rfl _ rfl
    have b1 : LC (ls_z s (ls_n s) (ls_w s) (ls_k s)) ρ (mj_pI G 4 (ls_n s) (nI c)) := LC_T h (Or.inr rfl) ⟨(z_iIn (by decide)).trans h.2.2.2.2.2.1.1, fun k hk => (z_iIm (by omega)).trans (h.2.2.2.2.2.1.2 k hk)⟩
    have e1 : mj_i (mj_pI G 4 (ls_n s) (nI c)) 3 1 = nI (ls_n s) := b1.2.2.2.2.2.1.1
    rw [z_iIs, e1, z_add]
    refine hK ρ _ (LC_T b1 (Or.inl rfl) ⟨z_iIs, fun k hk => ?_⟩) (yR_i (yR_t (yR_I (by decide)) (yR_I (by decide))) (by decide) (by decide))
    rw [z_iIn (by decide)]
    by_cases q : k = ls_n s
    · rw [q, g_us]; exact z_iIs
    · rw [g_un q]; exact (z_iIm q).trans (h.2.2.2.2.2.1.2 k (by omega))
theorem ov_wipe : opv (fun d G K => Tq_wipe d G (fun v G' => K (.inl v) G')) (fun r => match r with | .inl _ => (0, 0) | .inr _ => (1, 6)) (fun s s' res => s' = ls_z s 0 (fun _ => 0) (ls_k s) ∧ res = .inl (nI (ls_n s))) := fun s hs => ⟨ls_z s 0 (fun _ => 0) (ls_k s), .inl (nI (ls_n s)), ⟨hs.1, ⟨Nat.zero_le _, fun k hk => absurd hk (Nat.not_lt_zero k), fun _ _ => rfl⟩, hs.2.2⟩, ⟨rfl, rfl⟩, fun d ρ G K hd h hK => by
  refine w_Tq_wipe h.1.1 ?_
  rintro _ rfl
  rw [h.2.2.2.2.2.1.1]
  exact hK ρ _ (LC_T h (Or.inl rfl) ⟨z_iIs, fun k hk => absurd hk (Nat.not_lt_zero k)⟩) (yR_i (yR_I (by decide)) (by decide) (by decide))⟩
end G01A

section G01B
variable {s : lst} {ρ ρ' : Nat → Nat} {G G1 G' : mj_G} {f f' : mm_F} {n c x l a : Nat} {w z : Nat → Nat} {d : Nat} {v : rv} {it : Nat → rv}
theorem ov_number {c : Nat} (hc : c < 65536) {y : Int32} : opv (fun d G K => Tq_number d (nI c) y G (fun r G' => K (rU r) G')) (fun _ => (999, 11999)) (fun s s' _ => LXq s → LXq s') := fun s hs => by
  rcases le_x hc with ⟨l, hl, rfl, hq⟩ | hq
  case inr =>
    refine ⟨s, .inr 15, hs, id, fun d ρ G K hd h hK => ?_⟩
    · obtain ⟨d, rfl⟩ : ∃ y, d = y + 1 := ⟨d - 1, by omega⟩
      obtain ⟨a1, a2⟩ := LC_al (kd := 16) (len := 6) h (by decide)
      refine w_Tq_number h.1.1 (by omega) (by omega) ?_
      rw [q_let]
      exact z_bf hq (hK ρ _ a1 (yR_F a2 (by decide) (by decide)))
  have t2 : ¬ rv_t (rv_N y) = 2 := by show ¬ 1 = 2; decide
  have t3 : ¬ rv_t (rv_N y) = 3 := by show ¬ 1 = 3; decide
  refine ⟨ls_v s l (rv_N y) (u_I (ls_u s) l) (ls_n s) (ls_w s), .inl (nI 0), LQ_v hs rv_okN (fun q => absurd q t3) hs.2.1, fun q => LX_v q (fun t => absurd t t2), fun d ρ G K hd h hK => ?_⟩
  · obtain ⟨d, rfl⟩ : ∃ y, d = y + 1 := ⟨d - 1, by omega⟩
    have hG := hh_n h.1
    refine iv_cV (iv_hb h.1.2.2.1) ?_
    show Tq_number (d + 1) (nI (97 + l)) y G (fun r G' => iv_J (mj_u G) G' → K (rU r) G')
    refine w_Tq_number h.1.1 (by omega) (by omega) ?_
    rw [q_let, z_sub (by omega), Nat.add_sub_cancel_left]
    refine z_bt hq (c_newV h.1.1 (fun G2 hv2 => ?_))
    obtain ⟨v1, v2, v3, v4, v5, v6, v7, v8, v9, v10, v11⟩ := hv2
    refine ⟨v5, w_Va_setNumber v1 ⟨v5, ?_⟩⟩
    intro G3 e3 G4 e4
    have F4 : fn_F G G4 := by rw [e4, e3]; exact fn_I (fn_I v2 (Nat.le_refl _)) (Nat.le_refl _)
    have k4 : mj_k G4 (mj_n G) = 12 := by rw [e4, e3]; exact v5
    refine z_ixi hl (by decide) ⟨Or.inr (by rw [k4, (F4.2 12 (by omega)).1, cs_k (K := 41) h.1.1 rfl]), ?_⟩
    rintro _ rfl hJ
    refine c_dat (G := G4) (ρ' := ro_0 ρ (mj_n G)) (cc := 2) (e := 8) (K := K (rU (.inl ()))) h hJ F4 (by rw [e4, e3]; exact cs_pI (cs_pI v1)) (by rw [e4, e3]; exact Nat.le_of_eq v3) (by rw [e4, e3]; exact Nat.le_of_eq v4) (by decide) (by decide) hl ro_0e ⟨ro_0i hG (Nat.le_refl _), ?_, hG, rv_okN, k4, ?_, ?_, fun _ => ?_, fun q => absurd q t2, fun q => absurd q t3⟩ (fun G' b1 b2 _ _ _ => hK _ _ b1 b2)
    · rw [e4, e3]; show mj_n G < mj_n G2; omega
    · rw [e4, z_iIm (by decide), e3, z_iIm (by decide), v7]; exact Or.inl rfl
    · rw [e4, z_iIm (by decide), e3, z_iIs]; rfl
    · rw [e4, z_iIs]; rfl
theorem ov_list {c : Nat} (hc : c < 65536) : opv (fun d G K => Tq_list d (nI c) G (fun r G' => K (rU r) G')) (fun _ => (999, 11999)) (fun s s' _ => LXq s → LXq s') := fun s hs => by
  rcases le_x hc with ⟨l, hl, rfl, hq⟩ | hq
  case inr =>
    refine ⟨s, .inr 15, hs, id, fun d ρ G K hd h hK => ?_⟩
    · obtain ⟨d, rfl⟩ : ∃ y, d = y + 1 := ⟨d - 1, by omega⟩
      obtain ⟨a1, a2⟩ := LC_al (kd := 16) (len := 6) h (by decide)
      refine w_Tq_list h.1.1 (by omega) (by omega) ?_
      rw [q_let]
      exact z_bf hq (hK ρ _ a1 (yR_F a2 (by decide) (by decide)))
  have t1 : ¬ rv_t (rv_L l 0) = 1 := by show ¬ 3 = 1; decide
  have t2 : ¬ rv_t (rv_L l 0) = 2 := by show ¬ 3 = 2; decide
  have okv : rv_ok (rv_L l 0) := ⟨Nat.le_refl 3, fun q => absurd q (by show ¬ 3 ≤ 1; decide), fun _ => rfl, fun q => absurd q t2, fun _ => ⟨Nat.zero_le 8, hl⟩⟩
  refine ⟨ls_v s l (rv_L l 0) (u_I (ls_u s) l) (ls_n s) (ls_w s), .inl (nI 0), LQ_v hs okv (fun _ => ⟨rfl, fun k hk => absurd hk (Nat.not_lt_zero k)⟩) hs.2.1, fun q => LX_v q (fun t => absurd t t2), fun d ρ G K hd h hK => ?_⟩
  · obtain ⟨d, rfl⟩ : ∃ y, d = y + 1 := ⟨d - 1, by omega⟩
    have hG := hh_n h.1
    refine iv_cV (iv_hb h.1.2.2.1) ?_
    show Tq_list (d + 1) (nI (97 + l)) G (fun r G' => iv_J (mj_u G) G' → K (rU r) G')
    refine w_Tq_list h.1.1 (by omega) (by omega) ?_
    rw [q_let, z_sub (by omega), Nat.add_sub_cancel_left]
    refine z_bt hq (c_newV h.1.1 (fun G2 hv2 => ?_))
    obtain ⟨v1, v2, v3, v4, v5, v6, v7, v8, v9, v10, v11⟩ := hv2
    intro G3 e3
    have S3 : cs_S G3 := by rw [e3]; exact cs_al v1
    have k3 : mj_k G3 (mj_n G) = 12 := by rw [e3, z_kAn (by omega)]; exact v5
    refine ⟨k3, w_Va_setItems S3 ⟨k3, ?_⟩⟩
    intro G4 e4 G5 e5
    have F5 : fn_F G G5 := by rw [e5, e4, e3]; exact fn_R (fn_I (fn_A v2) (Nat.le_refl _)) (Nat.le_refl _)
    have k5 : mj_k G5 (mj_n G) = 12 := by rw [e5, e4]; exact k3
    have n5 : mj_n G5 = mj_n G2 + 1 := by rw [e5, e4, e3]; rfl
    have kk5 : mj_k G5 (mj_n G2) = 41 := by rw [e5, e4, e3]; exact z_kAs (len := 0) (row := fun _ => 0)
    have ll5 : mj_l G5 (mj_n G2) = 0 := by rw [e5, e4, e3]; exact z_lAs (kd := 41) (row := fun _ => 0)
    have r5 : mj_r G5 (mj_n G) 5 = mj_n G2 := by rw [e5]; exact z_rRs
    refine z_ixi hl (by decide) ⟨Or.inr (by rw [k5, (F5.2 12 (by omega)).1, cs_k (K := 41) h.1.1 rfl]), ?_⟩
    rintro _ rfl hJ
    refine c_dat (G := G5) (ρ' := ro_0 ρ (mj_n G)) (cc := 3) (e := 8) (K := K (rU (.inl ()))) h hJ F5 (by rw [e5, e4]; exact cs_pRg (cs_pI S3) hG) (by omega) (by rw [e5, e4, e3]; show mj_u G2 + 0 ≤ _; omega) (by decide) (by decide) hl ro_0e ⟨ro_0i hG (Nat.le_refl _), by omega, hG, okv, k5, ?_, ?_, fun q => absurd q t1, fun q => absurd q t2, fun _ => ⟨rfl, ?_, ?_, ?_, ?_, fun k hk => absurd hk (Nat.not_lt_zero k)⟩⟩ (fun G' b1 b2 _ _ _ => hK _ _ b1 b2)
    · rw [e5, z_iRa, e4, z_iIm (by decide), e3, z_iAn (by omega), v7]; exact Or.inl rfl
    · rw [e5, z_iRa, e4, z_iIs]; rfl
    · rw [r5]; exact ro_0i (by omega) (by omega)
    · rw [r5]; omega
    · rw [r5]; exact kk5
    · rw [r5]; exact ll5
theorem ov_clear {c : Nat} (hc : c < 65536) : opv (fun d G K => Tq_clear d (nI c) G (fun r G' => K (rZ r) G')) (fun _ => (999, 11999)) (fun s s' _ => LXq s → LXq s') := fun s hs => by
  rcases le_x hc with ⟨l, hl, rfl, hq⟩ | hq
  case inr =>
    refine ⟨s, .inr 15, hs, id, fun d ρ G K hd h hK => ?_⟩
    · obtain ⟨d, rfl⟩ : ∃ y, d = y + 1 := ⟨d - 1, by omega⟩
      obtain ⟨a1, a2⟩ := LC_al (kd := 16) (len := 6) h (by decide)
      refine w_Tq_clear h.1.1 (by omega) (by omega) ?_
      rw [q_let]
      exact z_bf hq (hK ρ _ a1 (yR_F a2 (by decide) (by decide)))
  have t1 : ¬ rv_t rv_0 = 1 := by decide
  have t2 : ¬ rv_t rv_0 = 2 := by decide
  have t3 : ¬ rv_t rv_0 = 3 := by decide
  have hD3 := (hs.1.1 l hl).1.1
  refine ⟨ls_v s l rv_0 (u_I (ls_u s) l) (ls_n s) (ls_w s), .inl (bI (!decide (rv_t (u_D (ls_u s) l) = 0))), LQ_v hs rv_ok0 (fun q => absurd q t3) hs.2.1, fun q => LX_v q (fun t => absurd t t2), fun d ρ G K hd h hK => ?_⟩
  · obtain ⟨d, rfl⟩ : ∃ y, d = y + 1 := ⟨d - 1, by omega⟩
    have hG := hh_n h.1
    refine iv_cZ (iv_hb h.1.2.2.1) ?_
    show Tq_clear (d + 1) (nI (97 + l)) G (fun r G' => iv_J (mj_u G) G' → K (rZ r) G')
    refine w_Tq_clear h.1.1 (by omega) (by omega) ?_
    rw [q_let, z_sub (by omega), Nat.add_sub_cancel_left]
    obtain ⟨-, -, cvl, -⟩ := h.1.2.2.2 l hl
    have go : ∀ b : Bool, b = !decide (rv_t (u_D (ls_u s) l) = 0) → ∀ G4, G4 = mj_al G 12 8 (fun _ => 0) → Va_init d (mj_n G) G4 (fun G5 => mm_ix (nI l) 26 (fun n6 => ((mj_n G) = 0 ∨ mj_k G5 (mj_n G) + 29 = mj_k G5 12) ∧ ∀ G9, G9 = mj_pR G5 12 n6 (mj_n G) → (fun r G' => iv_J (mj_u G) G' → K (rZ r) G') (.inl b) G9)) := fun b hb => by
      refine c_newV h.1.1 (fun G2 hv2 => ?_)
      obtain ⟨v1, v2, v3, v4, v5, v6, v7, v8, v9, v10, v11⟩ := hv2
      refine z_ixi hl (by decide) ⟨Or.inr (by rw [v5, (v2.2 12 (by omega)).1, cs_k (K := 41) h.1.1 rfl]), ?_⟩
      rintro _ rfl hJ
      exact c_dat (G := G2) (ρ' := ro_0 ρ (mj_n G)) (cc := 2) (e := 8) (K := K (rZ (.inl b))) h hJ v2 v1 (by omega) (by omega) (by decide) (by decide) hl ro_0e ⟨ro_0i hG (Nat.le_refl _), by omega, hG, rv_ok0, v5, by rw [v7]; exact Or.inl rfl, v6, fun q => absurd q t1, fun q => absurd q t2, fun q => absurd q t3⟩ (fun G' b1 b2 _ _ _ => by rw [hb]; exact hK _ _ b1 b2)
    have e1 : (mj_i G (mj_r G 12 l) 0 = nI 1) = (rv_t (u_D (ls_u s) l) = 0) := by
      rw [cvl.2.2.1]
      generalize rv_t (u_D (ls_u s) l) = t at hD3
      rcases (by omega : t = 0 ∨ t = 1 ∨ t = 2 ∨ t = 3) with rfl | rfl | rfl | rfl <;> exact propext (by decide)
    refine z_bt hq (z_ixi hl (by decide) ⟨cvl.1, z_br (fun q => go false ?_) (fun q => go true ?_)⟩)
    · rw [e1] at q
      simp [q]
    · rw [e1] at q
      simp [q]
end G01B

section G01C
variable {s : lst} {ρ ρ' : Nat → Nat} {G G1 G' : mj_G} {f f' : mm_F} {n c x l a b : Nat} {w z : Nat → Nat} {d : Nat} {v : rv} {it : Nat → rv} {o : ost} {nb : Nat} {cb : Nat → Nat}
theorem ov_budget {x : Int32} : opv (fun d G K => Tq_budget d x G K) (fun r => match r with | .inl _ => (0, 0) | .inr _ => (1, 6)) (fun s s' res => (LXq s → LXq s') ∧ ∀ b, 1 ≤ b → b ≤ 2000 → x = nI b → s' = ls_e s b ∧ res = .inl (nI (u_bu (ls_u s)))) := fun s hs => by
  by_cases hx : ∃ b, 1 ≤ b ∧ b ≤ 2000 ∧ x = nI b
  case neg =>
    have hq : ¬ qb (q_13003 x (nI 1) (nI 2000)) = true := by
      by_cases h1 : x < nI 1
      · exact z_nin h1
      · obtain ⟨b, hb, rfl⟩ := z_nn (x := x) (fun q => h1 (Int32.lt_iff_toInt_lt.mpr (by rw [Int32.lt_iff_toInt_lt, nI_toInt (by decide)] at q; rw [nI_toInt (by decide)]; omega)))
        rw [z_in (by decide) (by decide) hb]
        exact fun q => hx ⟨b, q.1, q.2, rfl⟩
    refine ⟨s, .inr 15, hs, ⟨id, fun b b1 b2 e => absurd ⟨b, b1, b2, e⟩ hx⟩, fun d ρ G K hd h hK => ?_⟩
    · obtain ⟨a1, a2⟩ := LC_al (kd := 16) (len := 6) h (by decide)
      have hk := hK ρ _ a1 (yR_i a2 (by decide) (by decide))
      refine w_Tq_budget h.1.1 (by omega) (z_br (fun _ => hk) (fun q1 => z_br (fun q2 => ?_) (fun _ => hk)))
      exfalso
      obtain ⟨b, hb, rfl⟩ := z_nn (x := x) (fun q => q1 (Int32.lt_iff_toInt_lt.mpr (by rw [Int32.lt_iff_toInt_lt, nI_toInt (by decide)] at q; rw [nI_toInt (by decide)]; omega)))
      rw [z_lt hb (by decide)] at q1
      rw [z_le hb (by decide)] at q2
      exact hx ⟨b, by omega, q2, rfl⟩
  obtain ⟨b, h1, h2, rfl⟩ := hx
  refine ⟨ls_e s b, .inl (nI (u_bu (ls_u s))), ⟨⟨hs.1.1, h2, hs.1.2.2⟩, hs.2⟩, ⟨fun q => ⟨q.1, q.2.1, q.2.2.1, q.2.2.2.1, q.2.2.2.2.1, h1⟩, fun b' c1 c2 e => ⟨by rw [(nI_eq (by omega) (by omega)).mp e], rfl⟩⟩, fun d ρ G K hd h hK => ?_⟩
  · refine w_Tq_budget h.1.1 (by omega) ?_
    rw [z_lt (by omega) (by decide), z_le (by omega) (by decide)]
    refine z_bf (by omega) (z_bt h2 ?_)
    rintro _ rfl
    rw [h.2.2.2.2.1.1]
    exact hK ρ _ (LC_e h) (yR_i (yR_I (by decide)) (by decide) (by decide))
theorem ov_shape {c : Nat} (hc : c < 65536) {x : Int32} : opv (fun d G K => Tq_shape d (nI c) x G K) (fun r => match r with | .inl _ => (0, 0) | .inr _ => (1, 6)) (fun s s' _ => LXq s → LXq s') := fun s hs => by
  by_cases hx : qb (q_13005 (nI c)) = true ∧ ∃ b, 1 ≤ b ∧ b ≤ 15 ∧ x = nI b
  case neg =>
    refine ⟨s, .inr 15, hs, id, fun d ρ G K hd h hK => ?_⟩
    · obtain ⟨d, rfl⟩ : ∃ y, d = y + 1 := ⟨d - 1, by omega⟩
      obtain ⟨a1, a2⟩ := LC_al (kd := 16) (len := 6) h (by decide)
      have hk := hK ρ _ a1 (yR_i a2 (by decide) (by decide))
      refine w_Tq_shape h.1.1 (by omega) (by omega) (z_br (fun q0 => z_br (fun _ => hk) (fun q1 => z_br (fun q2 => ?_) (fun _ => hk))) (fun _ => hk))
      exfalso
      obtain ⟨b, hb, rfl⟩ := z_nn (x := x) (fun q => q1 (Int32.lt_iff_toInt_lt.mpr (by rw [Int32.lt_iff_toInt_lt, nI_toInt (by decide)] at q; rw [nI_toInt (by decide)]; omega)))
      rw [z_lt hb (by decide)] at q1
      rw [z_le hb (by decide)] at q2
      exact hx ⟨q0, b, by omega, q2, rfl⟩
  obtain ⟨hq, b, h1, h2, rfl⟩ := hx
  rcases le_x hc with ⟨l, hl, rfl, -⟩ | hq'
  case inr => exact absurd hq hq'
  refine ⟨ls_z s (ls_n s) (ls_w s) (g_u (ls_k s) l b), .inl (nI (ls_k s l)), ⟨hs.1, hs.2.1, fun i hi => ?_, hs.2.2.2⟩, id, fun d ρ G K hd h hK => ?_⟩
  · show g_u (ls_k s) l b i < 16
    by_cases q : i = l
    · rw [q, g_us]; omega
    · rw [g_un q]; exact hs.2.2.1 i hi
  · obtain ⟨d, rfl⟩ : ∃ y, d = y + 1 := ⟨d - 1, by omega⟩
    refine w_Tq_shape h.1.1 (by omega) (by omega) ?_
    rw [q_let, z_sub (by omega), Nat.add_sub_cancel_left, z_lt (by omega) (by decide), z_le (by omega) (by decide)]
    refine z_bt hq (z_bf (by omega) (z_bt h2 (z_ixi hl (by decide) (z_ixi hl (by decide) ?_))))
    rintro _ rfl
    rw [h.2.2.2.2.2.2 l hl]
    have hk : mj_k G 5 ≠ 12 := fun q => by rw [cs_k (K := 20) h.1.1 rfl] at q; exact absurd q (by decide)
    refine hK ρ _ (LC_g (W := fun o => o = 5) h (hh_I h.1 (by unfold imm im_o; rw [ow_s (by decide)]; decide) (fun _ q => absurd q hk)) (f0_fw (fw_I (ow_s (by decide)))) ro_r (fun o q => by subst q; unfold im_o gW oW; decide) ⟨(z_iIn (by decide)).trans h.2.2.2.2.2.1.1, fun k hk => (z_iIn (by decide)).trans (h.2.2.2.2.2.1.2 k hk)⟩ (fun i hi => ?_)) (yR_i (yR_I (by decide)) (by decide) (by decide))
    by_cases q : i = l
    · rw [q, g_us]; exact z_iIs
    · rw [g_un q]; exact (z_iIm q).trans (h.2.2.2.2.2.2 i hi)
theorem ov_kept : opv (fun d G K => Tq_kept d G (fun v G' => K (.inl v) G')) (fun r => match r with | .inl _ => (0, 0) | .inr _ => (1, 6)) (fun s s' res => s' = s ∧ res = .inl (nI (kp (ls_F s) 10))) := fun s hs => ⟨s, .inl (nI (kp (ls_F s) 10)), hs, ⟨rfl, rfl⟩, fun d ρ G K hd h hK => by
  refine w_Tq_kept h.1.1 ?_
  have go : ∀ m i, i + m = 10 → Tq_kept_4 d (nI (kp (ls_F s) i)) (nI i) G (fun v G' => K (.inl v) G') := fun m => by
    induction m with
    | zero =>
      intro i hi
      have hi' : i = 10 := by omega
      subst hi'
      refine w_Tq_kept_4 h.1.1 (z_bt (by rw [z_le (by decide) (by decide)]; exact Nat.le_refl _) (hK ρ G h (yR_r)))
    | succ m ih =>
      intro i hi
      refine w_Tq_kept_4 h.1.1 ?_
      rw [z_le (by decide) (by omega)]
      obtain ⟨⟨a1, a2⟩, -⟩ := h.2.2.1 i (by omega)
      refine z_bf (by omega) (z_ixi (by omega) (by decide) ?_)
      have hn := ih (i + 1) (by omega)
      by_cases q : k_is (ls_F s i) = true
      · have e : kp (ls_F s) (i + 1) = kp (ls_F s) i + 1 := by show _ + (if _ then _ else _) = _; rw [if_pos q]
        rw [e] at hn
        rw [z_add, z_add]
        exact z_bf (by rw [(a2 q).1]; exact (a2 q).2.1) hn
      · have e : kp (ls_F s) (i + 1) = kp (ls_F s) i := by show _ + (if _ then _ else _) = _; rw [if_neg q]; rfl
        rw [e] at hn
        rw [z_add i]
        exact z_bt (a1 (Bool.eq_false_iff.mpr q)) hn
  exact go 10 0 rfl⟩
theorem ov_out {x : Int32} : opv (fun d G K => Tq_out d x G K) (fun r => match r with | .inl _ => (0, 0) | .inr _ => (1, 6)) (fun s s' res => s' = s ∧ (∀ k, k < o_n (ls_o s) → x = nI k → res = .inl (nI (o_c (ls_o s) k % 128))) ∧ ∀ k, o_n (ls_o s) ≤ k → k < 2 ^ 31 → x = nI k → res = .inr 17) := fun s hs => by
  have ho := hs.2.2.2.1
  have h300 : o_n (ls_o s) ≤ 300 := ho.1
  rcases ix_o (x := x) ho.1 with ⟨k, hk, rfl, hq⟩ | ⟨hq, hx⟩
  · have hz := ho.2.2 k hk
    refine ⟨s, .inl (nI (o_c (ls_o s) k % 128)), hs, ⟨rfl, fun k' h1 e => by rw [(nI_eq (by omega) (by omega)).mp e], fun k' h1 h2 e => absurd ((nI_eq (by omega) h2).mp e) (by omega)⟩, fun d ρ G K hd h hK => ?_⟩
    · obtain ⟨d, rfl⟩ : ∃ y, d = y + 1 := ⟨d - 1, by omega⟩
      have hoC := h.2.2.2.1.1
      obtain ⟨k1, k2⟩ := yO_k h.1.1 hoC
      refine w_Tq_out h.1.1 (by omega) (by omega) ?_
      rw [hoC.2.2.1, z_lt (by omega) (by decide), z_lt (by omega) (by omega)]
      refine z_bf (by omega) (z_bt hk ⟨k1, z_ixi (by omega) (by omega) ?_⟩)
      rw [hoC.2.2.2.2.1 k hk, q_40 hz.1]
      exact ⟨z_ch (by omega), hK ρ G h (yR_r)⟩
  · refine ⟨s, .inr 17, hs, ⟨rfl, fun k h1 e => absurd hx (by have h3 := ho.1; rw [e, z_lt (by omega) (by decide), z_lt (by omega) (by omega)]; omega), fun _ _ _ _ => rfl⟩, fun d ρ G K hd h hK => ?_⟩
    · obtain ⟨d, rfl⟩ : ∃ y, d = y + 1 := ⟨d - 1, by omega⟩
      obtain ⟨a1, a2⟩ := LC_al (kd := 18) (len := 6) h (by decide)
      have hk := hK ρ _ a1 (yR_i a2 (by decide) (by decide))
      refine w_Tq_out h.1.1 (by omega) (by omega) ?_
      rw [h.2.2.2.1.1.2.2.1]
      rcases hx with hx | ⟨hx, hx'⟩
      · exact z_bt hx hk
      · exact z_bf hx (z_bf hx' hk)
theorem ov_source {x : Int32} : opv (fun d G K => Tq_source d x G K) (fun r => match r with | .inl _ => (0, 0) | .inr _ => (1, 6)) (fun s s' res => s' = s ∧ (∀ k, k < o_n (ls_o s) → x = nI k → res = .inl (nI (o_c (ls_o s) k / 262144))) ∧ ∀ k, o_n (ls_o s) ≤ k → k < 2 ^ 31 → x = nI k → res = .inr 17) := fun s hs => by
  have ho := hs.2.2.2.1
  have h300 : o_n (ls_o s) ≤ 300 := ho.1
  rcases ix_o (x := x) ho.1 with ⟨k, hk, rfl, hq⟩ | ⟨hq, hx⟩
  · have hz := ho.2.2 k hk
    refine ⟨s, .inl (nI (o_c (ls_o s) k / 262144)), hs, ⟨rfl, fun k' h1 e => by rw [(nI_eq (by omega) (by omega)).mp e], fun k' h1 h2 e => absurd ((nI_eq (by omega) h2).mp e) (by omega)⟩, fun d ρ G K hd h hK => ?_⟩
    · obtain ⟨d, rfl⟩ : ∃ y, d = y + 1 := ⟨d - 1, by omega⟩
      have hoC := h.2.2.2.1.1
      obtain ⟨k1, k2⟩ := yO_k h.1.1 hoC
      refine w_Tq_source h.1.1 (by omega) (by omega) ?_
      rw [hoC.2.2.1, z_lt (by omega) (by decide), z_lt (by omega) (by omega)]
      refine z_bf (by omega) (z_bt hk ⟨k1, z_ixi (by omega) (by omega) ?_⟩)
      rw [hoC.2.2.2.2.1 k hk, q_45 hz.1]
      exact hK ρ G h (yR_r)
  · refine ⟨s, .inr 17, hs, ⟨rfl, fun k h1 e => absurd hx (by have h3 := ho.1; rw [e, z_lt (by omega) (by decide), z_lt (by omega) (by omega)]; omega), fun _ _ _ _ => rfl⟩, fun d ρ G K hd h hK => ?_⟩
    · obtain ⟨d, rfl⟩ : ∃ y, d = y + 1 := ⟨d - 1, by omega⟩
      obtain ⟨a1, a2⟩ := LC_al (kd := 18) (len := 6) h (by decide)
      have hk := hK ρ _ a1 (yR_i a2 (by decide) (by decide))
      refine w_Tq_source h.1.1 (by omega) (by omega) ?_
      rw [h.2.2.2.1.1.2.2.1]
      rcases hx with hx | ⟨hx, hx'⟩
      · exact z_bt hx hk
      · exact z_bf hx (z_bf hx' hk)
theorem ov_context {x : Int32} : opv (fun d G K => Tq_context d x G K) (fun r => match r with | .inl _ => (0, 0) | .inr _ => (1, 6)) (fun s s' res => s' = s ∧ (∀ k, k ≤ o_n (ls_o s) → x = nI k → res = .inl (nI (o_x (ls_o s) k))) ∧ ∀ k, o_n (ls_o s) < k → k < 2 ^ 31 → x = nI k → res = .inr 17) := fun s hs => by
  have ho := hs.2.2.2.1
  by_cases hx : ∃ k, k ≤ o_n (ls_o s) ∧ x = nI k
  · obtain ⟨k, hk, rfl⟩ := hx
    have h300 := ho.1
    refine ⟨s, .inl (nI (o_x (ls_o s) k)), hs, ⟨rfl, fun k' h1 e => by rw [(nI_eq (by omega) (by omega)).mp e], fun k' h1 h2 e => absurd ((nI_eq (by omega) h2).mp e) (by omega)⟩, fun d ρ G K hd h hK => ?_⟩
    · have hoC := h.2.2.2.1.1
      refine w_Tq_context h.1.1 (by omega) ?_
      rw [hoC.2.2.1, z_lt (by omega) (by decide), z_le (by omega) (by omega)]
      refine z_bf (by omega) (z_bt hk (z_ixi (by omega) (by decide) ?_))
      rw [hoC.2.2.2.2.2 k hk]
      exact hK ρ G h (yR_r)
  · have h300 := ho.1
    refine ⟨s, .inr 17, hs, ⟨rfl, fun k h1 e => absurd ⟨k, h1, e⟩ hx, fun _ _ _ _ => rfl⟩, fun d ρ G K hd h hK => ?_⟩
    · obtain ⟨a1, a2⟩ := LC_al (kd := 18) (len := 6) h (by decide)
      have hk := hK ρ _ a1 (yR_i a2 (by decide) (by decide))
      refine w_Tq_context h.1.1 (by omega) ?_
      rw [h.2.2.2.1.1.2.2.1]
      refine z_br (fun _ => hk) (fun q1 => z_br (fun q2 => ?_) (fun _ => hk))
      exfalso
      obtain ⟨k, hk, rfl⟩ := z_nn q1
      rw [z_le hk (by omega)] at q2
      exact hx ⟨k, q2, rfl⟩
end G01C

section G01D
variable {s : lst} {ρ ρ' : Nat → Nat} {G G1 G' : mj_G} {f f' : mm_F} {n c x l a b z : Nat} {w : Nat → Nat} {d : Nat} {v : rv} {it : Nat → rv} {o : ost} {nb : Nat} {cb : Nat → Nat}
theorem ov_outAnew {x : Int32} : opv (fun d G K => Tq_outAnew d x G K) (fun r => match r with | .inl _ => (0, 0) | .inr _ => (1, 6)) (fun s s' res => s' = s ∧ (∀ k, k < o_n (ls_o s) → x = nI k → res = .inl (nI (o_c (ls_o s) k % 128))) ∧ ∀ k, o_n (ls_o s) ≤ k → k < 2 ^ 31 → x = nI k → res = .inr 17) := fun s hs => by
  have ho := hs.2.2.2.1
  rcases ix_o (x := x) ho.1 with ⟨k, hk, rfl, hq⟩ | ⟨hq, hx⟩
  · have hz := ho.2.2 k hk
    have h300 := ho.1
    refine ⟨s, .inl (nI (o_c (ls_o s) k % 128)), hs, ⟨rfl, fun k' h1 e => by have h3 := ho.1; rw [(nI_eq (by omega) (by omega)).mp e], fun k' h1 h2 e => absurd ((nI_eq (by have h3 := ho.1; omega) h2).mp e) (by omega)⟩, fun d ρ G K hd h hK => ?_⟩
    · obtain ⟨d, rfl⟩ : ∃ y, d = y + 2 := ⟨d - 2, by omega⟩
      have hoC := h.2.2.2.1.1
      obtain ⟨k1, k2⟩ := yO_k h.1.1 hoC
      refine w_Tq_outAnew h.1.1 (by omega) ?_
      rw [hoC.2.2.1, z_lt (by omega) (by decide), z_lt (by omega) (by omega)]
      refine z_bf (by omega) (z_bt hk ?_)
      have go : ∀ m i, i + m = k → Tq_outAnew_30 (d + 1 + 1) (nI k) (nI (o_x (ls_o s) i)) (nI i) G K := fun m => by
        induction m with
        | zero =>
          intro i hi
          have hi' : i = k := by omega
          subst hi'
          have x8 := o_x8 ho (i := i) (by omega)
          refine w_Tq_outAnew_30 h.1.1 (by omega) (by omega) (z_bt (by rw [z_le (by omega) (by omega)]; exact Nat.le_refl _) ⟨k1, z_ixi (by omega) (by omega) ?_⟩)
          rw [hoC.2.2.2.2.1 i hk, q_43 hz.1, q_41 hz.1, q_44 hz.1]
          obtain ⟨g1, g2⟩ := hz.2.2.2.2
          refine z_br (fun q => ?_) (fun q => ?_)
          · refine c_escaped h.1 (by omega) x8 (by omega) (by omega) ?_
            rw [← g1 q]
            exact ⟨z_ch (by omega), hK ρ G h (yR_r)⟩
          · rw [g2 (by omega)]
            exact ⟨z_ch (by omega), hK ρ G h (yR_r)⟩
        | succ m ih =>
          intro i hi
          have x8 := o_x8 ho (i := i) (by omega)
          have hzi := ho.2.2 i (by omega)
          refine w_Tq_outAnew_30 h.1.1 (by omega) (by omega) (z_bf (by rw [z_le (by omega) (by omega)]; omega) ⟨k1, z_ixi (by omega) (by omega) ?_⟩)
          rw [hoC.2.2.2.2.1 i (by omega), q_40 hzi.1, (ld_f x8 (by omega)).2.1, ← hzi.2.2.2.1, z_add]
          exact ih (i + 1) (by omega)
      have g0 := go k 0 (by omega)
      rw [ho.2.1] at g0
      exact g0
  · refine ⟨s, .inr 17, hs, ⟨rfl, fun k h1 e => absurd hx (by have h3 := ho.1; rw [e, z_lt (by omega) (by decide), z_lt (by omega) (by omega)]; omega), fun _ _ _ _ => rfl⟩, fun d ρ G K hd h hK => ?_⟩
    · obtain ⟨d, rfl⟩ : ∃ y, d = y + 1 := ⟨d - 1, by omega⟩
      obtain ⟨a1, a2⟩ := LC_al (kd := 18) (len := 6) h (by decide)
      have hk := hK ρ _ a1 (yR_i a2 (by decide) (by decide))
      refine w_Tq_outAnew h.1.1 (by omega) ?_
      rw [h.2.2.2.1.1.2.2.1]
      rcases hx with hx | ⟨hx, hx'⟩
      · exact z_bt hx hk
      · exact z_bf hx (z_bf hx' hk)
theorem ov_alike : opv (fun d G K => Tq_alike d G (fun v G' => K (.inl v) G')) (fun r => match r with | .inl _ => (0, 0) | .inr _ => (1, 6)) (fun s s' res => s' = s ∧ res = .inl (nI (ak (o_c (ls_o s)) (ls_c s) (mn2 (o_n (ls_o s)) (ls_b s)) (mn2 (o_n (ls_o s)) (ls_b s)) 0))) := fun s hs => ⟨s, .inl (nI (ak (o_c (ls_o s)) (ls_c s) (mn2 (o_n (ls_o s)) (ls_b s)) (mn2 (o_n (ls_o s)) (ls_b s)) 0)), hs, ⟨rfl, rfl⟩, fun d ρ G K hd h hK => by
  obtain ⟨d, rfl⟩ : ∃ y, d = y + 2 := ⟨d - 2, by omega⟩
  exact w_Tq_alike h.1.1 (c_ahead h.1.1 h.2.2.2.1 hs.2.2.2.2.1 hs.2.2.2.2.2.1 (by omega) (hK ρ G h (yR_r)))⟩
theorem ov_alikeAtEnd : opv (fun d G K => Tq_alikeAtEnd d G (fun v G' => K (.inl v) G')) (fun r => match r with | .inl _ => (0, 0) | .inr _ => (1, 6)) (fun s s' res => s' = s ∧ res = .inl (nI (al2 (o_c (ls_o s)) (ls_c s) (o_n (ls_o s)) (ls_b s) (mn2 (o_n (ls_o s)) (ls_b s) - ak (o_c (ls_o s)) (ls_c s) (mn2 (o_n (ls_o s)) (ls_b s)) (mn2 (o_n (ls_o s)) (ls_b s)) 0) 0))) := fun s hs => by
  have ho := hs.2.2.2.1
  have h3 := ho.1
  have hb := hs.2.2.2.2.1
  obtain ⟨m1, m2, m3⟩ := mn2_le (a := o_n (ls_o s)) (b := ls_b s)
  obtain ⟨r1, -⟩ := ak_le (a := o_c (ls_o s)) (b := ls_c s) (N := mn2 (o_n (ls_o s)) (ls_b s)) (m := mn2 (o_n (ls_o s)) (ls_b s)) (i := 0) (by omega)
  refine ⟨s, .inl (nI (al2 (o_c (ls_o s)) (ls_c s) (o_n (ls_o s)) (ls_b s) (mn2 (o_n (ls_o s)) (ls_b s) - ak (o_c (ls_o s)) (ls_c s) (mn2 (o_n (ls_o s)) (ls_b s)) (mn2 (o_n (ls_o s)) (ls_b s)) 0) 0)), hs, ⟨rfl, rfl⟩, fun d ρ G K hd h hK => ?_⟩
  · obtain ⟨d, rfl⟩ : ∃ y, d = y + 3 := ⟨d - 3, by omega⟩
    have hO := h.2.2.2.1
    obtain ⟨k1, k2⟩ := yO_k h.1.1 hO.1
    obtain ⟨k3, k4⟩ := yO_k2 h.1.1 hO
    refine w_Tq_alikeAtEnd h.1.1 (w_Ou_alikeBehind h.1.1 (c_ahead h.1.1 hO hb hs.2.2.2.2.2.1 (by omega) ?_))
    rw [hO.1.2.2.1, hO.2.2.2.1, mn2_i (by omega) (by omega)]
    generalize ak (o_c (ls_o s)) (ls_c s) (mn2 (o_n (ls_o s)) (ls_b s)) (mn2 (o_n (ls_o s)) (ls_b s)) 0 = r at r1 hK
    generalize mn2 (o_n (ls_o s)) (ls_b s) = N at m1 m2 r1 hK
    rw [z_sub r1]
    have go : ∀ m i, i + m = N - r → K (.inl (nI (al2 (o_c (ls_o s)) (ls_c s) (o_n (ls_o s)) (ls_b s) m i))) G → Ou_alikeBehind_19 (d + 1 + 1) (nI (N - r)) (nI i) G (fun v G' => K (.inl v) G') := fun m => by
      induction m with
      | zero =>
        intro i hi hK
        refine w_Ou_alikeBehind_19 h.1.1 (by omega) (z_bt (by rw [z_le (by omega) (by omega)]; omega) ?_)
        have e : i = N - r := by omega
        rw [← e]
        exact hK
      | succ m ih =>
        intro i hi hK
        have hz1 := ho.2.2 (o_n (ls_o s) - 1 - i) (by omega)
        have hz2 := hs.2.2.2.2.2.1 (ls_b s - 1 - i) (by omega)
        refine w_Ou_alikeBehind_19 h.1.1 (by omega) (z_bf (by rw [z_le (by omega) (by omega)]; omega) ⟨k1, ?_⟩)
        rw [hO.1.2.2.1, hO.2.2.2.1, k2, k4, z_sub (by omega), z_sub (by omega), z_sub (by omega), z_sub (by omega)]
        refine z_ixi (by omega) (by decide) ⟨k3, z_ixi (by omega) (by decide) ?_⟩
        rw [hO.1.2.2.2.2.1 _ (by omega), hO.2.2.2.2 _ (by omega), q_40 hz1.1, q_40 hz2.1, z_eq (by omega) (by omega), z_add]
        have e : al2 (o_c (ls_o s)) (ls_c s) (o_n (ls_o s)) (ls_b s) (m + 1) i = if o_c (ls_o s) (o_n (ls_o s) - 1 - i) % 128 = ls_c s (ls_b s - 1 - i) % 128 then al2 (o_c (ls_o s)) (ls_c s) (o_n (ls_o s)) (ls_b s) m (i + 1) else i := rfl
        rw [e] at hK
        refine z_br (fun q => ih (i + 1) (by omega) ?_) (fun q => ?_)
        · rw [if_pos q] at hK; exact hK
        · rw [if_neg q] at hK; exact hK
    exact go (N - r) 0 (by omega) (hK ρ G h (yR_r))
end G01D

section G01E
variable {s : lst} {ρ ρ' : Nat → Nat} {G G1 G' Gm : mj_G} {f f' : mm_F} {n l m a : Nat} {w : Nat → Nat} {d : Nat}
theorem ov_text {c : Nat} (hc : c < 65536) : opv (fun d G K => Tq_text d (nI c) G K) (fun _ => (999, 11999)) (fun s s' _ => LXq s → LXq s') := fun s hs => by
  have hn := hs.2.1.1
  rcases le_x hc with ⟨l, hl, rfl, hq⟩ | hq
  case inr =>
    refine ⟨s, .inr 15, hs, id, fun d ρ G K hd h hK => ?_⟩
    · obtain ⟨d, rfl⟩ : ∃ y, d = y + 1 := ⟨d - 1, by omega⟩
      obtain ⟨a1, a2⟩ := LC_al (kd := 16) (len := 6) h (by decide)
      refine w_Tq_text h.1.1 (by omega) (by omega) ?_
      rw [q_let]
      exact z_bf hq (hK ρ _ a1 (yR_F a2 (by decide) (by decide)))
  obtain ⟨m1, m2, m3⟩ := mn2_le (a := ls_n s) (b := 40)
  generalize hm : mn2 (ls_n s) 40 = m at m1 m2 m3
  have okv := rv_Tok hs.2.1 m1
  have t1 : ¬ rv_t (rv_T m (ls_w s) false) = 1 := by show ¬ 2 = 1; decide
  have t3 : ¬ rv_t (rv_T m (ls_w s) false) = 3 := by show ¬ 2 = 3; decide
  refine ⟨ls_v s l (rv_T m (ls_w s) false) (u_I (ls_u s) l) 0 (fun _ => 0), .inl (nI m), LQ_v hs okv (fun q => absurd q t3) tx_W0, fun q => LX_v q (fun _ => rfl), fun d ρ G K hd h hK => ?_⟩
  · obtain ⟨d, rfl⟩ : ∃ y, d = y + 1 := ⟨d - 1, by omega⟩
    have hG := hh_n h.1
    refine iv_cI (iv_hb h.1.2.2.1) ?_
    show Tq_text (d + 1) (nI (97 + l)) G (fun r G' => iv_J (mj_u G) G' → K r G')
    refine w_Tq_text h.1.1 (by omega) (by omega) ?_
    rw [q_let, z_sub (by omega), Nat.add_sub_cancel_left]
    refine z_bt hq (c_take h hn (by omega) (fun G6 s6 F6 n6 u6 ht => ?_))
    rw [hm] at ht
    obtain ⟨b1, b2, b3, b4, b5, b6, b7, b8⟩ := ht
    refine z_ixi hl (by decide) ⟨Or.inr (by show mj_k G6 (mj_n G) + 29 = mj_k G6 12; rw [b1, cs_k (K := 41) s6 rfl]), ?_⟩
    rintro _ rfl
    refine ⟨b1, fun hJ => ?_⟩
    obtain ⟨x1, x2⟩ := LC_0T (ρ' := ro_0 ρ (mj_n G)) (cc := 3) (e := 48) h (show iv_J (mj_u G) (mj_pI G6 3 1 (nI 0)) from hJ) F6 s6 ro_0e (by omega) (by omega) (by decide)
    have ne3 : mj_n G ≠ 3 := by omega
    obtain ⟨y1, y2⟩ := LC_dat (l := l) (a := mj_n G) (v := rv_T m (ls_w s) false) (it := u_I (ls_u s) l) x1 hl ⟨ro_0i hG (Nat.le_refl _), by show mj_n G < mj_n G6; omega, hG, okv, b1, by rw [z_iIn ne3, b3]; exact Or.inl rfl, by rw [z_iIn ne3, b2]; rfl, fun q => absurd q t1, fun _ => ⟨(z_iIn ne3).trans b4, (z_iIn ne3).trans b3, by show imm _ (mj_r G6 (mj_n G) 3); rw [b5]; exact ro_0i (by omega) (by omega), by show 2 ≤ mj_r G6 (mj_n G) 3; rw [b5]; omega, by show mj_r G6 (mj_n G) 3 < mj_n G6; rw [b5]; omega, by show mj_k G6 (mj_r G6 (mj_n G) 3) = 22; rw [b5]; exact b6, by show m ≤ mj_l G6 (mj_r G6 (mj_n G) 3); rw [b5, b7]; exact Nat.le_refl _, fun j hj => by
      show mj_i (mj_pI G6 3 1 (nI 0)) (mj_r G6 (mj_n G) 3) j = _
      rw [b5, z_iIn (by omega)]
      exact b8 j hj⟩, fun q => absurd q t3⟩
    have e4 : mj_i (mj_pR (mj_pI G6 3 1 (nI 0)) 12 l (mj_n G)) (mj_n G) 4 = nI m := z_iRa.trans ((z_iIn ne3).trans b4)
    rw [e4]
    exact hK _ _ y1 (yR_F (yR_t x2 y2) (by decide) (by decide))
end G01E

section G01F
variable {s : lst} {ρ ρ' : Nat → Nat} {G G1 G' Gm Gz : mj_G} {f f' : mm_F} {n l m a R r2 : Nat} {w : Nat → Nat} {d : Nat} {D : Nat → rv} {I : Nat → Nat → rv}
theorem ov_add {c : Nat} (hc : c < 65536) {y : Int32} : opv (fun d G K => Tq_add d (nI c) y G K) (fun _ => (999, 11999)) (fun s s' _ => LXq s → LXq s') := fun s hs => by
  rcases le_x hc with ⟨l, hl, rfl, hq⟩ | hq
  case inr =>
    refine ⟨s, .inr 15, hs, id, fun d ρ G K hd h hK => ?_⟩
    · obtain ⟨d, rfl⟩ : ∃ y, d = y + 1 := ⟨d - 1, by omega⟩
      obtain ⟨a1, a2⟩ := LC_al (kd := 16) (len := 6) h (by decide)
      refine w_Tq_add h.1.1 (by omega) (by omega) ?_
      rw [q_let]
      exact z_bf hq (hK ρ _ a1 (yR_F a2 (by decide) (by decide)))
  by_cases hb : hr_b (u_D (ls_u s)) l = true
  case neg =>
    refine ⟨s, .inr 16, hs, id, fun d ρ G K hd h hK => ?_⟩
    · obtain ⟨d, rfl⟩ : ∃ y, d = y + 1 := ⟨d - 1, by omega⟩
      obtain ⟨a1, a2⟩ := LC_al (kd := 17) (len := 6) h (by decide)
      refine w_Tq_add h.1.1 (by omega) (by omega) ?_
      rw [q_let, z_sub (by omega), Nat.add_sub_cancel_left]
      exact z_bt hq (c_room h.1 hl (z_bf hb (hK ρ _ a1 (yR_F a2 (by decide) (by decide)))))
  obtain ⟨hrt, hrl⟩ := hr_t hb
  generalize hn : rv_l (u_D (ls_u s) l) = n at hrl
  have al0 : rv_t (rv_N y) = 1 ∨ (rv_t (rv_N y) = 2 ∧ rv_s (rv_N y) = false ∧ rv_l (rv_N y) ≤ 40) := Or.inl rfl
  refine ⟨ls_v s l (rv_L l (n + 1)) (g_u (u_I (ls_u s) l) n (rv_N y)) (ls_n s) (ls_w s), .inl (nI (n + 1)), LQ_item hs hl hrt hn hrl rv_okN al0 hs.2.1, fun q => LX_v q (fun t => absurd t (by show ¬ 3 = 2; decide)), fun d ρ G K hd h hK => ?_⟩
  · obtain ⟨d, rfl⟩ : ∃ y, d = y + 1 := ⟨d - 1, by omega⟩
    have hG := hh_n h.1
    refine iv_cI (iv_hb h.1.2.2.1) ?_
    show Tq_add (d + 1) (nI (97 + l)) y G (fun r G' => iv_J (mj_u G) G' → K r G')
    refine w_Tq_add h.1.1 (by omega) (by omega) ?_
    rw [q_let, z_sub (by omega), Nat.add_sub_cancel_left]
    refine z_bt hq (c_room h.1 hl (z_bt hb (c_newV h.1.1 (fun G2 hv2 => ?_))))
    obtain ⟨v1, v2, v3, v4, v5, v6, v7, v8, v9, v10, v11⟩ := hv2
    refine ⟨v5, w_Va_setNumber v1 ⟨v5, ?_⟩⟩
    intro G3 e3 G4 e4
    have F4 : fn_F G G4 := by rw [e4, e3]; exact fn_I (fn_I v2 (Nat.le_refl _)) (Nat.le_refl _)
    have k4 : mj_k G4 (mj_n G) = 12 := by rw [e4, e3]; exact v5
    have n4 : mj_n G4 = mj_n G + 2 := by rw [e4, e3]; exact v3
    have i0 : mj_i G4 (mj_n G) 0 = nI 2 := by rw [e4, z_iIm (by decide), e3, z_iIs]
    have i1 : mj_i G4 (mj_n G) 1 = y := by rw [e4, z_iIs]
    have i2 : mj_b (mj_i G4 (mj_n G) 2) := by rw [e4, z_iIm (by decide), e3, z_iIm (by decide), v7]; exact Or.inl rfl
    refine c_item (cc := 2) h hl hrt hn hrl (f3_fn F4) (by rw [e4, e3]; exact cs_pI (cs_pI v1)) ⟨((F4.2 3 (by omega)).2.2.2 1).trans h.2.2.2.2.2.1.1, fun k hk => ((F4.2 4 (by omega)).2.2.2 k).trans (h.2.2.2.2.2.1.2 k hk)⟩ (by omega) (by decide) (by rw [e4, e3]; show mj_u G2 ≤ _; omega) (Nat.le_refl _) (by omega) k4 rv_okN al0 (fun Gz Fz => ?_) (by omega) (fun ρ' G' b1 b2 => hK _ _ b1 b2)
    obtain ⟨x1, x2, x3, x4⟩ := Fz.2 (mj_n G) (by omega)
    exact ⟨x1.trans k4, by rw [x4]; exact i2, (x4 0).trans (i0.trans rfl), fun _ => (x4 1).trans i1, fun q => absurd q (by show ¬ 1 = 2; decide), fun q => absurd q (by show ¬ 1 = 3; decide)⟩
theorem ov_addText {c : Nat} (hc : c < 65536) : opv (fun d G K => Tq_addText d (nI c) G K) (fun _ => (999, 11999)) (fun s s' _ => LXq s → LXq s') := fun s hs => by
  have hn80 := hs.2.1.1
  rcases le_x hc with ⟨l, hl, rfl, hq⟩ | hq
  case inr =>
    refine ⟨s, .inr 15, hs, id, fun d ρ G K hd h hK => ?_⟩
    · obtain ⟨d, rfl⟩ : ∃ y, d = y + 1 := ⟨d - 1, by omega⟩
      obtain ⟨a1, a2⟩ := LC_al (kd := 16) (len := 6) h (by decide)
      refine w_Tq_addText h.1.1 (by omega) (by omega) ?_
      rw [q_let]
      exact z_bf hq (hK ρ _ a1 (yR_F a2 (by decide) (by decide)))
  by_cases hb : hr_b (u_D (ls_u s)) l = true
  case neg =>
    refine ⟨s, .inr 16, hs, id, fun d ρ G K hd h hK => ?_⟩
    · obtain ⟨d, rfl⟩ : ∃ y, d = y + 1 := ⟨d - 1, by omega⟩
      obtain ⟨a1, a2⟩ := LC_al (kd := 17) (len := 6) h (by decide)
      refine w_Tq_addText h.1.1 (by omega) (by omega) ?_
      rw [q_let, z_sub (by omega), Nat.add_sub_cancel_left]
      exact z_bt hq (c_room h.1 hl (z_bf hb (hK ρ _ a1 (yR_F a2 (by decide) (by decide)))))
  obtain ⟨hrt, hrl⟩ := hr_t hb
  generalize hn : rv_l (u_D (ls_u s) l) = n at hrl
  obtain ⟨m1, m2, m3⟩ := mn2_le (a := ls_n s) (b := 40)
  generalize hm : mn2 (ls_n s) 40 = m at m1 m2 m3
  have okv := rv_Tok hs.2.1 m1
  have al0 : rv_t (rv_T m (ls_w s) false) = 1 ∨ (rv_t (rv_T m (ls_w s) false) = 2 ∧ rv_s (rv_T m (ls_w s) false) = false ∧ rv_l (rv_T m (ls_w s) false) ≤ 40) := Or.inr ⟨rfl, rfl, m2⟩
  refine ⟨ls_v s l (rv_L l (n + 1)) (g_u (u_I (ls_u s) l) n (rv_T m (ls_w s) false)) 0 (fun _ => 0), .inl (nI (n + 1)), LQ_item hs hl hrt hn hrl okv al0 tx_W0, fun q => LX_v q (fun t => absurd t (by show ¬ 3 = 2; decide)), fun d ρ G K hd h hK => ?_⟩
  · obtain ⟨d, rfl⟩ : ∃ y, d = y + 1 := ⟨d - 1, by omega⟩
    have hG := hh_n h.1
    refine iv_cI (iv_hb h.1.2.2.1) ?_
    show Tq_addText (d + 1) (nI (97 + l)) G (fun r G' => iv_J (mj_u G) G' → K r G')
    refine w_Tq_addText h.1.1 (by omega) (by omega) ?_
    rw [q_let, z_sub (by omega), Nat.add_sub_cancel_left]
    refine z_bt hq (c_room h.1 hl (z_bt hb (c_take h hn80 (by omega) (fun G6 s6 F6 n6 u6 ht => ?_))))
    rw [hm] at ht
    obtain ⟨b1, b2, b3, b4, b5, b6, b7, b8⟩ := ht
    have ne3 : mj_n G ≠ 3 := by omega
    refine c_item (cc := 3) h hl hrt hn hrl (f3_t (f3_fn F6) f3_3) (cs_pI s6) ⟨z_iIs, fun k hk => absurd hk (Nat.not_lt_zero k)⟩ (by show mj_n G6 ≤ _; omega) (by decide) (by show mj_u G6 ≤ _; omega) (Nat.le_refl _) (by show mj_n G < mj_n G6; omega) b1 okv al0 (fun Gz Fz => ?_) (by omega) (fun ρ' G' b1 b2 => hK _ _ b1 b2)
    have nG : mj_n (mj_pI G6 3 1 (nI 0)) = mj_n G6 := rfl
    obtain ⟨x1, x2, x3, x4⟩ := Fz.2 (mj_n G) (by omega)
    obtain ⟨y1, y2, y3, y4⟩ := Fz.2 (mj_n G + 2) (by omega)
    have x4' : ∀ j, mj_i Gz (mj_n G) j = mj_i G6 (mj_n G) j := fun j => (x4 j).trans (z_iIn ne3)
    have er : mj_r Gz (mj_n G) 3 = mj_n G + 2 := (x3 3).trans b5
    refine ⟨x1.trans b1, by rw [x4', b3]; exact Or.inl rfl, (x4' 0).trans (b2.trans rfl), fun q => absurd q (by show ¬ 2 = 1; decide), fun _ => ⟨(x4' 4).trans b4, (x4' 2).trans b3, ?_, ?_, ?_, ?_, ?_, fun j hj => ?_⟩, fun q => absurd q (by show ¬ 2 = 3; decide)⟩
    · rw [er]; exact ro_0i (by omega) (by omega)
    · rw [er]; omega
    · rw [er]; have := Fz.1; omega
    · rw [er]; exact y1.trans b6
    · rw [er, y2]; exact Nat.le_of_eq b7.symm
    · rw [er, y4, z_iIn (by omega)]; exact b8 j hj
end G01F

section G01G
variable {s : lst} {u : wo} {ρ ρ' : Nat → Nat} {G G1 G' Gm H : mj_G} {f f' : mm_F} {a t t0 n l m c : Nat} {w : Nat → Nat} {d : Nat}
theorem ov_message {x y : Int32} : opv (fun d G K => Tq_message d x y G K) (fun _ => (999, 11999)) (fun s s' _ => LXq s → LXq s') := fun s hs => by
  have hn := hs.2.1.1
  rcases di_x (x := x) with ⟨t, ht, rfl, hq⟩ | ⟨hq, hx⟩
  case inr =>
    refine ⟨s, .inr 17, hs, id, fun d ρ G K hd h hK => ?_⟩
    · obtain ⟨d, rfl⟩ : ∃ y, d = y + 1 := ⟨d - 1, by omega⟩
      obtain ⟨a1, a2⟩ := LC_al (kd := 18) (len := 6) h (by decide)
      have hk := hK ρ _ a1 (yR_F a2 (by decide) (by decide))
      refine w_Tq_message h.1.1 (by omega) ?_
      rcases hx with hx | ⟨hx, hx'⟩
      · exact z_bt hx hk
      · exact z_bf hx (z_bf hx' hk)
  rcases bi_x (y := y) with ⟨b, hb, rfl, hq2⟩ | ⟨hq2, hy⟩
  case inr =>
    refine ⟨s, .inr 15, hs, id, fun d ρ G K hd h hK => ?_⟩
    · obtain ⟨d, rfl⟩ : ∃ y, d = y + 1 := ⟨d - 1, by omega⟩
      obtain ⟨a1, a2⟩ := LC_al (kd := 16) (len := 6) h (by decide)
      have hk := hK ρ _ a1 (yR_F a2 (by decide) (by decide))
      refine w_Tq_message h.1.1 (by omega) ?_
      rw [z_lt (by omega) (by decide), z_lt (by omega) (by decide)]
      refine z_bf (by omega) (z_bt ht ?_)
      rcases hy with hy | ⟨hy, hy'⟩
      · exact z_bt hy hk
      · exact z_bf hy (z_bf hy' hk)
  have hj : 2 * t + b < 20 := by omega
  have okv : rv_ok (rv_T (ls_n s) (ls_w s) true) := rv_okT (by omega) (fun j hj => hs.2.1.2.1 j hj)
  have hFs : ∀ j, j < 20 → rv_ok (g_u (u_F (ls_u s)) (2 * t + b) (rv_T (ls_n s) (ls_w s) true) j) ∧ rv_t (g_u (u_F (ls_u s)) (2 * t + b) (rv_T (ls_n s) (ls_w s) true) j) = 2 ∧ rv_l (g_u (u_F (ls_u s)) (2 * t + b) (rv_T (ls_n s) (ls_w s) true) j) ≤ 80 := fun j hj => by
    by_cases q : j = 2 * t + b
    · rw [q, g_us]
      exact ⟨okv, rfl, hn⟩
    · rw [g_un q]
      exact hs.1.2.2.1 j hj
  refine ⟨ls_m s (g_u (u_F (ls_u s)) (2 * t + b) (rv_T (ls_n s) (ls_w s) true)), .inl (nI (h35 (ls_w s) (ls_n s))), ⟨⟨hs.1.1, hs.1.2.1, hFs, hs.1.2.2.2⟩, tx_W0, hs.2.2⟩, fun q => ⟨q.1, q.2.1, fun i hi hk => absurd hk (by show ¬ false = true; decide), fun i hi hk => absurd hk (by show ¬ false = true; decide), q.2.2.2.2.1, q.2.2.2.2.2⟩, fun d ρ G K hd h hK => ?_⟩
  · obtain ⟨d, rfl⟩ : ∃ y, d = y + 1 := ⟨d - 1, by omega⟩
    have hG := hh_n h.1
    have hS := h.1.1
    have hw := h.2.2.2.2.2.1.2
    have e3 := h.2.2.2.2.2.1.1
    refine iv_cI (iv_hb h.1.2.2.1) ?_
    show Tq_message (d + 1) (nI t) (nI b) G (fun r G' => iv_J (mj_u G) G' → K r G')
    refine w_Tq_message hS (by omega) ?_
    rw [z_lt (by omega) (by decide), z_lt (by omega) (by decide), z_lt (by omega) (by decide), z_le (by omega) (by decide)]
    refine z_bf (by omega) (z_bt ht (z_bf (by omega) (z_bt (by omega) ?_)))
    have go : ∀ m i, i + m = ls_n s → Tq_message_40 (d + 1) (nI t) (nI b) (nI (h35 (ls_w s) i)) (nI i) G (fun r G' => iv_J (mj_u G) G' → K r G') := fun m => by
      induction m with
      | zero =>
        intro i hi
        have hi' : i = ls_n s := by omega
        subst hi'
        refine w_Tq_message_40 hS (by omega) ?_
        rw [e3, z_mul, z_add, z_le (by omega) (by omega)]
        refine z_bt (Nat.le_refl _) (z_ixi hj (by decide) (c_copyOf (a := 0) (b := ls_n s) hS (Nat.zero_le _) hn (fun G3 s3 n3 u3 k3 l3 i3 f3 => ?_)))
        rw [Nat.sub_zero] at u3 l3 i3
        generalize haj : 1674 + 2 * (2 * t + b) = a
        have hgA : gA a := Or.inr ⟨2 * t + b, hj, haj.symm⟩
        have F3 : fn_F G G3 := ⟨(f3 0).1, fun c hc => by
          obtain ⟨x1, x2, x3, x4, -⟩ := (f3 (mj_n G3 + 1)).2 c hc
          exact ⟨x1, x2, x3, fun j => x4 j (fun q => by omega)⟩⟩
        have ka : mj_k G3 a = 12 := by rw [← haj]; exact cs_g8 s3 hj
        have e33 : mj_i G3 3 1 = nI (ls_n s) := ((F3.2 3 (by omega)).2.2.2 1).trans e3
        rw [e33]
        refine ⟨ka, w_Va_setText s3 ⟨ka, ?_⟩⟩
        intro G4 e4 G5 e5
        have kr : ∀ b, mj_k G5 b = mj_k G3 b := fun b => by rw [e5, e4]; rfl
        have lr : ∀ b, mj_l G5 b = mj_l G3 b := fun b => by rw [e5, e4]; rfl
        rw [kr, lr, k3, l3, mn2_i (by omega) (by omega), show mn2 (ls_n s) (ls_n s) = ls_n s by unfold mn2; rw [if_neg (Nat.lt_irrefl _)], z_mx0 (by omega)]
        refine ⟨by decide, ?_⟩
        intro G6 e6
        refine ⟨Or.inr rfl, ?_⟩
        intro G7 e7
        have s7 : cs_S G7 := by
          rw [e7, e6, e5, e4]
          exact cs_pI (cs_pI (cs_pR (K := 12) (cs_pI s3) ka rfl))
        have F7 : g3 a 10 G G7 := by
          rw [e7, e6, e5, e4]
          exact g3_t (g3_fn F3) (g3_t (g3_I (Or.inl rfl)) (g3_t (g3_R (Or.inl ⟨rfl, rfl⟩)) (g3_t (g3_I (Or.inl rfl)) (g3_I (Or.inl rfl)))))
        have n7 : mj_n G7 = mj_n G + 1 := by rw [e7, e6, e5, e4]; exact n3
        have u7 : mj_u G7 = mj_u G + ls_n s := by rw [e7, e6, e5, e4]; exact u3
        have ar : a ≠ mj_n G := by omega
        have v0 : mj_i G7 a 0 = nI 4 := by rw [e7, z_iIm (by decide), e6, z_iIm (by decide), e5, z_iRa, e4, z_iIs]
        have v2 : mj_i G7 a 2 = nI 1 := by rw [e7, z_iIs]
        have v4 : mj_i G7 a 4 = nI (ls_n s) := by rw [e7, z_iIm (by decide), e6, z_iIs]
        have r3 : mj_r G7 a 3 = mj_n G := by rw [e7, z_rIa, e6, z_rIa, e5, z_rRs]
        have kk7 : ∀ c, mj_k G7 c = mj_k G3 c := fun c => by rw [e7, e6]; exact kr c
        have ll7 : ∀ c, mj_l G7 c = mj_l G3 c := fun c => by rw [e7, e6]; exact lr c
        have ii7 : ∀ j, mj_i G7 (mj_n G) j = mj_i G3 (mj_n G) j := fun j => by rw [e7, z_iIn ar.symm, e6, z_iIn ar.symm, e5, z_iRa, e4, z_iIn ar.symm]
        refine c_forget s7 (fun G8 s8 F8 n8 u8 z8 i8 k8 r8 => ?_)
        rintro _ rfl hJ
        have FH : g3 a 10 G (mj_pI G8 3 1 (nI 0)) := g3_t F7 (g3_t (F8 a 10) (g3_I (Or.inr rfl)))
        have hJ' := iv_end hJ (by show mj_u G8 ≤ _; omega)
        obtain ⟨g1, g2⟩ := hh_g3 (ρ' := ro_0 ρ (mj_n G)) h hgA FH (cs_pI s8) hJ' ro_0e
        have ne3 : a ≠ 3 := by omega
        refine hK (ro_0 ρ (mj_n G)) _ ⟨g1, wC_of (fun t' ht' => tm_g3 (t0 := 10) hS hgA FH ro_0e (by omega) (show tmC (ls_u s) ρ G t' from wC_to h.2.1 ht')) (fA_g3 hS hgA FH ro_0e h.2.1.1.2.2.2.1) (fun j' hj' => ⟨(hFs j' hj').1, (hFs j' hj').2.1, ?_⟩) g2, fgC_0 z8, yO_g3 hS hgA FH h.2.2.2.1, yB_g3 hS hgA FH h.2.2.2.2.1, ⟨z_iIs, fun k hk => absurd hk (Nat.not_lt_zero k)⟩, yS_g3 hS hgA FH h.2.2.2.2.2.2⟩ (yR_F (yR_g3 (cc := 1) (e := 80) h hgA FH (by show mj_n G8 ≤ _; omega) (by show mj_u G8 ≤ _; omega)) (by decide) (by decide))
        show cv (imm (ro_0 ρ (mj_n G))) (mj_pI G8 3 1 (nI 0)) (1674 + 2 * j') (g_u (u_F (ls_u s)) (2 * t + b) (rv_T (ls_n s) (ls_w s) true) j')
        by_cases q : j' = 2 * t + b
        · rw [q, g_us, haj]
          have iH : ∀ c j, c ≠ 3 → mj_i (mj_pI G8 3 1 (nI 0)) c j = mj_i G7 c j := fun c j q => (z_iIn q).trans (i8 c j)
          have rH : mj_r (mj_pI G8 3 1 (nI 0)) a 3 = mj_n G := (r8 a 3 (by omega)).trans r3
          refine ⟨((k8 a).1.trans (kk7 a)).trans ka, by rw [iH a 2 ne3, v2]; exact Or.inr rfl, (iH a 0 ne3).trans v0, fun q => absurd q (by show ¬ 2 = 1; decide), fun _ => ⟨(iH a 4 ne3).trans v4, (iH a 2 ne3).trans v2, ?_, ?_, ?_, ?_, ?_, fun j hj => ?_⟩, fun q => absurd q (by show ¬ 2 = 3; decide)⟩
          · rw [rH]; exact ro_0i hG (Nat.le_refl _)
          · rw [rH]; omega
          · rw [rH]; show mj_n G < mj_n G8; omega
          · rw [rH]; exact ((k8 _).1.trans (kk7 _)).trans k3
          · rw [rH]; show ls_n s ≤ mj_l G8 (mj_n G); rw [(k8 _).2, ll7, l3]; exact Nat.le_refl _
          · have hj' : j < ls_n s := hj
            rw [rH, iH _ _ (by omega), ii7, i3 j hj', Nat.zero_add]
            exact hw j hj'
        · rw [g_un q]
          obtain ⟨o1, o2, o3⟩ := h.2.1.1.2.2.2.2 j' hj'
          exact fm_g3 hS hgA FH ro_0e hj' (by omega) o2 o3
      | succ m ih =>
        intro i hi
        have hwi := (hs.2.1.2.1 i (by omega)).2
        refine w_Tq_message_40 hS (by omega) ?_
        rw [e3, z_le (by omega) (by omega)]
        refine z_bf (by omega) (z_ixi (by omega) (by decide) ?_)
        rw [hw i (by omega), z_eq (by omega) (by decide), z_add i]
        have hnx := ih (i + 1) (by omega)
        have e : h35 (ls_w s) (i + 1) = h35 (ls_w s) i + (if ls_w s i = 35 then 1 else 0) := rfl
        rw [e] at hnx
        refine z_br (fun q => ?_) (fun q => ?_)
        · rw [if_pos q] at hnx
          rw [z_add]; exact hnx
        · rw [if_neg q] at hnx
          exact hnx
    exact go (ls_n s) 0 (Nat.zero_add _)
end G01G
