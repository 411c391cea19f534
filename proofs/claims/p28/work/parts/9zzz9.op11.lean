/-! THE CALLS OF THE LAW: add and addText themselves -/
section ZZZ9
variable {s : lst} {ρ ρ' : Nat → Nat} {G G1 G' Gm Gz : mj_G} {f f' : mm_F} {n l m a R r2 : Nat} {w : Nat → Nat} {d : Nat} {D : Nat → rv} {I : Nat → Nat → rv}
theorem hr_t {D : Nat → rv} {l : Nat} (h : hr_b D l = true) : rv_t (D l) = 3 ∧ rv_l (D l) ≤ 7 := of_decide_eq_true h
theorem op_add {c : Nat} (hc : c < 65536) {y : Int32} : opJ (fun d G K => Tq_add d (nI c) y G K) (fun Gm d f K => m_add Gm d (nI c) y f K) cA := fun s hs => by
  rcases le_x hc with ⟨l, hl, rfl, hq⟩ | hq
  case inr =>
    refine ⟨s, .inr 15, hs, fun _ q => (by cases q; decide), fun d ρ G K hd h hK => ?_, fun Gm d f K hd hM h hK => ?_⟩
    · obtain ⟨d, rfl⟩ : ∃ y, d = y + 1 := ⟨d - 1, by omega⟩
      obtain ⟨a1, a2⟩ := LC_al (kd := 16) (len := 6) h (by decide)
      refine w_Tq_add h.1.1 (by omega) (by omega) ?_
      rw [q_let]
      exact z_bf hq (hK ρ _ a1 (yR_F a2 (by decide) (by decide)))
    · obtain ⟨d, rfl⟩ : ∃ y, d = y + 2 := ⟨d - 2, by omega⟩
      exact w_m_add hM (w_m_errorOfItem hM (by omega) (z_bf hq (w_m_holds hM (z_bf (by decide) (z_bf (by decide) (hK _ _ (LM_0 h) (rJ_x z_u2s)))))))
  by_cases hb : hr_b (u_D (ls_u s)) l = true
  case neg =>
    refine ⟨s, .inr 16, hs, fun _ q => (by cases q; decide), fun d ρ G K hd h hK => ?_, fun Gm d f K hd hM h hK => ?_⟩
    · obtain ⟨d, rfl⟩ : ∃ y, d = y + 1 := ⟨d - 1, by omega⟩
      obtain ⟨a1, a2⟩ := LC_al (kd := 17) (len := 6) h (by decide)
      refine w_Tq_add h.1.1 (by omega) (by omega) ?_
      rw [q_let, z_sub (by omega), Nat.add_sub_cancel_left]
      exact z_bt hq (c_room h.1 hl (z_bf hb (hK ρ _ a1 (yR_F a2 (by decide) (by decide)))))
    · obtain ⟨d, rfl⟩ : ∃ y, d = y + 2 := ⟨d - 2, by omega⟩
      refine w_m_add hM (p_room hM h.1.2.2.1 hl (by omega) ?_)
      rw [if_neg hb]
      exact w_m_holds hM (z_bf (by decide) (z_bf (by decide) (hK _ _ (LM_0 h) (rJ_x z_u2s))))
  obtain ⟨hrt, hrl⟩ := hr_t hb
  generalize hn : rv_l (u_D (ls_u s) l) = n at hrl
  have al0 : rv_t (rv_N y) = 1 ∨ (rv_t (rv_N y) = 2 ∧ rv_s (rv_N y) = false ∧ rv_l (rv_N y) ≤ 40) := Or.inl rfl
  refine ⟨ls_v s l (rv_L l (n + 1)) (g_u (u_I (ls_u s) l) n (rv_N y)) (ls_n s) (ls_w s), .inl (nI (n + 1)), LQ_item hs hl hrt hn hrl rv_okN al0 hs.2.1, fun _ q => (by cases q), fun d ρ G K hd h hK => ?_, fun Gm d f K hd hM h hK => ?_⟩
  · obtain ⟨d, rfl⟩ : ∃ y, d = y + 1 := ⟨d - 1, by omega⟩
    have hG := hh_n h.1
    refine iv_cI (iv_hb h.1.2.2.1) ?_
    show Tq_add (d + 1) (nI (97 + l)) y G (fun r G' => iv_J (mj_u G) G' → K r G')
    refine w_Tq_add h.1.1 (by omega) (by omega) ?_
    rw [q_let, z_sub (by omega), Nat.add_sub_cancel_left]
    refine z_bt hq (c_room h.1 hl (z_bt hb (c_newV h.1.1 (fun G2 hv2 => ?_))))
    obtain ⟨v1, v2, v3, v4, v5, v6, v7, v8, v9, v10, v11⟩ := hv2
    refine ⟨v5, w_Va_setNumber v1 ⟨v5, ?_⟩⟩
    intro G3 e3 G4 e4
    have F4 : fn_F G G4 := by rw [e4, e3]; exact fn_I (fn_I v2 (Nat.le_refl _)) (Nat.le_refl _)
    have k4 : mj_k G4 (mj_n G) = 12 := by rw [e4, e3]; exact v5
    have n4 : mj_n G4 = mj_n G + 2 := by rw [e4, e3]; exact v3
    have i0 : mj_i G4 (mj_n G) 0 = nI 2 := by rw [e4, z_iIm (by decide), e3, z_iIs]
    have i1 : mj_i G4 (mj_n G) 1 = y := by rw [e4, z_iIs]
    have i2 : mj_b (mj_i G4 (mj_n G) 2) := by rw [e4, z_iIm (by decide), e3, z_iIm (by decide), v7]; exact Or.inl rfl
    refine c_item (cc := 2) h hl hrt hn hrl (f3_fn F4) (by rw [e4, e3]; exact cs_pI (cs_pI v1)) ⟨((F4.2 3 (by omega)).2.2.2 1).trans h.2.2.2.2.2.1.1, fun k hk => ((F4.2 4 (by omega)).2.2.2 k).trans (h.2.2.2.2.2.1.2 k hk)⟩ (by omega) (by decide) (by rw [e4, e3]; show mj_u G2 ≤ _; omega) (Nat.le_refl _) (by omega) k4 rv_okN al0 (fun Gz Fz => ?_) (by omega) (fun ρ' G' b1 b2 => hK _ _ b1 b2)
    obtain ⟨x1, x2, x3, x4⟩ := Fz.2 (mj_n G) (by omega)
    exact ⟨x1.trans k4, by rw [x4]; exact i2, (x4 0).trans (i0.trans rfl), fun _ => (x4 1).trans i1, fun q => absurd q (by show ¬ 1 = 2; decide), fun q => absurd q (by show ¬ 1 = 3; decide)⟩
  · obtain ⟨d, rfl⟩ : ∃ y, d = y + 2 := ⟨d - 2, by omega⟩
    refine w_m_add hM (p_room hM h.1.2.2.1 hl (by omega) ?_)
    rw [if_pos hb]
    refine w_m_holds hM (z_bt rfl (z_bt rfl ?_))
    rw [z_sub (by omega), Nat.add_sub_cancel_left]
    have k0 := LM_0 (x := nI 0) h
    have z0 : (mj_u2 f 1714 0 (nI 0)) 1714 0 = nI 0 := z_u2s
    generalize mj_u2 f 1714 0 (nI 0) = g at k0 z0 ⊢
    have hml := ml_of k0.1.2.2.1 hl
    have e22 : g 1722 l = nI n := (hml.2.2.2.1 (by omega)).trans (by rw [hn])
    have e22' : (mj_u2 g 1724 (8 * l + n) (nI 1)) 1722 l = nI n := (z_u2n (by decide)).trans e22
    have e22'' : (mj_u2 (mj_u2 g 1724 (8 * l + n) (nI 1)) 1725 (8 * l + n) y) 1722 l = nI n := (z_u2n (by decide)).trans e22'
    refine z_ixi hl (by decide) ?_
    rw [e22, z_mul, z_add]
    refine z_ixi (by omega) (by decide) (z_ixi hl (by decide) ?_)
    rw [e22', z_add]
    refine z_ixi (by omega) (by decide) (z_ixi hl (by decide) (z_ixi hl (by decide) (z_ixi hl (by decide) ?_)))
    rw [e22'', z_add, z_u2s]
    have hf : ∀ b k, ¬ (b = 1724 ∧ k = 8 * l + n) → ¬ (b = 1725 ∧ k = 8 * l + n) → ¬ (b = 1722 ∧ k = l) → (mj_u2 (mj_u2 (mj_u2 g 1724 (8 * l + n) (nI 1)) 1725 (8 * l + n) y) 1722 l (nI (n + 1))) b k = g b k := fun b k q1 q2 q3 => (z_uo q3).trans ((z_uo q2).trans (z_uo q1))
    have h24 : (mj_u2 (mj_u2 (mj_u2 g 1724 (8 * l + n) (nI 1)) 1725 (8 * l + n) y) 1722 l (nI (n + 1))) 1724 (8 * l + n) = nI 1 := (z_u2n (by decide)).trans ((z_u2n (by decide)).trans z_u2s)
    have h25 : (mj_u2 (mj_u2 (mj_u2 g 1724 (8 * l + n) (nI 1)) 1725 (8 * l + n) y) 1722 l (nI (n + 1))) 1725 (8 * l + n) = y := (z_u2n (by decide)).trans z_u2s
    have h22 : (mj_u2 (mj_u2 (mj_u2 g 1724 (8 * l + n) (nI 1)) 1725 (8 * l + n) y) 1722 l (nI (n + 1))) 1722 l = nI (n + 1) := z_u2s
    generalize mj_u2 (mj_u2 (mj_u2 g 1724 (8 * l + n) (nI 1)) 1725 (8 * l + n) y) 1722 l (nI (n + 1)) = f' at hf h24 h25 h22 ⊢
    have nr : ∀ a, ¬ R_d a → a ≠ 1715 ∧ ¬ (1720 ≤ a ∧ a ≤ 1727) := fun a q => ⟨fun t => q (Or.inl t), fun t => q (Or.inr t)⟩
    have F2 : mw no_R no_R R_d g f' := ⟨fun a k q1 q2 q3 => by have := nr a q3; exact hf a k (by omega) (by omega) (by omega), fun k q => hf _ k (by omega) (by omega) (by omega), fun a k q1 q2 _ => hf a k (by omega) (by omega) (by omega), fun k _ => hf _ k (by omega) (by omega) (by omega)⟩
    refine hK f' _ (LM_v k0 F2 (fun j q => q.elim) ⟨(hf _ _ (by omega) (by omega) (by omega)).trans k0.2.2.2.2.1.1, fun k hk => (hf _ _ (by omega) (by omega) (by omega)).trans (k0.2.2.2.2.1.2 k hk)⟩ (ml_item hml hrt hn hrl hl rv_okN al0 (hf _ _ (by omega) (by omega) (by omega)) h22 h24 (fun _ => h25) (fun q => absurd q (by show ¬ 1 = 2; decide)) (fun k hk => ⟨fun b q1 q2 => hf b _ (by omega) (by omega) (by omega), fun j hj => hf _ _ (by omega) (by omega) (by omega)⟩)) (fun y hy hyl => ⟨fun b q1 q2 => hf b y (by omega) (by omega) (by omega), fun k hk => hf _ _ (by omega) (by omega) (by omega), fun k hk => ⟨fun b q1 q2 => hf b _ (by omega) (by omega) (by omega), fun z hz => hf _ _ (by omega) (by omega) (by omega)⟩⟩)) (rJ_v rfl ((hf _ _ (by omega) (by omega) (by omega)).trans z0))
theorem op_addText {c : Nat} (hc : c < 65536) : opJ (fun d G K => Tq_addText d (nI c) G K) (fun Gm d f K => m_addText Gm d (nI c) f K) cA := fun s hs => by
  have hn80 := hs.2.1.1
  rcases le_x hc with ⟨l, hl, rfl, hq⟩ | hq
  case inr =>
    refine ⟨s, .inr 15, hs, fun _ q => (by cases q; decide), fun d ρ G K hd h hK => ?_, fun Gm d f K hd hM h hK => ?_⟩
    · obtain ⟨d, rfl⟩ : ∃ y, d = y + 1 := ⟨d - 1, by omega⟩
      obtain ⟨a1, a2⟩ := LC_al (kd := 16) (len := 6) h (by decide)
      refine w_Tq_addText h.1.1 (by omega) (by omega) ?_
      rw [q_let]
      exact z_bf hq (hK ρ _ a1 (yR_F a2 (by decide) (by decide)))
    · obtain ⟨d, rfl⟩ : ∃ y, d = y + 2 := ⟨d - 2, by omega⟩
      exact w_m_addText hM (w_m_errorOfItem hM (by omega) (z_bf hq (w_m_holds hM (z_bf (by decide) (z_bf (by decide) (hK _ _ (LM_0 h) (rJ_x z_u2s)))))))
  by_cases hb : hr_b (u_D (ls_u s)) l = true
  case neg =>
    refine ⟨s, .inr 16, hs, fun _ q => (by cases q; decide), fun d ρ G K hd h hK => ?_, fun Gm d f K hd hM h hK => ?_⟩
    · obtain ⟨d, rfl⟩ : ∃ y, d = y + 1 := ⟨d - 1, by omega⟩
      obtain ⟨a1, a2⟩ := LC_al (kd := 17) (len := 6) h (by decide)
      refine w_Tq_addText h.1.1 (by omega) (by omega) ?_
      rw [q_let, z_sub (by omega), Nat.add_sub_cancel_left]
      exact z_bt hq (c_room h.1 hl (z_bf hb (hK ρ _ a1 (yR_F a2 (by decide) (by decide)))))
    · obtain ⟨d, rfl⟩ : ∃ y, d = y + 2 := ⟨d - 2, by omega⟩
      refine w_m_addText hM (p_room hM h.1.2.2.1 hl (by omega) ?_)
      rw [if_neg hb]
      exact w_m_holds hM (z_bf (by decide) (z_bf (by decide) (hK _ _ (LM_0 h) (rJ_x z_u2s))))
  obtain ⟨hrt, hrl⟩ := hr_t hb
  generalize hn : rv_l (u_D (ls_u s) l) = n at hrl
  obtain ⟨m1, m2, m3⟩ := mn2_le (a := ls_n s) (b := 40)
  generalize hm : mn2 (ls_n s) 40 = m at m1 m2 m3
  have okv := rv_Tok hs.2.1 m1
  have al0 : rv_t (rv_T m (ls_w s) false) = 1 ∨ (rv_t (rv_T m (ls_w s) false) = 2 ∧ rv_s (rv_T m (ls_w s) false) = false ∧ rv_l (rv_T m (ls_w s) false) ≤ 40) := Or.inr ⟨rfl, rfl, m2⟩
  refine ⟨ls_v s l (rv_L l (n + 1)) (g_u (u_I (ls_u s) l) n (rv_T m (ls_w s) false)) 0 (fun _ => 0), .inl (nI (n + 1)), LQ_item hs hl hrt hn hrl okv al0 tx_W0, fun _ q => (by cases q), fun d ρ G K hd h hK => ?_, fun Gm d f K hd hM h hK => ?_⟩
  · obtain ⟨d, rfl⟩ : ∃ y, d = y + 1 := ⟨d - 1, by omega⟩
    have hG := hh_n h.1
    refine iv_cI (iv_hb h.1.2.2.1) ?_
    show Tq_addText (d + 1) (nI (97 + l)) G (fun r G' => iv_J (mj_u G) G' → K r G')
    refine w_Tq_addText h.1.1 (by omega) (by omega) ?_
    rw [q_let, z_sub (by omega), Nat.add_sub_cancel_left]
    refine z_bt hq (c_room h.1 hl (z_bt hb (c_take h hn80 (by omega) (fun G6 s6 F6 n6 u6 ht => ?_))))
    rw [hm] at ht
    obtain ⟨b1, b2, b3, b4, b5, b6, b7, b8⟩ := ht
    have ne3 : mj_n G ≠ 3 := by omega
    refine c_item (cc := 3) h hl hrt hn hrl (f3_t (f3_fn F6) f3_3) (cs_pI s6) ⟨z_iIs, fun k hk => absurd hk (Nat.not_lt_zero k)⟩ (by show mj_n G6 ≤ _; omega) (by decide) (by show mj_u G6 ≤ _; omega) (Nat.le_refl _) (by show mj_n G < mj_n G6; omega) b1 okv al0 (fun Gz Fz => ?_) (by omega) (fun ρ' G' b1 b2 => hK _ _ b1 b2)
    have nG : mj_n (mj_pI G6 3 1 (nI 0)) = mj_n G6 := rfl
    obtain ⟨x1, x2, x3, x4⟩ := Fz.2 (mj_n G) (by omega)
    obtain ⟨y1, y2, y3, y4⟩ := Fz.2 (mj_n G + 2) (by omega)
    have x4' : ∀ j, mj_i Gz (mj_n G) j = mj_i G6 (mj_n G) j := fun j => (x4 j).trans (z_iIn ne3)
    have er : mj_r Gz (mj_n G) 3 = mj_n G + 2 := (x3 3).trans b5
    refine ⟨x1.trans b1, by rw [x4', b3]; exact Or.inl rfl, (x4' 0).trans (b2.trans rfl), fun q => absurd q (by show ¬ 2 = 1; decide), fun _ => ⟨(x4' 4).trans b4, (x4' 2).trans b3, ?_, ?_, ?_, ?_, ?_, fun j hj => ?_⟩, fun q => absurd q (by show ¬ 2 = 3; decide)⟩
    · rw [er]; exact ro_0i (by omega) (by omega)
    · rw [er]; omega
    · rw [er]; have := Fz.1; omega
    · rw [er]; exact y1.trans b6
    · rw [er, y2]; exact Nat.le_of_eq b7.symm
    · rw [er, y4, z_iIn (by omega)]; exact b8 j hj
  · obtain ⟨d, rfl⟩ : ∃ y, d = y + 2 := ⟨d - 2, by omega⟩
    refine w_m_addText hM (p_room hM h.1.2.2.1 hl (by omega) ?_)
    rw [if_pos hb]
    refine w_m_holds hM (z_bt rfl (z_bt rfl ?_))
    rw [z_sub (by omega), Nat.add_sub_cancel_left]
    have k0 := LM_0 (x := nI 0) h
    have z0 : (mj_u2 f 1714 0 (nI 0)) 1714 0 = nI 0 := z_u2s
    generalize mj_u2 f 1714 0 (nI 0) = g at k0 z0 ⊢
    have hml := ml_of k0.1.2.2.1 hl
    have e22 : g 1722 l = nI n := (hml.2.2.2.1 (by omega)).trans (by rw [hn])
    have eT : (mj_u2 g 1724 (8 * l + n) (nI 2)) 1714 2 = nI (ls_n s) := (z_u2n (by decide)).trans k0.2.2.2.2.1.1
    have go : ∀ j i f1, i + j = m → (∀ b k, ¬ (b = 1727 ∧ 40 * (8 * l + n) ≤ k ∧ k < 40 * (8 * l + n) + 40) → f1 b k = (mj_u2 (mj_u2 g 1724 (8 * l + n) (nI 2)) 1726 (8 * l + n) (nI m)) b k) → (∀ k, k < i → f1 1727 (40 * (8 * l + n) + k) = nI (ls_w s k)) → m_addText_65 Gm (d + 1 + 1) (nI l) (nI (8 * l + n)) (nI i) f1 K := fun j => by
      induction j with
      | zero =>
        intro i f1 hi F1 hc1
        have hi' : i = m := by omega
        subst hi'
        have e26 : f1 1726 (8 * l + n) = nI i := (F1 _ _ (by omega)).trans z_u2s
        have e22f : (mj_u2 f1 1714 2 (nI 0)) 1722 l = nI n := (z_u2n (by decide)).trans ((F1 _ _ (by omega)).trans ((z_u2n (by decide)).trans ((z_u2n (by decide)).trans e22)))
        refine w_m_addText_65 hM (z_ixi (by omega) (by decide) (z_bt (by rw [e26, z_le (by omega) (by omega)]; exact Nat.le_refl _) (z_ixi hl (by decide) (z_ixi hl (by decide) (z_ixi hl (by decide) ?_)))))
        rw [e22f, z_add, z_u2s]
        have hf : ∀ b k, ¬ (b = 1727 ∧ 40 * (8 * l + n) ≤ k ∧ k < 40 * (8 * l + n) + 40) → ¬ (b = 1724 ∧ k = 8 * l + n) → ¬ (b = 1726 ∧ k = 8 * l + n) → ¬ (b = 1722 ∧ k = l) → ¬ (b = 1714 ∧ k = 2) → (mj_u2 (mj_u2 f1 1714 2 (nI 0)) 1722 l (nI (n + 1))) b k = g b k := fun b k q0 q1 q2 q3 q4 => (z_uo q3).trans ((z_uo q4).trans ((F1 b k q0).trans ((z_uo q2).trans (z_uo q1))))
        have h24 : (mj_u2 (mj_u2 f1 1714 2 (nI 0)) 1722 l (nI (n + 1))) 1724 (8 * l + n) = nI 2 := (z_u2n (by decide)).trans ((z_u2n (by decide)).trans ((F1 _ _ (by omega)).trans ((z_u2n (by decide)).trans z_u2s)))
        have h26 : (mj_u2 (mj_u2 f1 1714 2 (nI 0)) 1722 l (nI (n + 1))) 1726 (8 * l + n) = nI i := (z_u2n (by decide)).trans ((z_u2n (by decide)).trans e26)
        have h27 : ∀ k, k < i → (mj_u2 (mj_u2 f1 1714 2 (nI 0)) 1722 l (nI (n + 1))) 1727 (40 * (8 * l + n) + k) = nI (ls_w s k) := fun k hk => (z_u2n (by decide)).trans ((z_u2n (by decide)).trans (hc1 k hk))
        have h22 : (mj_u2 (mj_u2 f1 1714 2 (nI 0)) 1722 l (nI (n + 1))) 1722 l = nI (n + 1) := z_u2s
        have h2 : (mj_u2 (mj_u2 f1 1714 2 (nI 0)) 1722 l (nI (n + 1))) 1714 2 = nI 0 := (z_u2n (by decide)).trans z_u2s
        generalize mj_u2 (mj_u2 f1 1714 2 (nI 0)) 1722 l (nI (n + 1)) = f' at hf h24 h26 h27 h22 h2 ⊢
        have nr : ∀ a, ¬ R_d a → a ≠ 1715 ∧ ¬ (1720 ≤ a ∧ a ≤ 1727) := fun a q => ⟨fun t => q (Or.inl t), fun t => q (Or.inr t)⟩
        have F2 : mw no_R (fun j => j = 2) R_d g f' := ⟨fun a k q1 q2 q3 => by have := nr a q3; exact hf a k (by omega) (by omega) (by omega) (by omega) (by omega), fun k q => hf _ k (by omega) (by omega) (by omega) (by omega) (by omega), fun a k q1 q2 _ => hf a k (by omega) (by omega) (by omega) (by omega) (by omega), fun k _ => hf _ k (by omega) (by omega) (by omega) (by omega) (by omega)⟩
        refine hK f' _ (LM_v k0 F2 (fun j q => Or.inr q) ⟨h2, fun k hk => absurd hk (Nat.not_lt_zero k)⟩ (ml_item hml hrt hn hrl hl okv al0 (hf _ _ (by omega) (by omega) (by omega) (by omega) (by omega)) h22 h24 (fun q => absurd q (by show ¬ 2 = 1; decide)) (fun _ => ⟨h26, h27⟩) (fun k hk => ⟨fun b q1 q2 => hf b _ (by omega) (by omega) (by omega) (by omega) (by omega), fun j hj => hf _ _ (by omega) (by omega) (by omega) (by omega) (by omega)⟩)) (fun y hy hyl => ⟨fun b q1 q2 => hf b y (by omega) (by omega) (by omega) (by omega) (by omega), fun k hk => hf _ _ (by omega) (by omega) (by omega) (by omega) (by omega), fun k hk => ⟨fun b q1 q2 => hf b _ (by omega) (by omega) (by omega) (by omega) (by omega), fun z hz => hf _ _ (by omega) (by omega) (by omega) (by omega) (by omega)⟩⟩)) (rJ_v rfl ((hf _ _ (by omega) (by omega) (by omega) (by omega) (by omega)).trans z0))
      | succ j ih =>
        intro i f1 hi F1 hc1
        have e26 : f1 1726 (8 * l + n) = nI m := (F1 _ _ (by omega)).trans z_u2s
        refine w_m_addText_65 hM (z_ixi (by omega) (by decide) (z_bf (by rw [e26, z_le (by omega) (by omega)]; omega) (z_ixi (by omega) (by decide) ?_)))
        rw [z_mul, z_add, z_add, show f1 1715 i = nI (ls_w s i) from (F1 _ _ (by omega)).trans ((z_u2n (by decide)).trans ((z_u2n (by decide)).trans (k0.2.2.2.2.1.2 i (by omega))))]
        refine z_ixi (by omega) (by decide) (ih (i + 1) _ (by omega) (fun b k q => (z_uo (fun t => q (by omega))).trans (F1 b k q)) (fun k hk => ?_))
        by_cases q : k = i
        · rw [q]; exact z_u2s
        · exact (z_uo (fun t => by omega)).trans (hc1 k (by omega))
    have start := go m 0 _ (by omega) (fun _ _ _ => rfl) (fun k hk => absurd hk (Nat.not_lt_zero k))
    refine z_ixi hl (by decide) ?_
    rw [e22, z_mul, z_add]
    refine z_ixi (by omega) (by decide) ?_
    rw [eT, z_le (by decide) (by omega)]
    refine z_br (fun q => z_ixi (by omega) (by decide) ?_) (fun q => z_ixi (by omega) (by decide) ?_)
    · rw [show m = 40 by omega] at start
      exact start
    · rw [show m = ls_n s by omega] at start
      exact start
end ZZZ9
