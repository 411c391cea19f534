/-! THE CALLS OF THE LAW: number, list, clear -/
def rU : Unit ⊕ Nat → Int32 ⊕ Nat
  | .inl _ => .inl (nI 0)
  | .inr k => .inr k
def rZ : Bool ⊕ Nat → Int32 ⊕ Nat
  | .inl b => .inl (bI b)
  | .inr k => .inr k
/-- new cells are never written -/
def ro_0 (ρ : Nat → Nat) (n : Nat) : Nat → Nat := fun x => if x < n then ρ x else 0
theorem ro_0e {ρ : Nat → Nat} {G : mj_G} : ro_e ρ (ro_0 ρ (mj_n G)) G := fun _ ha => if_pos ha
theorem ro_0i {ρ : Nat → Nat} {n a : Nat} (h : 1768 ≤ a) (h2 : n ≤ a) : imm (ro_0 ρ n) a := by
  unfold imm
  rw [ow_d h]
  show im_o (if a < n then ρ a else 0)
  rw [if_neg (by omega)]
  exact Or.inl rfl
theorem ro_0o {ρ : Nat → Nat} {n a : Nat} (h2 : a < n) : imm (ro_0 ρ n) a = imm ρ a := by
  unfold imm ow ro_0
  rw [if_pos h2]
theorem z_uo {f : mm_F} {a b j k : Nat} {v : Int32} (h : ¬ (b = a ∧ j = k)) : mj_u2 f a k v b j = f b j := if_neg h
section ZZZ1
variable {s : lst} {ρ ρ' : Nat → Nat} {G G1 G' : mj_G} {f f' : mm_F} {n c x l a : Nat} {w z : Nat → Nat} {d : Nat} {v : rv} {it : Nat → rv}
theorem op_number {c : Nat} (hc : c < 65536) {y : Int32} : opJ (fun d G K => Tq_number d (nI c) y G (fun r G' => K (rU r) G')) (fun Gm d f K => m_number Gm d (nI c) y f (fun f' => K (nI 0) f')) c15 := fun s hs => by
  rcases le_x hc with ⟨l, hl, rfl, hq⟩ | hq
  case inr =>
    refine ⟨s, .inr 15, hs, fun _ q => (by cases q; decide), fun d ρ G K hd h hK => ?_, fun Gm d f K hd hM h hK => ?_⟩
    · obtain ⟨d, rfl⟩ : ∃ y, d = y + 1 := ⟨d - 1, by omega⟩
      obtain ⟨a1, a2⟩ := LC_al (kd := 16) (len := 6) h (by decide)
      refine w_Tq_number h.1.1 (by omega) (by omega) ?_
      rw [q_let]
      exact z_bf hq (hK ρ _ a1 (yR_F a2 (by decide) (by decide)))
    · obtain ⟨d, rfl⟩ : ∃ y, d = y + 1 := ⟨d - 1, by omega⟩
      exact w_m_number hM (by omega) (z_bf hq (w_m_holds hM (z_bf (by decide) (z_bf (by decide) (hK _ _ (LM_0 h) (rJ_x z_u2s))))))
  have t2 : ¬ rv_t (rv_N y) = 2 := by show ¬ 1 = 2; decide
  have t3 : ¬ rv_t (rv_N y) = 3 := by show ¬ 1 = 3; decide
  refine ⟨ls_v s l (rv_N y) (u_I (ls_u s) l) (ls_n s) (ls_w s), .inl (nI 0), LQ_v hs rv_okN (fun q => absurd q t3) hs.2.1, fun _ q => (by cases q), fun d ρ G K hd h hK => ?_, fun Gm d f K hd hM h hK => ?_⟩
  · obtain ⟨d, rfl⟩ : ∃ y, d = y + 1 := ⟨d - 1, by omega⟩
    have hG := hh_n h.1
    refine iv_cV (iv_hb h.1.2.2.1) ?_
    show Tq_number (d + 1) (nI (97 + l)) y G (fun r G' => iv_J (mj_u G) G' → K (rU r) G')
    refine w_Tq_number h.1.1 (by omega) (by omega) ?_
    rw [q_let, z_sub (by omega), Nat.add_sub_cancel_left]
    refine z_bt hq (c_newV h.1.1 (fun G2 hv2 => ?_))
    obtain ⟨v1, v2, v3, v4, v5, v6, v7, v8, v9, v10, v11⟩ := hv2
    refine ⟨v5, w_Va_setNumber v1 ⟨v5, ?_⟩⟩
    intro G3 e3 G4 e4
    have F4 : fn_F G G4 := by rw [e4, e3]; exact fn_I (fn_I v2 (Nat.le_refl _)) (Nat.le_refl _)
    have k4 : mj_k G4 (mj_n G) = 12 := by rw [e4, e3]; exact v5
    refine z_ixi hl (by decide) ⟨Or.inr (by rw [k4, (F4.2 12 (by omega)).1, cs_k (K := 41) h.1.1 rfl]), ?_⟩
    rintro _ rfl hJ
    refine c_dat (G := G4) (ρ' := ro_0 ρ (mj_n G)) (cc := 2) (e := 8) (K := K (rU (.inl ()))) h hJ F4 (by rw [e4, e3]; exact cs_pI (cs_pI v1)) (by rw [e4, e3]; exact Nat.le_of_eq v3) (by rw [e4, e3]; exact Nat.le_of_eq v4) (by decide) (by decide) hl ro_0e ⟨ro_0i hG (Nat.le_refl _), ?_, hG, rv_okN, k4, ?_, ?_, fun _ => ?_, fun q => absurd q t2, fun q => absurd q t3⟩ (fun G' b1 b2 _ _ _ => hK _ _ b1 b2)
    · rw [e4, e3]; show mj_n G < mj_n G2; omega
    · rw [e4, z_iIm (by decide), e3, z_iIm (by decide), v7]; exact Or.inl rfl
    · rw [e4, z_iIm (by decide), e3, z_iIs]; rfl
    · rw [e4, z_iIs]; rfl
  · obtain ⟨d, rfl⟩ : ∃ y, d = y + 1 := ⟨d - 1, by omega⟩
    refine w_m_number hM (by omega) (z_bt hq (w_m_holds hM (z_bt rfl (z_bt rfl ?_))))
    rw [z_sub (by omega), Nat.add_sub_cancel_left]
    refine z_ixi hl (by decide) (z_ixi hl (by decide) (hK _ _ ?_ (rJ_v rfl ((z_u2n (by decide)).trans ((z_u2n (by decide)).trans z_u2s)))))
    have k0 := LM_0 (x := nI 0) h
    generalize mj_u2 f 1714 0 (nI 0) = f0' at k0 ⊢
    refine LM_v (P := no_R) (S1 := no_R) k0 (mw_t (mw_R (by decide) (by unfold R_d; decide)) (mw_R (by decide) (by unfold R_d; decide))) (fun _ q => q.elim) ⟨(z_u2n (by decide)).trans ((z_u2n (by decide)).trans k0.2.2.2.2.1.1), fun k hk => (z_u2n (by decide)).trans ((z_u2n (by decide)).trans (k0.2.2.2.2.1.2 k hk))⟩ ⟨rv_okN, (z_u2n (by decide)).trans z_u2s, fun _ => z_u2s, fun q => absurd q (by show ¬ 2 ≤ 1; decide), fun q => absurd q t2, fun q => absurd q t3⟩ (fun m hm hml => ⟨fun b _ _ => (z_uo (fun t => hml t.2)).trans (z_uo (fun t => hml t.2)), fun j _ => (z_u2n (by decide)).trans (z_u2n (by decide)), fun k _ => ⟨fun b q1 q2 => (z_u2n (by omega)).trans (z_u2n (by omega)), fun j _ => (z_u2n (by decide)).trans (z_u2n (by decide))⟩⟩)
theorem op_list {c : Nat} (hc : c < 65536) : opJ (fun d G K => Tq_list d (nI c) G (fun r G' => K (rU r) G')) (fun Gm d f K => m_list Gm d (nI c) f (fun f' => K (nI 0) f')) c15 := fun s hs => by
  rcases le_x hc with ⟨l, hl, rfl, hq⟩ | hq
  case inr =>
    refine ⟨s, .inr 15, hs, fun _ q => (by cases q; decide), fun d ρ G K hd h hK => ?_, fun Gm d f K hd hM h hK => ?_⟩
    · obtain ⟨d, rfl⟩ : ∃ y, d = y + 1 := ⟨d - 1, by omega⟩
      obtain ⟨a1, a2⟩ := LC_al (kd := 16) (len := 6) h (by decide)
      refine w_Tq_list h.1.1 (by omega) (by omega) ?_
      rw [q_let]
      exact z_bf hq (hK ρ _ a1 (yR_F a2 (by decide) (by decide)))
    · obtain ⟨d, rfl⟩ : ∃ y, d = y + 1 := ⟨d - 1, by omega⟩
      exact w_m_list hM (by omega) (z_bf hq (w_m_holds hM (z_bf (by decide) (z_bf (by decide) (hK _ _ (LM_0 h) (rJ_x z_u2s))))))
  have t1 : ¬ rv_t (rv_L l 0) = 1 := by show ¬ 3 = 1; decide
  have t2 : ¬ rv_t (rv_L l 0) = 2 := by show ¬ 3 = 2; decide
  have okv : rv_ok (rv_L l 0) := ⟨Nat.le_refl 3, fun q => absurd q (by show ¬ 3 ≤ 1; decide), fun _ => rfl, fun q => absurd q t2, fun _ => ⟨Nat.zero_le 8, hl⟩⟩
  refine ⟨ls_v s l (rv_L l 0) (u_I (ls_u s) l) (ls_n s) (ls_w s), .inl (nI 0), LQ_v hs okv (fun _ => ⟨rfl, fun k hk => absurd hk (Nat.not_lt_zero k)⟩) hs.2.1, fun _ q => (by cases q), fun d ρ G K hd h hK => ?_, fun Gm d f K hd hM h hK => ?_⟩
  · obtain ⟨d, rfl⟩ : ∃ y, d = y + 1 := ⟨d - 1, by omega⟩
    have hG := hh_n h.1
    refine iv_cV (iv_hb h.1.2.2.1) ?_
    show Tq_list (d + 1) (nI (97 + l)) G (fun r G' => iv_J (mj_u G) G' → K (rU r) G')
    refine w_Tq_list h.1.1 (by omega) (by omega) ?_
    rw [q_let, z_sub (by omega), Nat.add_sub_cancel_left]
    refine z_bt hq (c_newV h.1.1 (fun G2 hv2 => ?_))
    obtain ⟨v1, v2, v3, v4, v5, v6, v7, v8, v9, v10, v11⟩ := hv2
    intro G3 e3
    have S3 : cs_S G3 := by rw [e3]; exact cs_al v1
    have k3 : mj_k G3 (mj_n G) = 12 := by rw [e3, z_kAn (by omega)]; exact v5
    refine ⟨k3, w_Va_setItems S3 ⟨k3, ?_⟩⟩
    intro G4 e4 G5 e5
    have F5 : fn_F G G5 := by rw [e5, e4, e3]; exact fn_R (fn_I (fn_A v2) (Nat.le_refl _)) (Nat.le_refl _)
    have k5 : mj_k G5 (mj_n G) = 12 := by rw [e5, e4]; exact k3
    have n5 : mj_n G5 = mj_n G2 + 1 := by rw [e5, e4, e3]; rfl
    have kk5 : mj_k G5 (mj_n G2) = 41 := by rw [e5, e4, e3]; exact z_kAs (len := 0) (row := fun _ => 0)
    have ll5 : mj_l G5 (mj_n G2) = 0 := by rw [e5, e4, e3]; exact z_lAs (kd := 41) (row := fun _ => 0)
    have r5 : mj_r G5 (mj_n G) 5 = mj_n G2 := by rw [e5]; exact z_rRs
    refine z_ixi hl (by decide) ⟨Or.inr (by rw [k5, (F5.2 12 (by omega)).1, cs_k (K := 41) h.1.1 rfl]), ?_⟩
    rintro _ rfl hJ
    refine c_dat (G := G5) (ρ' := ro_0 ρ (mj_n G)) (cc := 3) (e := 8) (K := K (rU (.inl ()))) h hJ F5 (by rw [e5, e4]; exact cs_pRg (cs_pI S3) hG) (by omega) (by rw [e5, e4, e3]; show mj_u G2 + 0 ≤ _; omega) (by decide) (by decide) hl ro_0e ⟨ro_0i hG (Nat.le_refl _), by omega, hG, okv, k5, ?_, ?_, fun q => absurd q t1, fun q => absurd q t2, fun _ => ⟨rfl, ?_, ?_, ?_, ?_, fun k hk => absurd hk (Nat.not_lt_zero k)⟩⟩ (fun G' b1 b2 _ _ _ => hK _ _ b1 b2)
    · rw [e5, z_iRa, e4, z_iIm (by decide), e3, z_iAn (by omega), v7]; exact Or.inl rfl
    · rw [e5, z_iRa, e4, z_iIs]; rfl
    · rw [r5]; exact ro_0i (by omega) (by omega)
    · rw [r5]; omega
    · rw [r5]; exact kk5
    · rw [r5]; exact ll5
  · obtain ⟨d, rfl⟩ : ∃ y, d = y + 1 := ⟨d - 1, by omega⟩
    refine w_m_list hM (by omega) (z_bt hq (w_m_holds hM (z_bt rfl (z_bt rfl ?_))))
    rw [z_sub (by omega), Nat.add_sub_cancel_left]
    refine z_ixi hl (by decide) (z_ixi hl (by decide) (hK _ _ ?_ (rJ_v rfl ((z_u2n (by decide)).trans ((z_u2n (by decide)).trans z_u2s)))))
    have k0 := LM_0 (x := nI 0) h
    generalize mj_u2 f 1714 0 (nI 0) = f0' at k0 ⊢
    refine LM_v (P := no_R) (S1 := no_R) k0 (mw_t (mw_R (by decide) (by unfold R_d; decide)) (mw_R (by decide) (by unfold R_d; decide))) (fun _ q => q.elim) ⟨(z_u2n (by decide)).trans ((z_u2n (by decide)).trans k0.2.2.2.2.1.1), fun k hk => (z_u2n (by decide)).trans ((z_u2n (by decide)).trans (k0.2.2.2.2.1.2 k hk))⟩ ⟨okv, (z_u2n (by decide)).trans z_u2s, fun q => absurd q t1, fun _ => z_u2s, fun q => absurd q t2, fun _ => ⟨rfl, fun k hk => absurd hk (Nat.not_lt_zero k)⟩⟩ (fun m hm hml => ⟨fun b _ _ => (z_uo (fun t => hml t.2)).trans (z_uo (fun t => hml t.2)), fun j _ => (z_u2n (by decide)).trans (z_u2n (by decide)), fun k _ => ⟨fun b q1 q2 => (z_u2n (by omega)).trans (z_u2n (by omega)), fun j _ => (z_u2n (by decide)).trans (z_u2n (by decide))⟩⟩)
theorem op_clear {c : Nat} (hc : c < 65536) : opJ (fun d G K => Tq_clear d (nI c) G (fun r G' => K (rZ r) G')) (fun Gm d f K => m_clear Gm d (nI c) f (fun b f' => K (bI b) f')) c15 := fun s hs => by
  rcases le_x hc with ⟨l, hl, rfl, hq⟩ | hq
  case inr =>
    refine ⟨s, .inr 15, hs, fun _ q => (by cases q; decide), fun d ρ G K hd h hK => ?_, fun Gm d f K hd hM h hK => ?_⟩
    · obtain ⟨d, rfl⟩ : ∃ y, d = y + 1 := ⟨d - 1, by omega⟩
      obtain ⟨a1, a2⟩ := LC_al (kd := 16) (len := 6) h (by decide)
      refine w_Tq_clear h.1.1 (by omega) (by omega) ?_
      rw [q_let]
      exact z_bf hq (hK ρ _ a1 (yR_F a2 (by decide) (by decide)))
    · obtain ⟨d, rfl⟩ : ∃ y, d = y + 1 := ⟨d - 1, by omega⟩
      exact w_m_clear hM (by omega) (z_bf hq (w_m_holds hM (z_bf (by decide) (z_bf (by decide) (hK _ _ (LM_0 h) (rJ_x z_u2s))))))
  have t1 : ¬ rv_t rv_0 = 1 := by decide
  have t2 : ¬ rv_t rv_0 = 2 := by decide
  have t3 : ¬ rv_t rv_0 = 3 := by decide
  have hD3 := (hs.1.1 l hl).1.1
  refine ⟨ls_v s l rv_0 (u_I (ls_u s) l) (ls_n s) (ls_w s), .inl (bI (!decide (rv_t (u_D (ls_u s) l) = 0))), LQ_v hs rv_ok0 (fun q => absurd q t3) hs.2.1, fun _ q => (by cases q), fun d ρ G K hd h hK => ?_, fun Gm d f K hd hM h hK => ?_⟩
  · obtain ⟨d, rfl⟩ : ∃ y, d = y + 1 := ⟨d - 1, by omega⟩
    have hG := hh_n h.1
    refine iv_cZ (iv_hb h.1.2.2.1) ?_
    show Tq_clear (d + 1) (nI (97 + l)) G (fun r G' => iv_J (mj_u G) G' → K (rZ r) G')
    refine w_Tq_clear h.1.1 (by omega) (by omega) ?_
    rw [q_let, z_sub (by omega), Nat.add_sub_cancel_left]
    obtain ⟨-, -, cvl, -⟩ := h.1.2.2.2 l hl
    have go : ∀ b : Bool, b = !decide (rv_t (u_D (ls_u s) l) = 0) → ∀ G4, G4 = mj_al G 12 8 (fun _ => 0) → Va_init d (mj_n G) G4 (fun G5 => mm_ix (nI l) 26 (fun n6 => ((mj_n G) = 0 ∨ mj_k G5 (mj_n G) + 29 = mj_k G5 12) ∧ ∀ G9, G9 = mj_pR G5 12 n6 (mj_n G) → (fun r G' => iv_J (mj_u G) G' → K (rZ r) G') (.inl b) G9)) := fun b hb => by
      refine c_newV h.1.1 (fun G2 hv2 => ?_)
      obtain ⟨v1, v2, v3, v4, v5, v6, v7, v8, v9, v10, v11⟩ := hv2
      refine z_ixi hl (by decide) ⟨Or.inr (by rw [v5, (v2.2 12 (by omega)).1, cs_k (K := 41) h.1.1 rfl]), ?_⟩
      rintro _ rfl hJ
      exact c_dat (G := G2) (ρ' := ro_0 ρ (mj_n G)) (cc := 2) (e := 8) (K := K (rZ (.inl b))) h hJ v2 v1 (by omega) (by omega) (by decide) (by decide) hl ro_0e ⟨ro_0i hG (Nat.le_refl _), by omega, hG, rv_ok0, v5, by rw [v7]; exact Or.inl rfl, v6, fun q => absurd q t1, fun q => absurd q t2, fun q => absurd q t3⟩ (fun G' b1 b2 _ _ _ => by rw [hb]; exact hK _ _ b1 b2)
    have e1 : (mj_i G (mj_r G 12 l) 0 = nI 1) = (rv_t (u_D (ls_u s) l) = 0) := by
      rw [cvl.2.2.1]
      generalize rv_t (u_D (ls_u s) l) = t at hD3
      rcases (by omega : t = 0 ∨ t = 1 ∨ t = 2 ∨ t = 3) with rfl | rfl | rfl | rfl <;> exact propext (by decide)
    refine z_bt hq (z_ixi hl (by decide) ⟨cvl.1, z_br (fun q => go false ?_) (fun q => go true ?_)⟩)
    · rw [e1] at q
      simp [q]
    · rw [e1] at q
      simp [q]
  · obtain ⟨d, rfl⟩ : ∃ y, d = y + 1 := ⟨d - 1, by omega⟩
    refine w_m_clear hM (by omega) (z_bt hq (w_m_holds hM (z_bt rfl (z_bt rfl ?_))))
    rw [z_sub (by omega), Nat.add_sub_cancel_left]
    have k0 := LM_0 (x := nI 0) h
    have z0 : (mj_u2 f 1714 0 (nI 0)) 1714 0 = nI 0 := z_u2s
    generalize mj_u2 f 1714 0 (nI 0) = f0' at k0 z0 ⊢
    have et := (ml_of k0.1.2.2.1 hl).2.1
    have hk : LM (ls_v s l rv_0 (u_I (ls_u s) l) (ls_n s) (ls_w s)) (mj_u2 f0' 1720 l (nI 0)) := LM_v (P := no_R) (S1 := no_R) k0 (mw_R (by decide) (by unfold R_d; decide)) (fun _ q => q.elim) ⟨(z_u2n (by decide)).trans k0.2.2.2.2.1.1, fun k hk => (z_u2n (by decide)).trans (k0.2.2.2.2.1.2 k hk)⟩ ⟨rv_ok0, z_u2s, fun q => absurd q t1, fun q => absurd q (by decide), fun q => absurd q t2, fun q => absurd q t3⟩ (fun m hm hml => ⟨fun b _ _ => z_uo (fun t => hml t.2), fun j _ => z_u2n (by decide), fun k _ => ⟨fun b q1 q2 => z_u2n (by omega), fun j _ => z_u2n (by decide)⟩⟩)
    refine z_ixi hl (by decide) ?_
    rw [et, show (nI (rv_t (u_D (ls_u s) l)) = nI 0) = (rv_t (u_D (ls_u s) l) = 0) from z_eq (by omega) (by decide)]
    refine z_br (fun q => z_ixi hl (by decide) (hK _ _ hk (rJ_v ?_ ((z_u2n (by decide)).trans z0)))) (fun q => z_ixi hl (by decide) (hK _ _ hk (rJ_v ?_ ((z_u2n (by decide)).trans z0))))
    · simp [q]
    · simp [q]
end ZZZ1
