/-! THE CALLS OF THE LAW: budget, shapes, fragments kept, the output -/
/-- the world with another budget -/
def wo_b (u : wo) (b : Nat) : wo := (u.1, u.2.1, (u.2.2.1.1, u.2.2.1.2.1, b), u.2.2.2)
def ls_e (s : lst) (b : Nat) : lst := (wo_b s.1 b, s.2)
section ZZZ2
variable {s : lst} {ρ ρ' : Nat → Nat} {G G1 G' : mj_G} {f f' : mm_F} {n c x l a b : Nat} {w z : Nat → Nat} {d : Nat} {v : rv} {it : Nat → rv} {o : ost} {nb : Nat} {cb : Nat → Nat}
theorem LC_e (h : LC s ρ G) : LC (ls_e s b) ρ (mj_pI G 6 6 (nI b)) := by
  obtain ⟨h1, h2, h3, h4, h5, h6, h7⟩ := h
  have hG := hh_n h1
  have hk : mj_k G 6 ≠ 12 := fun q => by rw [cs_k (K := 9) h1.1 rfl] at q; exact absurd q (by decide)
  have F : f0 ρ (fun o => o = 6) G (mj_pI G 6 6 (nI b)) := f0_fw (fw_I (ow_s (by decide)))
  exact ⟨hh_I h1 (by unfold imm im_o; rw [ow_s (by decide)]; decide) (fun _ q => absurd q hk), wY_f0 h1 h2 F ro_r (fun o q => by subst q; unfold im_o; decide), fgC_f0 h1 h3 F ro_r (fun o q => by subst q; unfold im_o gW; decide), yO_f h1 h4 F (fun o q => by subst q; unfold oW; decide), ⟨z_iIs, (z_iIm (by decide)).trans h5.2.1, (z_iIm (by decide)).trans h5.2.2⟩, yT_f hG h6 F ⟨by decide, by decide⟩, yS_f hG h7 F (by decide)⟩
theorem LM_e (h : LM s f) : LM (ls_e s b) (mj_u2 f 1714 67 (nI b)) := by
  obtain ⟨⟨w1, w2, w3, w4⟩, h2, h3, h4, h5, h6⟩ := h
  have F : mw no_R (fun j => j = 67) no_R f (mj_u2 f 1714 67 (nI b)) := mw_S rfl
  have r : ∀ a, a ≠ 1714 → (mj_u2 f 1714 67 (nI b)) a = f a := fun a ha => funext fun i => z_u2n ha
  refine ⟨⟨tL_f w1 F ⟨fun q => q, fun q => q⟩, mfo_f w2 F ⟨fun q => q, fun q => q⟩, ?_, z_u2s⟩, fgM_f h2 F (fun a q => q.elim), zO_f h3 F (fun j q => by omega) (fun a q => q.elim), ⟨(z_u2m (by decide)).trans h4.1, (z_u2m (by decide)).trans h4.2⟩, ⟨(z_u2m (by decide)).trans h5.1, fun k hk => (z_u2n (by decide)).trans (h5.2 k hk)⟩, fun i hi => (z_u2n (by decide)).trans (h6 i hi)⟩
  show md (mj_u2 f 1714 67 (nI b)) (u_D (ls_u s)) (u_I (ls_u s))
  unfold md at w3 ⊢
  rw [r 1720 (by decide), r 1721 (by decide), r 1722 (by decide), r 1723 (by decide), r 1724 (by decide), r 1725 (by decide), r 1726 (by decide), r 1727 (by decide)]
  exact w3
theorem op_budget {x : Int32} : opJ (fun d G K => Tq_budget d x G K) (fun Gm d f K => m_budget Gm d x f K) c15 := fun s hs => by
  by_cases hx : ∃ b, 1 ≤ b ∧ b ≤ 2000 ∧ x = nI b
  case neg =>
    have hq : ¬ qb (q_13003 x (nI 1) (nI 2000)) = true := by
      by_cases h1 : x < nI 1
      · exact z_nin h1
      · obtain ⟨b, hb, rfl⟩ := z_nn (x := x) (fun q => h1 (Int32.lt_iff_toInt_lt.mpr (by rw [Int32.lt_iff_toInt_lt, nI_toInt (by decide)] at q; rw [nI_toInt (by decide)]; omega)))
        rw [z_in (by decide) (by decide) hb]
        exact fun q => hx ⟨b, q.1, q.2, rfl⟩
    refine ⟨s, .inr 15, hs, fun _ q => (by cases q; decide), fun d ρ G K hd h hK => ?_, fun Gm d f K hd hM h hK => ?_⟩
    · obtain ⟨a1, a2⟩ := LC_al (kd := 16) (len := 6) h (by decide)
      have hk := hK ρ _ a1 (yR_F a2 (by decide) (by decide))
      refine w_Tq_budget h.1.1 (by omega) (z_br (fun _ => hk) (fun q1 => z_br (fun q2 => ?_) (fun _ => hk)))
      exfalso
      obtain ⟨b, hb, rfl⟩ := z_nn (x := x) (fun q => q1 (Int32.lt_iff_toInt_lt.mpr (by rw [Int32.lt_iff_toInt_lt, nI_toInt (by decide)] at q; rw [nI_toInt (by decide)]; omega)))
      rw [z_lt hb (by decide)] at q1
      rw [z_le hb (by decide)] at q2
      exact hx ⟨b, by omega, q2, rfl⟩
    · obtain ⟨d, rfl⟩ : ∃ y, d = y + 1 := ⟨d - 1, by omega⟩
      exact w_m_budget hM (by omega) (z_bf hq (w_m_holds hM (z_bf (by decide) (z_bf (by decide) (hK _ _ (LM_0 h) (rJ_x z_u2s))))))
  obtain ⟨b, h1, h2, rfl⟩ := hx
  refine ⟨ls_e s b, .inl (nI (u_bu (ls_u s))), ⟨⟨hs.1.1, h2, hs.1.2.2⟩, hs.2⟩, fun _ q => (by cases q), fun d ρ G K hd h hK => ?_, fun Gm d f K hd hM h hK => ?_⟩
  · refine w_Tq_budget h.1.1 (by omega) ?_
    rw [z_lt (by omega) (by decide), z_le (by omega) (by decide)]
    refine z_bf (by omega) (z_bt h2 ?_)
    rintro _ rfl
    rw [h.2.2.2.2.1.1]
    exact hK ρ _ (LC_e h) (yR_F (yR_I (by decide)) (by decide) (by decide))
  · obtain ⟨d, rfl⟩ : ∃ y, d = y + 1 := ⟨d - 1, by omega⟩
    refine w_m_budget hM (by omega) ?_
    rw [z_in (by decide) (by decide) (by omega)]
    refine z_bt ⟨h1, h2⟩ (w_m_holds hM (z_bt rfl (z_bt rfl ?_)))
    have k0 := LM_0 (x := nI 0) h
    refine hK _ _ (LM_e k0) (rJ_v k0.1.2.2.2 ((z_u2m (by decide)).trans z_u2s))
theorem op_shape {c : Nat} (hc : c < 65536) {x : Int32} : opJ (fun d G K => Tq_shape d (nI c) x G K) (fun Gm d f K => m_shape Gm d (nI c) x f K) c15 := fun s hs => by
  by_cases hx : qb (q_13005 (nI c)) = true ∧ ∃ b, 1 ≤ b ∧ b ≤ 15 ∧ x = nI b
  case neg =>
    refine ⟨s, .inr 15, hs, fun _ q => (by cases q; decide), fun d ρ G K hd h hK => ?_, fun Gm d f K hd hM h hK => ?_⟩
    · obtain ⟨d, rfl⟩ : ∃ y, d = y + 1 := ⟨d - 1, by omega⟩
      obtain ⟨a1, a2⟩ := LC_al (kd := 16) (len := 6) h (by decide)
      have hk := hK ρ _ a1 (yR_F a2 (by decide) (by decide))
      refine w_Tq_shape h.1.1 (by omega) (by omega) (z_br (fun q0 => z_br (fun _ => hk) (fun q1 => z_br (fun q2 => ?_) (fun _ => hk))) (fun _ => hk))
      exfalso
      obtain ⟨b, hb, rfl⟩ := z_nn (x := x) (fun q => q1 (Int32.lt_iff_toInt_lt.mpr (by rw [Int32.lt_iff_toInt_lt, nI_toInt (by decide)] at q; rw [nI_toInt (by decide)]; omega)))
      rw [z_lt hb (by decide)] at q1
      rw [z_le hb (by decide)] at q2
      exact hx ⟨q0, b, by omega, q2, rfl⟩
    · obtain ⟨d, rfl⟩ : ∃ y, d = y + 1 := ⟨d - 1, by omega⟩
      have hk := hK _ 0 (LM_0 (x := nI 1) h) (rJ_x (k := 15) (c := c15) z_u2s)
      refine w_m_shape hM (by omega) (z_br (fun q0 => z_br (fun q1 => ?_) (fun _ => w_m_holds hM (z_bf (by decide) (z_bf (by decide) (hK _ _ (LM_0 h) (rJ_x z_u2s)))))) (fun _ => w_m_holds hM (z_bf (by decide) (z_bf (by decide) (hK _ _ (LM_0 h) (rJ_x z_u2s))))))
      exfalso
      by_cases h1 : x < nI 1
      · exact z_nin h1 q1
      · obtain ⟨b, hb, rfl⟩ := z_nn (x := x) (fun q => h1 (Int32.lt_iff_toInt_lt.mpr (by rw [Int32.lt_iff_toInt_lt, nI_toInt (by decide)] at q; rw [nI_toInt (by decide)]; omega)))
        rw [z_in (by decide) (by decide) hb] at q1
        exact hx ⟨q0, b, q1.1, q1.2, rfl⟩
  obtain ⟨hq, b, h1, h2, rfl⟩ := hx
  rcases le_x hc with ⟨l, hl, rfl, -⟩ | hq'
  case inr => exact absurd hq hq'
  refine ⟨ls_z s (ls_n s) (ls_w s) (g_u (ls_k s) l b), .inl (nI (ls_k s l)), ⟨hs.1, hs.2.1, fun i hi => ?_, hs.2.2.2⟩, fun _ q => (by cases q), fun d ρ G K hd h hK => ?_, fun Gm d f K hd hM h hK => ?_⟩
  · show g_u (ls_k s) l b i < 16
    by_cases q : i = l
    · rw [q, g_us]; omega
    · rw [g_un q]; exact hs.2.2.1 i hi
  · obtain ⟨d, rfl⟩ : ∃ y, d = y + 1 := ⟨d - 1, by omega⟩
    refine w_Tq_shape h.1.1 (by omega) (by omega) ?_
    rw [q_let, z_sub (by omega), Nat.add_sub_cancel_left, z_lt (by omega) (by decide), z_le (by omega) (by decide)]
    refine z_bt hq (z_bf (by omega) (z_bt h2 (z_ixi hl (by decide) (z_ixi hl (by decide) ?_))))
    rintro _ rfl
    rw [h.2.2.2.2.2.2 l hl]
    have hk : mj_k G 5 ≠ 12 := fun q => by rw [cs_k (K := 20) h.1.1 rfl] at q; exact absurd q (by decide)
    refine hK ρ _ (LC_g (W := fun o => o = 5) h (hh_I h.1 (by unfold imm im_o; rw [ow_s (by decide)]; decide) (fun _ q => absurd q hk)) (f0_fw (fw_I (ow_s (by decide)))) ro_r (fun o q => by subst q; unfold im_o gW oW; decide) ⟨(z_iIn (by decide)).trans h.2.2.2.2.2.1.1, fun k hk => (z_iIn (by decide)).trans (h.2.2.2.2.2.1.2 k hk)⟩ (fun i hi => ?_)) (yR_F (yR_I (by decide)) (by decide) (by decide))
    by_cases q : i = l
    · rw [q, g_us]; exact z_iIs
    · rw [g_un q]; exact (z_iIm q).trans (h.2.2.2.2.2.2 i hi)
  · obtain ⟨d, rfl⟩ : ∃ y, d = y + 1 := ⟨d - 1, by omega⟩
    refine w_m_shape hM (by omega) ?_
    rw [z_in (by decide) (by decide) (by omega), z_sub (by omega), Nat.add_sub_cancel_left]
    have k0 := LM_0 (x := nI 0) h
    refine z_bt hq (z_bt ⟨h1, h2⟩ (w_m_holds hM (z_bt rfl (z_bt rfl (z_ixi hl (by decide) (z_ixi hl (by decide) (hK _ _ ?_ (rJ_v (k0.2.2.2.2.2 l hl) ((z_u2n (by decide)).trans z_u2s)))))))))
    refine LM_g (P := no_R) (S1 := no_R) (R1 := fun a => a = 1763) k0 (mw_R (by decide) rfl) (fun j q => q.elim) (fun a q => Or.inr (Or.inl q)) ⟨(z_u2n (by decide)).trans k0.2.2.2.2.1.1, fun k hk => (z_u2n (by decide)).trans (k0.2.2.2.2.1.2 k hk)⟩ (fun i hi => ?_)
    by_cases q : i = l
    · rw [q, g_us]; exact z_u2s
    · rw [g_un q]; exact (z_u2m q).trans (k0.2.2.2.2.2 i hi)
/-- how many fragments are kept -/
def kp (F : Nat → kfr) : Nat → Nat
  | 0 => 0
  | i + 1 => kp F i + (if k_is (F i) = true then 1 else 0)
theorem op_kept : opJ (fun d G K => Tq_kept d G (fun v G' => K (.inl v) G')) (fun Gm d f K => m_kept Gm d f K) (fun _ => 0) := fun s hs => ⟨s, .inl (nI (kp (ls_F s) 10)), hs, fun _ q => (by cases q), fun d ρ G K hd h hK => by
  refine w_Tq_kept h.1.1 ?_
  have go : ∀ m i, i + m = 10 → Tq_kept_4 d (nI (kp (ls_F s) i)) (nI i) G (fun v G' => K (.inl v) G') := fun m => by
    induction m with
    | zero =>
      intro i hi
      have hi' : i = 10 := by omega
      subst hi'
      refine w_Tq_kept_4 h.1.1 (z_bt (by rw [z_le (by decide) (by decide)]; exact Nat.le_refl _) (hK ρ G h yF_r))
    | succ m ih =>
      intro i hi
      refine w_Tq_kept_4 h.1.1 ?_
      rw [z_le (by decide) (by omega)]
      obtain ⟨⟨a1, a2⟩, -⟩ := h.2.2.1 i (by omega)
      refine z_bf (by omega) (z_ixi (by omega) (by decide) ?_)
      have hn := ih (i + 1) (by omega)
      by_cases q : k_is (ls_F s i) = true
      · have e : kp (ls_F s) (i + 1) = kp (ls_F s) i + 1 := by show _ + (if _ then _ else _) = _; rw [if_pos q]
        rw [e] at hn
        rw [z_add, z_add]
        exact z_bf (by rw [(a2 q).1]; exact (a2 q).2.1) hn
      · have e : kp (ls_F s) (i + 1) = kp (ls_F s) i := by show _ + (if _ then _ else _) = _; rw [if_neg q]; rfl
        rw [e] at hn
        rw [z_add i]
        exact z_bt (a1 (Bool.eq_false_iff.mpr q)) hn
  exact go 10 0 rfl, fun Gm d f K hd hM h hK => by
  have k0 := LM_0 (x := nI 0) h
  have z0 : (mj_u2 f 1714 0 (nI 0)) 1714 0 = nI 0 := z_u2s
  refine w_m_kept hM ?_
  generalize mj_u2 f 1714 0 (nI 0) = f0' at k0 z0 ⊢
  have go : ∀ m i, i + m = 10 → m_kept_9 Gm d (nI (kp (ls_F s) i)) (nI i) f0' K := fun m => by
    induction m with
    | zero =>
      intro i hi
      have hi' : i = 10 := by omega
      subst hi'
      refine w_m_kept_9 hM (z_bt (by rw [z_le (by decide) (by decide)]; exact Nat.le_refl _) (hK _ _ k0 (rJ_v rfl z0)))
    | succ m ih =>
      intro i hi
      refine w_m_kept_9 hM ?_
      rw [z_le (by decide) (by omega)]
      obtain ⟨a1, a2⟩ := k0.2.1 i (by omega)
      refine z_bf (by omega) (z_ixi (by omega) (by decide) ?_)
      have hn := ih (i + 1) (by omega)
      by_cases q : k_is (ls_F s i) = true
      · have e : kp (ls_F s) (i + 1) = kp (ls_F s) i + 1 := by show _ + (if _ then _ else _) = _; rw [if_pos q]
        rw [e] at hn
        obtain ⟨b1, b2, b3, -⟩ := a2 q
        rw [z_add, z_add, z_add, b1, z_le (by omega) (by decide)]
        exact z_bf (by omega) hn
      · have e : kp (ls_F s) (i + 1) = kp (ls_F s) i := by show _ + (if _ then _ else _) = _; rw [if_neg q]; rfl
        rw [e] at hn
        rw [z_add, z_add, z_add, a1 (Bool.eq_false_iff.mpr q), z_le (by decide) (by decide)]
        exact z_bt (Nat.le_refl _) hn
  exact go 10 0 rfl⟩
/-- a place of the output, or none -/
theorem ix_o {x : Int32} (hn : n ≤ 300) : (∃ k, k < n ∧ x = nI k ∧ qb (q_13003 x (nI 0) (nI n - nI 1)) = true) ∨ (¬ qb (q_13003 x (nI 0) (nI n - nI 1)) = true ∧ (x < nI 0 ∨ (¬ x < nI 0 ∧ ¬ x < nI n))) := by
  by_cases h : x < nI 0
  · exact Or.inr ⟨z_nin h, Or.inl h⟩
  · obtain ⟨k, hk, rfl⟩ := z_nn h
    by_cases h1 : k < n
    · exact Or.inl ⟨k, h1, rfl, by rw [z_sub (by omega), z_in (by decide) (by omega) hk]; omega⟩
    · refine Or.inr ⟨fun q => ?_, Or.inr ⟨h, by rw [z_lt hk (by omega)]; exact h1⟩⟩
      rcases Nat.eq_zero_or_pos n with e | e
      · subst e
        unfold q_13003 at q
        rw [if_neg h, if_pos (Int32.lt_iff_toInt_lt.mpr (by rw [nI_toInt hk, show (nI 0 - nI 1).toInt = -1 from by decide]; omega))] at q
        exact absurd q (by decide)
      · rw [z_sub (by omega), z_in (by decide) (by omega) hk] at q
        omega
theorem yO_k (hS : cs_S G) (ho : oC G o) : mj_k G (mj_r G 1589 0) = 20 ∧ mj_l G (mj_r G 1589 0) = 300 := by
  rcases ho.2.1 with q | q
  · rw [q]; exact ⟨cs_k hS rfl, cs_l hS rfl⟩
  · rw [q]; exact ⟨cs_k hS rfl, cs_l hS rfl⟩
theorem op_out {x : Int32} : opJ (fun d G K => Tq_out d x G K) (fun Gm d f K => m_out Gm d x f K) c17 := fun s hs => by
  have ho := hs.2.2.2.1
  have h300 : o_n (ls_o s) ≤ 300 := ho.1
  rcases ix_o (x := x) ho.1 with ⟨k, hk, rfl, hq⟩ | ⟨hq, hx⟩
  · have hz := ho.2.2 k hk
    refine ⟨s, .inl (nI (o_c (ls_o s) k % 128)), hs, fun _ q => (by cases q), fun d ρ G K hd h hK => ?_, fun Gm d f K hd hM h hK => ?_⟩
    · obtain ⟨d, rfl⟩ : ∃ y, d = y + 1 := ⟨d - 1, by omega⟩
      have hoC := h.2.2.2.1.1
      obtain ⟨k1, k2⟩ := yO_k h.1.1 hoC
      refine w_Tq_out h.1.1 (by omega) (by omega) ?_
      rw [hoC.2.2.1, z_lt (by omega) (by decide), z_lt (by omega) (by omega)]
      refine z_bf (by omega) (z_bt hk ⟨k1, z_ixi (by omega) (by omega) ?_⟩)
      rw [hoC.2.2.2.2.1 k hk, q_40 hz.1]
      exact ⟨z_ch (by omega), hK ρ G h yF_r⟩
    · obtain ⟨d, rfl⟩ : ∃ y, d = y + 2 := ⟨d - 2, by omega⟩
      obtain ⟨oQ, q1, q2, q3⟩ := h.2.2.1.1
      refine w_m_out hM (w_m_isOut hM (by omega) ?_)
      rw [q1.2.1, q2, hq]
      refine z_bt rfl (w_m_holds hM (z_bt rfl (z_bt rfl (z_ixi (by omega) (by omega) ?_))))
      rw [show (mj_u2 f 1714 0 (nI 0)) 1759 k = om (o_c (ls_o s) k) from (z_u2n (by decide)).trans ((q1.2.2.2.1 k (by omega)).trans (by rw [q3 k hk])), om_m hz.1, z_chn (by omega)]
      exact ⟨z_ch (by omega), hK _ _ (LM_0 h) (rJ_v rfl z_u2s)⟩
  · refine ⟨s, .inr 17, hs, fun _ q => (by cases q; decide), fun d ρ G K hd h hK => ?_, fun Gm d f K hd hM h hK => ?_⟩
    · obtain ⟨d, rfl⟩ : ∃ y, d = y + 1 := ⟨d - 1, by omega⟩
      obtain ⟨a1, a2⟩ := LC_al (kd := 18) (len := 6) h (by decide)
      have hk := hK ρ _ a1 (yR_F a2 (by decide) (by decide))
      refine w_Tq_out h.1.1 (by omega) (by omega) ?_
      rw [h.2.2.2.1.1.2.2.1]
      rcases hx with hx | ⟨hx, hx'⟩
      · exact z_bt hx hk
      · exact z_bf hx (z_bf hx' hk)
    · obtain ⟨d, rfl⟩ : ∃ y, d = y + 2 := ⟨d - 2, by omega⟩
      obtain ⟨oQ, q1, q2, q3⟩ := h.2.2.1.1
      refine w_m_out hM (w_m_isOut hM (by omega) ?_)
      rw [q1.2.1, q2]
      exact z_bf hq (w_m_holds hM (z_bf (by decide) (z_bf (by decide) ⟨z_ch (by decide), hK _ _ (LM_0 h) (rJ_x z_u2s)⟩)))
theorem q_45 (hz : c < 2 ^ 31) : q_12045 (nI c) = nI (c / 262144) := by
  show nI c >>> (((Int8.ofInt (18)).toInt32) &&& 31) = _
  rw [z_shr (k := 18) hz (by decide)]
theorem op_source {x : Int32} : opJ (fun d G K => Tq_source d x G K) (fun Gm d f K => m_source Gm d x f K) c17 := fun s hs => by
  have ho := hs.2.2.2.1
  have h300 : o_n (ls_o s) ≤ 300 := ho.1
  rcases ix_o (x := x) ho.1 with ⟨k, hk, rfl, hq⟩ | ⟨hq, hx⟩
  · have hz := ho.2.2 k hk
    refine ⟨s, .inl (nI (o_c (ls_o s) k / 262144)), hs, fun _ q => (by cases q), fun d ρ G K hd h hK => ?_, fun Gm d f K hd hM h hK => ?_⟩
    · obtain ⟨d, rfl⟩ : ∃ y, d = y + 1 := ⟨d - 1, by omega⟩
      have hoC := h.2.2.2.1.1
      obtain ⟨k1, k2⟩ := yO_k h.1.1 hoC
      refine w_Tq_source h.1.1 (by omega) (by omega) ?_
      rw [hoC.2.2.1, z_lt (by omega) (by decide), z_lt (by omega) (by omega)]
      refine z_bf (by omega) (z_bt hk ⟨k1, z_ixi (by omega) (by omega) ?_⟩)
      rw [hoC.2.2.2.2.1 k hk, q_45 hz.1]
      exact hK ρ G h yF_r
    · obtain ⟨d, rfl⟩ : ∃ y, d = y + 2 := ⟨d - 2, by omega⟩
      obtain ⟨oQ, q1, q2, q3⟩ := h.2.2.1.1
      refine w_m_source hM (w_m_isOut hM (by omega) ?_)
      rw [q1.2.1, q2, hq]
      refine z_bt rfl (w_m_holds hM (z_bt rfl (z_bt rfl (z_ixi (by omega) (by omega) ?_))))
      rw [show (mj_u2 f 1714 0 (nI 0)) 1759 k = om (o_c (ls_o s) k) from (z_u2n (by decide)).trans ((q1.2.2.2.1 k (by omega)).trans (by rw [q3 k hk])), om_s hz.1]
      exact hK _ _ (LM_0 h) (rJ_v rfl z_u2s)
  · refine ⟨s, .inr 17, hs, fun _ q => (by cases q; decide), fun d ρ G K hd h hK => ?_, fun Gm d f K hd hM h hK => ?_⟩
    · obtain ⟨d, rfl⟩ : ∃ y, d = y + 1 := ⟨d - 1, by omega⟩
      obtain ⟨a1, a2⟩ := LC_al (kd := 18) (len := 6) h (by decide)
      have hk := hK ρ _ a1 (yR_F a2 (by decide) (by decide))
      refine w_Tq_source h.1.1 (by omega) (by omega) ?_
      rw [h.2.2.2.1.1.2.2.1]
      rcases hx with hx | ⟨hx, hx'⟩
      · exact z_bt hx hk
      · exact z_bf hx (z_bf hx' hk)
    · obtain ⟨d, rfl⟩ : ∃ y, d = y + 2 := ⟨d - 2, by omega⟩
      obtain ⟨oQ, q1, q2, q3⟩ := h.2.2.1.1
      refine w_m_source hM (w_m_isOut hM (by omega) ?_)
      rw [q1.2.1, q2]
      exact z_bf hq (w_m_holds hM (z_bf (by decide) (z_bf (by decide) (hK _ _ (LM_0 h) (rJ_x z_u2s)))))
/-- contexts go by the cells -/
theorem ox_e {o1 o2 : ost} (h1 : o_ok o1) (h2 : o_ok o2) (hn : o_n o1 = o_n o2) (hc : ∀ i, i < o_n o2 → o_c o1 i = o_c o2 i) : ∀ {i : Nat}, i ≤ o_n o2 → o_x o1 i = o_x o2 i
  | 0, _ => h1.2.1.trans h2.2.1.symm
  | i + 1, hi => by
    rw [(h1.2.2 i (by omega)).2.2.2.1, (h2.2.2 i (by omega)).2.2.2.1, ox_e h1 h2 hn hc (i := i) (by omega), hc i (by omega)]
theorem op_context {x : Int32} : opJ (fun d G K => Tq_context d x G K) (fun Gm d f K => m_context Gm d x f K) c17 := fun s hs => by
  have ho := hs.2.2.2.1
  by_cases hx : ∃ k, k ≤ o_n (ls_o s) ∧ x = nI k
  · obtain ⟨k, hk, rfl⟩ := hx
    have h300 := ho.1
    refine ⟨s, .inl (nI (o_x (ls_o s) k)), hs, fun _ q => (by cases q), fun d ρ G K hd h hK => ?_, fun Gm d f K hd hM h hK => ?_⟩
    · have hoC := h.2.2.2.1.1
      refine w_Tq_context h.1.1 (by omega) ?_
      rw [hoC.2.2.1, z_lt (by omega) (by decide), z_le (by omega) (by omega)]
      refine z_bf (by omega) (z_bt hk (z_ixi (by omega) (by decide) ?_))
      rw [hoC.2.2.2.2.2 k hk]
      exact hK ρ G h yF_r
    · obtain ⟨d, rfl⟩ : ∃ y, d = y + 1 := ⟨d - 1, by omega⟩
      obtain ⟨oQ, q1, q2, q3⟩ := h.2.2.1.1
      refine w_m_context hM (by omega) ?_
      rw [q1.2.1, q2, z_in (by decide) (by omega) (by omega)]
      refine z_bt ⟨Nat.zero_le _, hk⟩ (w_m_holds hM (z_bt rfl (z_bt rfl (z_ixi (by omega) (by decide) ?_))))
      rw [show (mj_u2 f 1714 0 (nI 0)) 1760 k = nI (o_x (ls_o s) k) from (z_u2n (by decide)).trans ((q1.2.2.2.2 k (by omega)).trans (by rw [ox_e q1.1 ho q2 q3 hk]))]
      exact hK _ _ (LM_0 h) (rJ_v rfl z_u2s)
  · have h300 := ho.1
    refine ⟨s, .inr 17, hs, fun _ q => (by cases q; decide), fun d ρ G K hd h hK => ?_, fun Gm d f K hd hM h hK => ?_⟩
    · obtain ⟨a1, a2⟩ := LC_al (kd := 18) (len := 6) h (by decide)
      have hk := hK ρ _ a1 (yR_F a2 (by decide) (by decide))
      refine w_Tq_context h.1.1 (by omega) ?_
      rw [h.2.2.2.1.1.2.2.1]
      refine z_br (fun _ => hk) (fun q1 => z_br (fun q2 => ?_) (fun _ => hk))
      exfalso
      obtain ⟨k, hk, rfl⟩ := z_nn q1
      rw [z_le hk (by omega)] at q2
      exact hx ⟨k, q2, rfl⟩
    · obtain ⟨d, rfl⟩ : ∃ y, d = y + 1 := ⟨d - 1, by omega⟩
      obtain ⟨oQ, q1, q2, q3⟩ := h.2.2.1.1
      refine w_m_context hM (by omega) ?_
      rw [q1.2.1, q2]
      refine z_bf (fun q => ?_) (w_m_holds hM (z_bf (by decide) (z_bf (by decide) (hK _ _ (LM_0 h) (rJ_x z_u2s)))))
      by_cases h1 : x < nI 0
      · exact z_nin h1 q
      · obtain ⟨k, hk, rfl⟩ := z_nn h1
        rw [z_in (by decide) (by omega) hk] at q
        exact hx ⟨k, q.2, rfl⟩
end ZZZ2
