/-! THE CALLS OF THE LAW: message -/
/-- one template as the class holds it -/
def tmC (u : wo) (ρ : Nat → Nat) (G : mj_G) (t : Nat) : Prop := (tp_C (mj_r G 7 t) ∧ imm ρ (mj_r G 7 t) ∧ mj_r G 7 t < mj_n G ∧ mj_k G (mj_r G 7 t) = 11 ∧ mj_i G (mj_r G 7 t) 1 = sh (u_pa u t) ∧ mj_r G (mj_r G 7 t) 0 = u_bd u t ∧ u_pa u t ≤ 10) ∧
  (∀ j, j = 4 ∨ j = 5 → tp_C (mj_r G (mj_r G 7 t) j) ∧ imm ρ (mj_r G (mj_r G 7 t) j) ∧ mj_r G (mj_r G 7 t) j < mj_n G ∧ 30 ≤ mj_k G (mj_r G (mj_r G 7 t) j) ∧ mj_l G (mj_r G (mj_r G 7 t) j) = 10) ∧
  (∀ g, g < 10 → (mj_r G (mj_r G (mj_r G 7 t) 4) g = q_nd (u_qb u g t) ∧ ∀ x, u_qb u g t = some x → x.2 ≠ 0) ∧ mj_r G (mj_r G (mj_r G 7 t) 5) g = q_nd (u_qm u g t) ∧ ∀ x, u_qm u g t = some x → x.2 ≠ 0) ∧
  ∀ i, i < 26 → (bt (mj_i G (mj_r G 7 t) 3) i ↔ tl_st (u_w u t) i (u_L u t))
/-- how many places for numbers -/
def h35 (w : Nat → Nat) : Nat → Nat
  | 0 => 0
  | i + 1 => h35 w i + (if w i = 35 then 1 else 0)
/-- the world with another form -/
def wo_f (u : wo) (F : Nat → rv) : wo := (u.1, u.2.1, (u.2.2.1.1, F, u.2.2.1.2.2), u.2.2.2)
/-- the state with another form, nothing typed, nothing kept -/
def ls_m (s : lst) (F : Nat → rv) : lst := (wo_f s.1 F, kf0 s.2.1, s.2.2.1, s.2.2.2.1, s.2.2.2.2.1, (0, fun _ => 0), s.2.2.2.2.2.2)
section ZZZB
variable {s : lst} {u : wo} {ρ ρ' : Nat → Nat} {G G1 G' Gm H : mj_G} {f f' : mm_F} {a t t0 n l m c : Nat} {w : Nat → Nat} {d : Nat}
theorem wC_to (h : wC u ρ G ∧ yL u G) (ht : t < 10) : tmC u ρ G t := by
  obtain ⟨⟨h1, h2, h3, -⟩, h6⟩ := h
  refine ⟨h1 t ht, fun j hj => ?_, fun g hg => ?_, (h6.1 t ht).1⟩
  · obtain ⟨x1, x2⟩ := h3 t ht j hj
    have b := (h2 0 (by decide)).1 t ht
    have b' := (h2 0 (by decide)).2 t ht
    rcases hj with e | e
    · subst e
      exact ⟨(h6.1 t ht).2 4 (Or.inl rfl), x1, x2, b.2.1, b.2.2.1⟩
    · subst e
      exact ⟨(h6.1 t ht).2 5 (Or.inr rfl), x1, x2, b'.2.1, b'.2.2.1⟩
  · have b := (h2 g hg).1 t ht
    have b' := (h2 g hg).2 t ht
    exact ⟨b.2.2.2, b'.2.2.2⟩
theorem wC_of (hT : ∀ t, t < 10 → tmC u ρ G t) (hA : fA (u_A u) ρ (u_G u) G) (hF : ∀ j, j < 20 → rv_ok (u_F u j) ∧ rv_t (u_F u j) = 2 ∧ cv (imm ρ) G (1674 + 2 * j) (u_F u j)) (hD : ∀ l, l < 26 → ¬ (1674 ≤ mj_r G 12 l ∧ mj_r G 12 l ≤ 1713) ∧ (rv_t (u_D u l) = 3 → ∀ k, k < rv_l (u_D u l) → ¬ (1674 ≤ mj_r G (ir G l) k ∧ mj_r G (ir G l) k ≤ 1713))) : wC u ρ G ∧ yL u G :=
  ⟨⟨fun t ht => (hT t ht).1, fun g hg => ⟨fun t ht => ⟨(hT t ht).1.2.2.2.1, ((hT t ht).2.1 4 (Or.inl rfl)).2.2.2.1, ((hT t ht).2.1 4 (Or.inl rfl)).2.2.2.2, ((hT t ht).2.2.1 g hg).1⟩, fun t ht => ⟨(hT t ht).1.2.2.2.1, ((hT t ht).2.1 5 (Or.inr rfl)).2.2.2.1, ((hT t ht).2.1 5 (Or.inr rfl)).2.2.2.2, ((hT t ht).2.2.1 g hg).2⟩⟩, fun t ht j hj => ⟨((hT t ht).2.1 j hj).2.1, ((hT t ht).2.1 j hj).2.2.1⟩, hA, hF⟩, fun t ht => ⟨(hT t ht).2.2.2, fun j hj => ((hT t ht).2.1 j hj).1⟩, hD⟩
theorem tm_g3 (hS : cs_S G) (ha : gA a) (F : g3 a t0 G G') (he : ro_e ρ ρ' G) (hne : t ≠ t0) (h : tmC u ρ G t) : tmC u ρ' G' t := by
  obtain ⟨⟨h1, h2, h3, h4, h5, h6, h7⟩, h8, h9, h10⟩ := h
  have hG := hS.1
  have ha' := gA_o ha
  have e7 : mj_r G' 7 t = mj_r G 7 t := (F.2 7 (by omega)).2.2.1 t (fun q => by have := gW_o ha' q; omega)
  obtain ⟨k1, k2⟩ := g3_k hS ha F h3 (Or.inr (Or.inr (Or.inr (Or.inl h1))))
  unfold tmC
  rw [e7, (F.2 _ h3).1, k2 1, k2 3, k1 0]
  refine ⟨⟨h1, by rw [imm_e he h3]; exact h2, Nat.lt_of_lt_of_le h3 F.1, h4, h5, h6, h7⟩, fun j hj => ?_, fun g hg => ?_, h10⟩
  · rw [k1 j]
    obtain ⟨x1, x2, x3, x4, x5⟩ := h8 j hj
    exact ⟨x1, by rw [imm_e he x3]; exact x2, Nat.lt_of_lt_of_le x3 F.1, by rw [(F.2 _ x3).1]; exact x4, by rw [(F.2 _ x3).2.1]; exact x5⟩
  · rw [k1 4, k1 5]
    obtain ⟨x1, -, x3, -⟩ := h8 4 (Or.inl rfl)
    obtain ⟨y1, -, y3, -⟩ := h8 5 (Or.inr rfl)
    rw [(g3_k hS ha F x3 (Or.inr (Or.inr (Or.inr (Or.inl x1))))).1 g, (g3_k hS ha F y3 (Or.inr (Or.inr (Or.inr (Or.inl y1))))).1 g]
    exact h9 g hg
theorem fA_g3 {A : Nat → Prop} {G0 : mj_G} (hS : cs_S G) (ha : gA a) (F : g3 a t0 G G') (he : ro_e ρ ρ' G) (h : fA A ρ G0 G) : fA A ρ' G0 G' := fun c hc => by
  obtain ⟨h1, h2, h3, h4, h5, h6, h7⟩ := h c hc
  obtain ⟨k1, k2⟩ := g3_k hS ha F h2 (Or.inr (Or.inr (Or.inr (Or.inl (Or.inr h1)))))
  exact ⟨h1, Nat.lt_of_lt_of_le h2 F.1, by rw [imm_e he h2]; exact h3, (F.2 c h2).1.trans h4, (F.2 c h2).2.1.trans h5, fun j => (k1 j).trans (h6 j), fun j => (k2 j).trans (h7 j)⟩
/-- a form that is not the one told anew -/
theorem fm_g3 {j : Nat} {v : rv} (hS : cs_S G) (ha : gA a) (F : g3 a t0 G G') (he : ro_e ρ ρ' G) (hj : j < 20) (hne : 1674 + 2 * j ≠ a) (tv : rv_t v = 2) (h : cv (imm ρ) G (1674 + 2 * j) v) : cv (imm ρ') G' (1674 + 2 * j) v := by
  have hG := hS.1
  have ha' := gA_o ha
  obtain ⟨x1, x2, x3, x4⟩ := F.2 (1674 + 2 * j) (by omega)
  refine cv_st h F.1 x1 (x4 hne (by omega)) (fun k => x3 k (fun q => by unfold gW3 at q; omega)) (fun q => ?_) (fun c hc q => by rw [imm_e he hc]; exact q) (fun q => by omega)
  obtain ⟨-, -, b3, -, b5, b6, -⟩ := h.2.2.2.2.1 q
  exact ⟨(F.2 _ b5).1, (F.2 _ b5).2.1, (g3_k hS ha F b5 (Or.inr (Or.inr (Or.inl b6)))).2⟩
theorem bi_x {y : Int32} : (∃ b, b < 2 ∧ y = nI b ∧ qb (q_13003 y (nI 0) (nI 1)) = true) ∨ (¬ qb (q_13003 y (nI 0) (nI 1)) = true ∧ (y < nI 0 ∨ (¬ y < nI 0 ∧ ¬ y ≤ nI 1))) := by
  by_cases h : y < nI 0
  · exact Or.inr ⟨z_nin h, Or.inl h⟩
  · obtain ⟨n, hn, rfl⟩ := z_nn h
    by_cases h1 : n < 2
    · exact Or.inl ⟨n, h1, rfl, by rw [z_in (by decide) (by decide) hn]; omega⟩
    · refine Or.inr ⟨fun q => ?_, Or.inr ⟨h, by rw [z_le hn (by decide)]; omega⟩⟩
      rw [z_in (by decide) (by decide) hn] at q
      omega
theorem op_message {x y : Int32} : opJ (fun d G K => Tq_message d x y G K) (fun Gm d f K => m_message Gm d x y f K) cB := fun s hs => by
  have hn := hs.2.1.1
  rcases di_x (x := x) with ⟨t, ht, rfl, hq⟩ | ⟨hq, hx⟩
  case inr =>
    refine ⟨s, .inr 17, hs, fun _ q => (by cases q; decide), fun d ρ G K hd h hK => ?_, fun Gm d f K hd hM h hK => ?_⟩
    · obtain ⟨d, rfl⟩ : ∃ y, d = y + 1 := ⟨d - 1, by omega⟩
      obtain ⟨a1, a2⟩ := LC_al (kd := 18) (len := 6) h (by decide)
      have hk := hK ρ _ a1 (yR_F a2 (by decide) (by decide))
      refine w_Tq_message h.1.1 (by omega) ?_
      rcases hx with hx | ⟨hx, hx'⟩
      · exact z_bt hx hk
      · exact z_bf hx (z_bf hx' hk)
    · obtain ⟨d, rfl⟩ : ∃ y, d = y + 1 := ⟨d - 1, by omega⟩
      exact w_m_message hM (by omega) (z_bf hq (w_m_holds hM (z_bf (by decide) (z_bf (by decide) (hK _ _ (LM_0 h) (rJ_x z_u2s))))))
  rcases bi_x (y := y) with ⟨b, hb, rfl, hq2⟩ | ⟨hq2, hy⟩
  case inr =>
    refine ⟨s, .inr 15, hs, fun _ q => (by cases q; decide), fun d ρ G K hd h hK => ?_, fun Gm d f K hd hM h hK => ?_⟩
    · obtain ⟨d, rfl⟩ : ∃ y, d = y + 1 := ⟨d - 1, by omega⟩
      obtain ⟨a1, a2⟩ := LC_al (kd := 16) (len := 6) h (by decide)
      have hk := hK ρ _ a1 (yR_F a2 (by decide) (by decide))
      refine w_Tq_message h.1.1 (by omega) ?_
      rw [z_lt (by omega) (by decide), z_lt (by omega) (by decide)]
      refine z_bf (by omega) (z_bt ht ?_)
      rcases hy with hy | ⟨hy, hy'⟩
      · exact z_bt hy hk
      · exact z_bf hy (z_bf hy' hk)
    · obtain ⟨d, rfl⟩ : ∃ y, d = y + 1 := ⟨d - 1, by omega⟩
      exact w_m_message hM (by omega) (z_bt hq (z_bf hq2 (w_m_holds hM (z_bf (by decide) (z_bf (by decide) (hK _ _ (LM_0 h) (rJ_x z_u2s)))))))
  have hj : 2 * t + b < 20 := by omega
  have okv : rv_ok (rv_T (ls_n s) (ls_w s) true) := rv_okT (by omega) (fun j hj => hs.2.1.2.1 j hj)
  have hFs : ∀ j, j < 20 → rv_ok (g_u (u_F (ls_u s)) (2 * t + b) (rv_T (ls_n s) (ls_w s) true) j) ∧ rv_t (g_u (u_F (ls_u s)) (2 * t + b) (rv_T (ls_n s) (ls_w s) true) j) = 2 ∧ rv_l (g_u (u_F (ls_u s)) (2 * t + b) (rv_T (ls_n s) (ls_w s) true) j) ≤ 80 := fun j hj => by
    by_cases q : j = 2 * t + b
    · rw [q, g_us]
      exact ⟨okv, rfl, hn⟩
    · rw [g_un q]
      exact hs.1.2.2.1 j hj
  refine ⟨ls_m s (g_u (u_F (ls_u s)) (2 * t + b) (rv_T (ls_n s) (ls_w s) true)), .inl (nI (h35 (ls_w s) (ls_n s))), ⟨⟨hs.1.1, hs.1.2.1, hFs, hs.1.2.2.2⟩, tx_W0, hs.2.2⟩, fun _ q => (by cases q), fun d ρ G K hd h hK => ?_, fun Gm d f K hd hM h hK => ?_⟩
  · obtain ⟨d, rfl⟩ : ∃ y, d = y + 1 := ⟨d - 1, by omega⟩
    have hG := hh_n h.1
    have hS := h.1.1
    have hw := h.2.2.2.2.2.1.2
    have e3 := h.2.2.2.2.2.1.1
    refine iv_cI (iv_hb h.1.2.2.1) ?_
    show Tq_message (d + 1) (nI t) (nI b) G (fun r G' => iv_J (mj_u G) G' → K r G')
    refine w_Tq_message hS (by omega) ?_
    rw [z_lt (by omega) (by decide), z_lt (by omega) (by decide), z_lt (by omega) (by decide), z_le (by omega) (by decide)]
    refine z_bf (by omega) (z_bt ht (z_bf (by omega) (z_bt (by omega) ?_)))
    have go : ∀ m i, i + m = ls_n s → Tq_message_40 (d + 1) (nI t) (nI b) (nI (h35 (ls_w s) i)) (nI i) G (fun r G' => iv_J (mj_u G) G' → K r G') := fun m => by
      induction m with
      | zero =>
        intro i hi
        have hi' : i = ls_n s := by omega
        subst hi'
        refine w_Tq_message_40 hS (by omega) ?_
        rw [e3, z_mul, z_add, z_le (by omega) (by omega)]
        refine z_bt (Nat.le_refl _) (z_ixi hj (by decide) (c_copyOf (a := 0) (b := ls_n s) hS (Nat.zero_le _) hn (fun G3 s3 n3 u3 k3 l3 i3 f3 => ?_)))
        rw [Nat.sub_zero] at u3 l3 i3
        generalize haj : 1674 + 2 * (2 * t + b) = a
        have hgA : gA a := Or.inr ⟨2 * t + b, hj, haj.symm⟩
        have F3 : fn_F G G3 := ⟨(f3 0).1, fun c hc => by
          obtain ⟨x1, x2, x3, x4, -⟩ := (f3 (mj_n G3 + 1)).2 c hc
          exact ⟨x1, x2, x3, fun j => x4 j (fun q => by omega)⟩⟩
        have ka : mj_k G3 a = 12 := by rw [← haj]; exact cs_g8 s3 hj
        have e33 : mj_i G3 3 1 = nI (ls_n s) := ((F3.2 3 (by omega)).2.2.2 1).trans e3
        rw [e33]
        refine ⟨ka, w_Va_setText s3 ⟨ka, ?_⟩⟩
        intro G4 e4 G5 e5
        have kr : ∀ b, mj_k G5 b = mj_k G3 b := fun b => by rw [e5, e4]; rfl
        have lr : ∀ b, mj_l G5 b = mj_l G3 b := fun b => by rw [e5, e4]; rfl
        rw [kr, lr, k3, l3, mn2_i (by omega) (by omega), show mn2 (ls_n s) (ls_n s) = ls_n s by unfold mn2; rw [if_neg (Nat.lt_irrefl _)], z_mx0 (by omega)]
        refine ⟨by decide, ?_⟩
        intro G6 e6
        refine ⟨Or.inr rfl, ?_⟩
        intro G7 e7
        have s7 : cs_S G7 := by
          rw [e7, e6, e5, e4]
          exact cs_pI (cs_pI (cs_pR (K := 12) (cs_pI s3) ka rfl))
        have F7 : g3 a 10 G G7 := by
          rw [e7, e6, e5, e4]
          exact g3_t (g3_fn F3) (g3_t (g3_I (Or.inl rfl)) (g3_t (g3_R (Or.inl ⟨rfl, rfl⟩)) (g3_t (g3_I (Or.inl rfl)) (g3_I (Or.inl rfl)))))
        have n7 : mj_n G7 = mj_n G + 1 := by rw [e7, e6, e5, e4]; exact n3
        have u7 : mj_u G7 = mj_u G + ls_n s := by rw [e7, e6, e5, e4]; exact u3
        have ar : a ≠ mj_n G := by omega
        have v0 : mj_i G7 a 0 = nI 4 := by rw [e7, z_iIm (by decide), e6, z_iIm (by decide), e5, z_iRa, e4, z_iIs]
        have v2 : mj_i G7 a 2 = nI 1 := by rw [e7, z_iIs]
        have v4 : mj_i G7 a 4 = nI (ls_n s) := by rw [e7, z_iIm (by decide), e6, z_iIs]
        have r3 : mj_r G7 a 3 = mj_n G := by rw [e7, z_rIa, e6, z_rIa, e5, z_rRs]
        have kk7 : ∀ c, mj_k G7 c = mj_k G3 c := fun c => by rw [e7, e6]; exact kr c
        have ll7 : ∀ c, mj_l G7 c = mj_l G3 c := fun c => by rw [e7, e6]; exact lr c
        have ii7 : ∀ j, mj_i G7 (mj_n G) j = mj_i G3 (mj_n G) j := fun j => by rw [e7, z_iIn ar.symm, e6, z_iIn ar.symm, e5, z_iRa, e4, z_iIn ar.symm]
        refine c_forget s7 (fun G8 s8 F8 n8 u8 z8 i8 k8 r8 => ?_)
        rintro _ rfl hJ
        have FH : g3 a 10 G (mj_pI G8 3 1 (nI 0)) := g3_t F7 (g3_t (F8 a 10) (g3_I (Or.inr rfl)))
        have hJ' := iv_end hJ (by show mj_u G8 ≤ _; omega)
        obtain ⟨g1, g2⟩ := hh_g3 (ρ' := ro_0 ρ (mj_n G)) h hgA FH (cs_pI s8) hJ' ro_0e
        have ne3 : a ≠ 3 := by omega
        refine hK (ro_0 ρ (mj_n G)) _ ⟨g1, wC_of (fun t' ht' => tm_g3 (t0 := 10) hS hgA FH ro_0e (by omega) (show tmC (ls_u s) ρ G t' from wC_to h.2.1 ht')) (fA_g3 hS hgA FH ro_0e h.2.1.1.2.2.2.1) (fun j' hj' => ⟨(hFs j' hj').1, (hFs j' hj').2.1, ?_⟩) g2, fgC_0 z8, yO_g3 hS hgA FH h.2.2.2.1, yB_g3 hS hgA FH h.2.2.2.2.1, ⟨z_iIs, fun k hk => absurd hk (Nat.not_lt_zero k)⟩, yS_g3 hS hgA FH h.2.2.2.2.2.2⟩ (yR_F (yR_g3 (cc := 1) (e := 80) h hgA FH (by show mj_n G8 ≤ _; omega) (by show mj_u G8 ≤ _; omega)) (by decide) (by decide))
        show cv (imm (ro_0 ρ (mj_n G))) (mj_pI G8 3 1 (nI 0)) (1674 + 2 * j') (g_u (u_F (ls_u s)) (2 * t + b) (rv_T (ls_n s) (ls_w s) true) j')
        by_cases q : j' = 2 * t + b
        · rw [q, g_us, haj]
          have iH : ∀ c j, c ≠ 3 → mj_i (mj_pI G8 3 1 (nI 0)) c j = mj_i G7 c j := fun c j q => (z_iIn q).trans (i8 c j)
          have rH : mj_r (mj_pI G8 3 1 (nI 0)) a 3 = mj_n G := (r8 a 3 (by omega)).trans r3
          refine ⟨((k8 a).1.trans (kk7 a)).trans ka, by rw [iH a 2 ne3, v2]; exact Or.inr rfl, (iH a 0 ne3).trans v0, fun q => absurd q (by show ¬ 2 = 1; decide), fun _ => ⟨(iH a 4 ne3).trans v4, (iH a 2 ne3).trans v2, ?_, ?_, ?_, ?_, ?_, fun j hj => ?_⟩, fun q => absurd q (by show ¬ 2 = 3; decide)⟩
          · rw [rH]; exact ro_0i hG (Nat.le_refl _)
          · rw [rH]; omega
          · rw [rH]; show mj_n G < mj_n G8; omega
          · rw [rH]; exact ((k8 _).1.trans (kk7 _)).trans k3
          · rw [rH]; show ls_n s ≤ mj_l G8 (mj_n G); rw [(k8 _).2, ll7, l3]; exact Nat.le_refl _
          · have hj' : j < ls_n s := hj
            rw [rH, iH _ _ (by omega), ii7, i3 j hj', Nat.zero_add]
            exact hw j hj'
        · rw [g_un q]
          obtain ⟨o1, o2, o3⟩ := h.2.1.1.2.2.2.2 j' hj'
          exact fm_g3 hS hgA FH ro_0e hj' (by omega) o2 o3
      | succ m ih =>
        intro i hi
        have hwi := (hs.2.1.2.1 i (by omega)).2
        refine w_Tq_message_40 hS (by omega) ?_
        rw [e3, z_le (by omega) (by omega)]
        refine z_bf (by omega) (z_ixi (by omega) (by decide) ?_)
        rw [hw i (by omega), z_eq (by omega) (by decide), z_add i]
        have hnx := ih (i + 1) (by omega)
        have e : h35 (ls_w s) (i + 1) = h35 (ls_w s) i + (if ls_w s i = 35 then 1 else 0) := rfl
        rw [e] at hnx
        refine z_br (fun q => ?_) (fun q => ?_)
        · rw [if_pos q] at hnx
          rw [z_add]; exact hnx
        · rw [if_neg q] at hnx
          exact hnx
    exact go (ls_n s) 0 (Nat.zero_add _)
  · obtain ⟨d, rfl⟩ : ∃ y, d = y + 1 := ⟨d - 1, by omega⟩
    refine w_m_message hM (by omega) (z_bt hq (z_bt hq2 (w_m_holds hM (z_bt rfl (z_bt rfl ?_)))))
    have k0 := LM_0 (x := nI 0) h
    have z0 : (mj_u2 f 1714 0 (nI 0)) 1714 0 = nI 0 := z_u2s
    generalize mj_u2 f 1714 0 (nI 0) = g at k0 z0 ⊢
    have eT := k0.2.2.2.2.1.1
    have go : ∀ m i f1, i + m = ls_n s → (∀ b' k, ¬ (b' = 1718 ∧ 80 * (2 * t + b) ≤ k ∧ k < 80 * (2 * t + b) + 80) → f1 b' k = g b' k) → (∀ k, k < i → f1 1718 (80 * (2 * t + b) + k) = nI (ls_w s k)) → m_message_42 Gm (d + 1) (nI t) (nI b) (nI (h35 (ls_w s) i)) (nI i) f1 K := fun m => by
      induction m with
      | zero =>
        intro i f1 hi F1 hc1
        have hi' : i = ls_n s := by omega
        subst hi'
        have e2 : f1 1714 2 = nI (ls_n s) := (F1 _ _ (by omega)).trans eT
        refine w_m_message_42 hM ?_
        rw [e2, z_mul, z_add, z_le (by omega) (by omega)]
        refine z_bt (Nat.le_refl _) (z_ixi hj (by decide) (p_forget hM (fun f' F z1 => ?_)))
        have hf : ∀ b' k, ¬ (b' = 1718 ∧ 80 * (2 * t + b) ≤ k ∧ k < 80 * (2 * t + b) + 80) → ¬ (b' = 1719 ∧ k = 2 * t + b) → ¬ (b' = 1714 ∧ k = 2) → b' ≠ 1749 → f' b' k = g b' k := fun b' k q1 q2 q3 q4 => (F b' k q4).trans ((z_uo q3).trans ((z_uo q2).trans (F1 b' k q1)))
        have h18 : ∀ k, k < ls_n s → f' 1718 (80 * (2 * t + b) + k) = nI (ls_w s k) := fun k hk => (F _ _ (by decide)).trans ((z_u2n (by decide)).trans ((z_u2n (by decide)).trans (hc1 k hk)))
        have h19 : f' 1719 (2 * t + b) = nI (ls_n s) := (F _ _ (by decide)).trans ((z_u2n (by decide)).trans z_u2s)
        have h2 : f' 1714 2 = nI 0 := (F _ _ (by decide)).trans z_u2s
        have hrow : ∀ b', b' ≠ 1718 → b' ≠ 1719 → b' ≠ 1714 → b' ≠ 1749 → f' b' = g b' := fun b' q1 q2 q3 q4 => funext fun k => hf b' k (by omega) (by omega) (by omega) q4
        have hs14 : ∀ k, k ≠ 2 → f' 1714 k = g 1714 k := fun k q => hf _ _ (by omega) (by omega) (by omega) (by decide)
        obtain ⟨⟨w1, w2, w3, w4⟩, m2, ⟨⟨oQ, ⟨p1, p2, p3, p4, p5⟩, q2, q3⟩, q4, q5⟩, ⟨m4, m5⟩, m6, m7⟩ := k0
        refine hK f' _ ⟨⟨fun t' ht' => ?_, fun j' hj' => ?_, ?_, (hs14 67 (by decide)).trans w4⟩, fgM_0 z1, ⟨⟨oQ, ⟨p1, (hs14 61 (by decide)).trans p2, (hs14 62 (by decide)).trans p3, fun i hi => (by rw [hrow 1759 (by decide) (by decide) (by decide) (by decide)]; exact p4 i hi), fun i hi => (by rw [hrow 1760 (by decide) (by decide) (by decide) (by decide)]; exact p5 i hi)⟩, q2, q3⟩, (hs14 64 (by decide)).trans q4, fun i hi => (by rw [hrow 1761 (by decide) (by decide) (by decide) (by decide)]; exact q5 i hi)⟩, ⟨(hs14 68 (by decide)).trans m4, (hs14 69 (by decide)).trans m5⟩, ⟨h2, fun k hk => absurd hk (Nat.not_lt_zero k)⟩, fun i hi => (by rw [hrow 1763 (by decide) (by decide) (by decide) (by decide)]; exact m7 i hi)⟩ (rJ_v rfl ((hs14 0 (by decide)).trans z0))
        · obtain ⟨⟨x1, x2, x3, x4⟩, x5⟩ := w1 t' ht'
          exact ⟨⟨x1, x2, by rw [hrow 1717 (by decide) (by decide) (by decide) (by decide)]; exact x3, fun k hk => (by rw [hrow 1716 (by decide) (by decide) (by decide) (by decide)]; exact x4 k hk)⟩, x5⟩
        · obtain ⟨x1, x2, x3⟩ := hFs j' hj'
          refine ⟨x1, x2, x3, ?_⟩
          show f' 1719 j' = nI (rv_l (g_u (u_F (ls_u s)) (2 * t + b) (rv_T (ls_n s) (ls_w s) true) j')) ∧ ∀ i, i < rv_l (g_u (u_F (ls_u s)) (2 * t + b) (rv_T (ls_n s) (ls_w s) true) j') → f' 1718 (80 * j' + i) = nI (rv_c (g_u (u_F (ls_u s)) (2 * t + b) (rv_T (ls_n s) (ls_w s) true) j') i)
          by_cases q : j' = 2 * t + b
          · rw [q, g_us]
            exact ⟨h19, h18⟩
          · rw [g_un q]
            obtain ⟨y1, y2, y3, y4, y5⟩ := w2 j' hj'
            exact ⟨(hf _ _ (by omega) (by omega) (by omega) (by decide)).trans y4, fun i hi => (hf _ _ (by omega) (by omega) (by omega) (by decide)).trans (y5 i hi)⟩
        · show md f' (u_D (ls_u s)) (u_I (ls_u s))
          unfold md at w3 ⊢
          rw [hrow 1720 (by decide) (by decide) (by decide) (by decide), hrow 1721 (by decide) (by decide) (by decide) (by decide), hrow 1722 (by decide) (by decide) (by decide) (by decide), hrow 1723 (by decide) (by decide) (by decide) (by decide), hrow 1724 (by decide) (by decide) (by decide) (by decide), hrow 1725 (by decide) (by decide) (by decide) (by decide), hrow 1726 (by decide) (by decide) (by decide) (by decide), hrow 1727 (by decide) (by decide) (by decide) (by decide)]
          exact w3
      | succ m ih =>
        intro i f1 hi F1 hc1
        have e2 : f1 1714 2 = nI (ls_n s) := (F1 _ _ (by omega)).trans eT
        have hwi := (hs.2.1.2.1 i (by omega)).2
        have ew : f1 1715 i = nI (ls_w s i) := (F1 _ _ (by omega)).trans (k0.2.2.2.2.1.2 i (by omega))
        refine w_m_message_42 hM ?_
        rw [e2, z_le (by omega) (by omega)]
        refine z_bf (by omega) (z_ixi (by omega) (by decide) ?_)
        rw [z_mul, z_add, z_mul, z_add, ew]
        refine z_ixi (by omega) (by decide) (z_ixi (by omega) (by decide) ?_)
        rw [show (mj_u2 f1 1718 (80 * (2 * t + b) + i) (nI (ls_w s i))) 1715 i = nI (ls_w s i) from (z_u2n (by decide)).trans ew, z_eq (by omega) (by decide), z_add i]
        have hnx := ih (i + 1) (mj_u2 f1 1718 (80 * (2 * t + b) + i) (nI (ls_w s i))) (by omega) (fun b' k q => (z_uo (fun t => q (by omega))).trans (F1 b' k q)) (fun k hk => by
          by_cases q : k = i
          · rw [q]; exact z_u2s
          · exact (z_uo (fun t => by omega)).trans (hc1 k (by omega)))
        have e : h35 (ls_w s) (i + 1) = h35 (ls_w s) i + (if ls_w s i = 35 then 1 else 0) := rfl
        rw [e] at hnx
        refine z_br (fun q => ?_) (fun q => ?_)
        · rw [if_pos q] at hnx
          rw [z_add]; exact hnx
        · rw [if_neg q] at hnx
          rw [z_add]; exact hnx
    exact go (ls_n s) 0 g (Nat.zero_add _) (fun _ _ _ => rfl) (fun k hk => absurd hk (Nat.not_lt_zero k))
end ZZZB
