/-! THE CALLS OF THE LAW: fault, text -/
/-- what a fault is told as -/
def fa_v : Nat ⊕ Nat → Int32
  | .inl _ => Int32.ofInt (-1)
  | .inr e => nI e
section ZZZ6
variable {s : lst} {ρ ρ' : Nat → Nat} {G G1 G' Gm : mj_G} {f f' : mm_F} {n l m a : Nat} {w : Nat → Nat} {d : Nat}
theorem LM_pa {p : Nat} (h : LM s f) : LM s (pt_a f p) := LM_g (P := no_R) (S1 := fun j => j = 3) (R1 := no_R) (n := ls_n s) (w := ls_w s) (z := ls_k s) h (mw_S rfl) (fun j q => by omega) (fun a q => q.elim) ⟨(z_u2m (by decide)).trans h.2.2.2.2.1.1, fun k hk => (z_u2n (by decide)).trans (h.2.2.2.2.1.2 k hk)⟩ (fun i hi => (z_u2n (by decide)).trans (h.2.2.2.2.2 i hi))
theorem op_fault : opK (fun d G K => Tq_fault d G (fun v G' => K (.inl v) G')) (fun Gm d f K => m_fault Gm d f K) (fun _ => 0) := fun Gm s ρ G f hM hs h hL => by
  have hG := hh_n h.1
  have hn := hs.2.1.1
  obtain ⟨res, hc, hm⟩ := rw_all hs.2.1
  refine ⟨s, .inl (fa_v res), hs, fun _ q => (by cases q), fun d K hd hK => ?_, fun d K hd hK => ?_⟩
  · obtain ⟨d, rfl⟩ : ∃ y, d = y + 1 := ⟨d - 1, by omega⟩
    refine iv_cE (iv_hb h.1.2.2.1) ?_
    show Tq_fault (d + 1) G (fun v G' => iv_J (mj_u G) G' → K (.inl v) G')
    refine w_Tq_fault h.1.1 ?_
    rintro _ rfl
    rw [show mj_i (mj_al G 8 6 (fun _ => 0)) 3 1 = nI (ls_n s) from (z_iAn (by omega)).trans h.2.2.2.2.2.1.1]
    refine c_Rd_init h.1.1 (by omega) ⟨rk_k.1, hc d G (nI 0) _ (by omega) h.1.1 hs.2.1 h.2.2.2.2.2.1.2 (fun r G' s1 F1 rx n1 u1 X => ⟨rx.1.2.1, fun hJ => ?_⟩)⟩
    have hk := hK ρ G' (LC_ext h F1 s1 (iv_end hJ (by omega)) ro_r) (yR_F (yR_ext (c := 167) (e := 1949) h F1 (by omega) (by omega)) (by decide) (by decide))
    cases res with
    | inl q => rw [show mj_i G' (mj_n G) 5 = Int32.ofInt (-1) from X.2.1]; exact hk
    | inr e => rw [show mj_i G' (mj_n G) 5 = nI e from X.2]; exact hk
  · obtain ⟨d, rfl⟩ : ∃ y, d = y + 1 := ⟨d - 1, by omega⟩
    have k0 := LM_0 (x := nI 0) hL
    exact w_m_fault hM (hm d Gm _ _ (by omega) hM k0.2.2.2.2.1 (fun p => hK _ _ (LM_pa k0) (rJ_v (by cases res <;> rfl) ((z_u2m (by decide)).trans z_u2s))))
/-- a Value with a text that is not safe, and its row -/
def nt (G : mj_G) (a m : Nat) (w : Nat → Nat) : Prop := mj_k G a = 12 ∧ mj_i G a 0 = nI 4 ∧ mj_i G a 2 = nI 0 ∧ mj_i G a 4 = nI m ∧ mj_r G a 3 = a + 2 ∧ mj_k G (a + 2) = 22 ∧ mj_l G (a + 2) = m ∧ ∀ j, j < m → mj_i G (a + 2) j = nI (w j)
theorem c_take {K : Nat → mj_G → Prop} (h : LC s ρ G) (hn : ls_n s ≤ 80) (hd : 2 ≤ d) (hK : ∀ G6, cs_S G6 → fn_F G G6 → mj_n G6 = mj_n G + 3 → mj_u G6 ≤ mj_u G + 48 → nt G6 (mj_n G) (mn2 (ls_n s) 40) (ls_w s) → K (mj_n G) (mj_pI G6 3 1 (nI 0))) : Tq_takeTyped d G K := by
  obtain ⟨d, rfl⟩ : ∃ y, d = y + 1 := ⟨d - 1, by omega⟩
  have hG := hh_n h.1
  have hS := h.1.1
  obtain ⟨m1, m2, -⟩ := mn2_le (a := ls_n s) (b := 40)
  refine w_Tq_takeTyped hS (c_newV hS (fun G2 hv => ?_))
  obtain ⟨v1, v2, v3, v4, v5, v6, v7, v8, v9, v10, v11⟩ := hv
  rw [h.2.2.2.2.2.1.1, mn2_i (by omega) (by decide)]
  have hw := h.2.2.2.2.2.1.2
  generalize hm : mn2 (ls_n s) 40 = m at m1 m2 hK
  refine c_copyOf (a := 0) (b := m) v1 (Nat.zero_le _) (by omega) (fun G3 s3 n3 u3 k3 l3 i3 f3 => ?_)
  rw [Nat.sub_zero] at u3 l3 i3
  have F3 : fn_F G2 G3 := ⟨(f3 0).1, fun c hc => by
    obtain ⟨x1, x2, x3, x4, -⟩ := (f3 (mj_n G3 + 1)).2 c hc
    exact ⟨x1, x2, x3, fun j => x4 j (fun q => by omega)⟩⟩
  have k12 : mj_k G3 (mj_n G) = 12 := (F3.2 _ (by omega)).1.trans v5
  refine ⟨k12, w_Va_setText s3 ⟨k12, ?_⟩⟩
  intro G4 e4 G5 e5
  have kr : ∀ b, mj_k G5 b = mj_k G3 b := fun b => by rw [e5, e4]; rfl
  have lr : ∀ b, mj_l G5 b = mj_l G3 b := fun b => by rw [e5, e4]; rfl
  rw [kr, lr, k3, l3, mn2_i (by omega) (by omega), show mn2 m m = m by unfold mn2; rw [if_neg (Nat.lt_irrefl _)], z_mx0 (by omega)]
  refine ⟨by decide, ?_⟩
  intro G6 e6
  refine ⟨Or.inl rfl, ?_⟩
  intro G7 e7
  rintro _ rfl
  have F7 : fn_F G G7 := by
    rw [e7, e6, e5, e4]
    exact fn_I (fn_I (fn_R (fn_I (fn_trans v2 F3) (Nat.le_refl _)) (Nat.le_refl _)) (Nat.le_refl _)) (Nat.le_refl _)
  have ne : mj_n G + 2 ≠ mj_n G := by omega
  refine hK G7 ?_ F7 ?_ ?_ ⟨?_, ?_, ?_, ?_, ?_, ?_, ?_, fun j hj => ?_⟩
  · rw [e7, e6, e5, e4]
    exact cs_pI (cs_pI (cs_pRg (cs_pI s3) hG))
  · rw [e7, e6, e5, e4]; show mj_n G3 = _; omega
  · rw [e7, e6, e5, e4]; show mj_u G3 ≤ _; omega
  · rw [e7, e6]; exact (kr _).trans k12
  · rw [e7, z_iIm (by decide), e6, z_iIm (by decide), e5, z_iRa, e4, z_iIs]
  · rw [e7, z_iIs]
  · rw [e7, z_iIm (by decide), e6, z_iIs]
  · rw [e7, z_rIa, e6, z_rIa, e5, z_rRs, v3]
  · rw [e7, e6]; show mj_k G5 _ = _; rw [kr, ← v3]; exact k3
  · rw [e7, e6]; show mj_l G5 _ = _; rw [lr, ← v3]; exact l3
  · rw [e7, z_iIn ne, e6, z_iIn ne, e5, z_iRa, e4, z_iIn ne, ← v3, i3 j hj, Nat.zero_add, (v2.2 4 (by omega)).2.2.2 j]
    exact hw j (by omega)
/-- the typed text gone: what every run keeps does not see it -/
theorem iv_3 {u0 : Nat} {x : Int32} (h : iv_J u0 (mj_pI G 3 1 x)) (hk : mj_k G 3 ≠ 12) : iv_J u0 G := ⟨h.1, fun c hc => by
  have := h.2.1 c hc
  rw [z_iIn (fun q => hk (by rw [← q]; exact hc))] at this
  exact this, h.2.2⟩
/-- new cells, and the typed text gone -/
theorem LC_0T {cc e : Nat} {G6 : mj_G} (h : LC s ρ G) (hJ : iv_J (mj_u G) (mj_pI G6 3 1 (nI 0))) (F : fn_F G G6) (hS : cs_S G6) (he : ro_e ρ ρ' G) (hn : mj_n G6 ≤ mj_n G + cc) (hu : mj_u G6 ≤ mj_u G + e) (he9 : e ≤ 9999) : LC (ls_z s 0 (fun _ => 0) (ls_k s)) ρ' (mj_pI G6 3 1 (nI 0)) ∧ yR cc e G (mj_pI G6 3 1 (nI 0)) := by
  have hk3 : mj_k G6 3 ≠ 12 := by rw [cs_k (K := 13) hS rfl]; decide
  have h1 := LC_ext h F hS (iv_end (iv_3 hJ hk3) (by omega)) he
  exact ⟨LC_T h1 (Or.inl rfl) ⟨z_iIs, fun k hk => absurd hk (Nat.not_lt_zero k)⟩, yR_t (yR_ext h F hn hu) (yR_I (by decide))⟩
theorem rv_Tok {n m : Nat} {w : Nat → Nat} (hW : tx_W w n) (hm : m ≤ n) : rv_ok (rv_T m w false) := rv_okT (by have := hW.1; omega) (fun j hj => hW.2.1 j (by omega))
theorem tx_W0 : tx_W (fun _ => 0) 0 := ⟨Nat.zero_le _, fun k hk => absurd hk (Nat.not_lt_zero k), fun _ _ => rfl⟩
theorem op_text {c : Nat} (hc : c < 65536) : opJ (fun d G K => Tq_text d (nI c) G K) (fun Gm d f K => m_text Gm d (nI c) f K) c15 := fun s hs => by
  have hn := hs.2.1.1
  rcases le_x hc with ⟨l, hl, rfl, hq⟩ | hq
  case inr =>
    refine ⟨s, .inr 15, hs, fun _ q => (by cases q; decide), fun d ρ G K hd h hK => ?_, fun Gm d f K hd hM h hK => ?_⟩
    · obtain ⟨d, rfl⟩ : ∃ y, d = y + 1 := ⟨d - 1, by omega⟩
      obtain ⟨a1, a2⟩ := LC_al (kd := 16) (len := 6) h (by decide)
      refine w_Tq_text h.1.1 (by omega) (by omega) ?_
      rw [q_let]
      exact z_bf hq (hK ρ _ a1 (yR_F a2 (by decide) (by decide)))
    · obtain ⟨d, rfl⟩ : ∃ y, d = y + 1 := ⟨d - 1, by omega⟩
      exact w_m_text hM (by omega) (z_bf hq (w_m_holds hM (z_bf (by decide) (z_bf (by decide) (hK _ _ (LM_0 h) (rJ_x z_u2s))))))
  obtain ⟨m1, m2, m3⟩ := mn2_le (a := ls_n s) (b := 40)
  generalize hm : mn2 (ls_n s) 40 = m at m1 m2 m3
  have okv := rv_Tok hs.2.1 m1
  have t1 : ¬ rv_t (rv_T m (ls_w s) false) = 1 := by show ¬ 2 = 1; decide
  have t3 : ¬ rv_t (rv_T m (ls_w s) false) = 3 := by show ¬ 2 = 3; decide
  refine ⟨ls_v s l (rv_T m (ls_w s) false) (u_I (ls_u s) l) 0 (fun _ => 0), .inl (nI m), LQ_v hs okv (fun q => absurd q t3) tx_W0, fun _ q => (by cases q), fun d ρ G K hd h hK => ?_, fun Gm d f K hd hM h hK => ?_⟩
  · obtain ⟨d, rfl⟩ : ∃ y, d = y + 1 := ⟨d - 1, by omega⟩
    have hG := hh_n h.1
    refine iv_cI (iv_hb h.1.2.2.1) ?_
    show Tq_text (d + 1) (nI (97 + l)) G (fun r G' => iv_J (mj_u G) G' → K r G')
    refine w_Tq_text h.1.1 (by omega) (by omega) ?_
    rw [q_let, z_sub (by omega), Nat.add_sub_cancel_left]
    refine z_bt hq (c_take h hn (by omega) (fun G6 s6 F6 n6 u6 ht => ?_))
    rw [hm] at ht
    obtain ⟨b1, b2, b3, b4, b5, b6, b7, b8⟩ := ht
    refine z_ixi hl (by decide) ⟨Or.inr (by show mj_k G6 (mj_n G) + 29 = mj_k G6 12; rw [b1, cs_k (K := 41) s6 rfl]), ?_⟩
    rintro _ rfl
    refine ⟨b1, fun hJ => ?_⟩
    obtain ⟨x1, x2⟩ := LC_0T (ρ' := ro_0 ρ (mj_n G)) (cc := 3) (e := 48) h (show iv_J (mj_u G) (mj_pI G6 3 1 (nI 0)) from hJ) F6 s6 ro_0e (by omega) (by omega) (by decide)
    have ne3 : mj_n G ≠ 3 := by omega
    obtain ⟨y1, y2⟩ := LC_dat (l := l) (a := mj_n G) (v := rv_T m (ls_w s) false) (it := u_I (ls_u s) l) x1 hl ⟨ro_0i hG (Nat.le_refl _), by show mj_n G < mj_n G6; omega, hG, okv, b1, by rw [z_iIn ne3, b3]; exact Or.inl rfl, by rw [z_iIn ne3, b2]; rfl, fun q => absurd q t1, fun _ => ⟨(z_iIn ne3).trans b4, (z_iIn ne3).trans b3, by show imm _ (mj_r G6 (mj_n G) 3); rw [b5]; exact ro_0i (by omega) (by omega), by show 2 ≤ mj_r G6 (mj_n G) 3; rw [b5]; omega, by show mj_r G6 (mj_n G) 3 < mj_n G6; rw [b5]; omega, by show mj_k G6 (mj_r G6 (mj_n G) 3) = 22; rw [b5]; exact b6, by show m ≤ mj_l G6 (mj_r G6 (mj_n G) 3); rw [b5, b7]; exact Nat.le_refl _, fun j hj => by
      show mj_i (mj_pI G6 3 1 (nI 0)) (mj_r G6 (mj_n G) 3) j = _
      rw [b5, z_iIn (by omega)]
      exact b8 j hj⟩, fun q => absurd q t3⟩
    have e4 : mj_i (mj_pR (mj_pI G6 3 1 (nI 0)) 12 l (mj_n G)) (mj_n G) 4 = nI m := z_iRa.trans ((z_iIn ne3).trans b4)
    rw [e4]
    exact hK _ _ y1 (yR_F (yR_t x2 y2) (by decide) (by decide))
  · obtain ⟨d, rfl⟩ : ∃ y, d = y + 1 := ⟨d - 1, by omega⟩
    refine w_m_text hM (by omega) (z_bt hq (w_m_holds hM (z_bt rfl (z_bt rfl ?_))))
    rw [z_sub (by omega), Nat.add_sub_cancel_left]
    have k0 := LM_0 (x := nI 0) h
    have z0 : (mj_u2 f 1714 0 (nI 0)) 1714 0 = nI 0 := z_u2s
    generalize mj_u2 f 1714 0 (nI 0) = g at k0 z0 ⊢
    have eT : (mj_u2 g 1720 l (nI 2)) 1714 2 = nI (ls_n s) := (z_u2n (by decide)).trans k0.2.2.2.2.1.1
    have go : ∀ j i f1, i + j = m → (∀ b k, ¬ (b = 1723 ∧ 40 * l ≤ k ∧ k < 40 * l + 40) → f1 b k = (mj_u2 (mj_u2 g 1720 l (nI 2)) 1722 l (nI m)) b k) → (∀ k, k < i → f1 1723 (40 * l + k) = nI (ls_w s k)) → m_text_59 Gm (d + 1) (nI l) (nI i) f1 K := fun j => by
      induction j with
      | zero =>
        intro i f1 hi F1 hc1
        have hi' : i = m := by omega
        subst hi'
        have e22 : f1 1722 l = nI i := (F1 1722 l (by omega)).trans z_u2s
        refine w_m_text_59 hM (z_ixi hl (by decide) (z_bt (by rw [e22, z_le (by omega) (by omega)]; exact Nat.le_refl _) (z_ixi hl (by decide) ?_)))
        rw [show (mj_u2 f1 1714 2 (nI 0)) 1722 l = nI i from (z_u2n (by decide)).trans e22]
        have other : ∀ b k, ¬ (b = 1723 ∧ 40 * l ≤ k ∧ k < 40 * l + 40) → ¬ (b = 1714 ∧ k = 2) → ¬ ((b = 1720 ∨ b = 1722) ∧ k = l) → (mj_u2 f1 1714 2 (nI 0)) b k = g b k := fun b k q1 q2 q3 => (z_uo q2).trans ((F1 b k q1).trans ((z_uo (fun t => q3 ⟨Or.inr t.1, t.2⟩)).trans (z_uo (fun t => q3 ⟨Or.inl t.1, t.2⟩))))
        have F2 : mw no_R (fun j => j = 2) R_d g (mj_u2 f1 1714 2 (nI 0)) := by
          have nr : ∀ a, ¬ R_d a → a ≠ 1715 ∧ ¬ (1720 ≤ a ∧ a ≤ 1727) := fun a q => ⟨fun t => q (Or.inl t), fun t => q (Or.inr t)⟩
          exact ⟨fun a k q1 q2 q3 => by have := nr a q3; exact other a k (by omega) (by omega) (by omega), fun k q => other _ k (by omega) (by omega) (by omega), fun a k q1 q2 _ => other a k (by omega) (by omega) (by omega), fun k _ => other _ k (by omega) (by omega) (by omega)⟩
        refine hK _ _ (LM_v k0 F2 (fun j q => Or.inr q) ⟨z_u2s, fun k hk => absurd hk (Nat.not_lt_zero k)⟩ ⟨okv, ?_, fun q => absurd q t1, fun _ => (z_u2n (by decide)).trans e22, fun _ => ⟨rfl, m2, fun k hk => (z_u2n (by decide)).trans (hc1 k hk)⟩, fun q => absurd q t3⟩ (fun y hy hyl => ⟨fun b q1 q2 => other b y (by omega) (by omega) (by omega), fun k hk => other _ _ (by omega) (by omega) (by omega), fun k hk => ⟨fun b q1 q2 => other b _ (by omega) (by omega) (by omega), fun z hz => other _ _ (by omega) (by omega) (by omega)⟩⟩)) (rJ_v rfl ((other _ _ (by omega) (by omega) (by omega)).trans z0))
        exact (z_u2n (by decide)).trans ((F1 1720 l (by omega)).trans ((z_u2n (by decide)).trans z_u2s))
      | succ j ih =>
        intro i f1 hi F1 hc1
        have e22 : f1 1722 l = nI m := (F1 1722 l (by omega)).trans z_u2s
        refine w_m_text_59 hM (z_ixi hl (by decide) (z_bf (by rw [e22, z_le (by omega) (by omega)]; omega) (z_ixi (by omega) (by decide) ?_)))
        rw [z_mul, z_add, z_add, show f1 1715 i = nI (ls_w s i) from (F1 _ _ (by omega)).trans ((z_u2n (by decide)).trans ((z_u2n (by decide)).trans (k0.2.2.2.2.1.2 i (by omega))))]
        refine z_ixi (by omega) (by decide) (ih (i + 1) _ (by omega) (fun b k q => (z_uo (fun t => q (by omega))).trans (F1 b k q)) (fun k hk => ?_))
        by_cases q : k = i
        · rw [q]; exact z_u2s
        · exact (z_uo (fun t => by omega)).trans (hc1 k (by omega))
    have start := go m 0 _ (by omega) (fun _ _ _ => rfl) (fun k hk => absurd hk (Nat.not_lt_zero k))
    refine z_ixi hl (by decide) ?_
    rw [eT, z_le (by decide) (by omega)]
    refine z_br (fun q => z_ixi hl (by decide) ?_) (fun q => z_ixi hl (by decide) ?_)
    · rw [show m = 40 by omega] at start
      exact start
    · rw [show m = ls_n s by omega] at start
      exact start
end ZZZ6
