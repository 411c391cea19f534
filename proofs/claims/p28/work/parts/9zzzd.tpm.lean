/-! THE CALLS OF THE LAW: template, by the model, and by both -/
/-- as opK, at the depths of the law -/
def opD (Cl : Nat → mj_G → (Int32 ⊕ Nat → mj_G → Prop) → Prop) (Mo : mj_G → Nat → mm_F → (Int32 → mm_F → Prop) → Prop) (c : Nat → Nat) : Prop := ∀ Gm s ρ G f, mm_S Gm → LQ s → LC s ρ G → LM s f → ∃ s' res, LQ s' ∧ (∀ k, res = .inr k → c k ≠ 0) ∧ (∀ K, (∀ ρ' G', LC s' ρ' G' → yF G G' → K res G') → Cl 2045 G K) ∧ ∀ K, (∀ f' v, LM s' f' → rJ c res v (f' 1714 0) → K v f') → Mo Gm 2046 f K
theorem opD_of {Cl : Nat → mj_G → (Int32 ⊕ Nat → mj_G → Prop) → Prop} {Mo : mj_G → Nat → mm_F → (Int32 → mm_F → Prop) → Prop} {c : Nat → Nat} (h : opK Cl Mo c) : opD Cl Mo c := fun Gm s ρ G f hM hs hC hL => by
  obtain ⟨s', res, a1, a2, a3, a4⟩ := h Gm s ρ G f hM hs hC hL
  exact ⟨s', res, a1, a2, fun K hK => a3 2045 K (by decide) hK, fun K hK => a4 2046 K (by decide) hK⟩
section ZZZD
variable {s : lst} {u : wo} {ρ ρ' : Nat → Nat} {G G1 G' Gm H : mj_G} {f f' : mm_F} {a t t' t0 n l m c p r : Nat} {w : Nat → Nat} {d : Nat} {L : List (Nat × Nat)} {A : Nat → Prop}
theorem p_tpl37 {K : Int32 → mm_F → Prop} {g : mm_F} (hM : mm_S Gm) (hs : LQ s) (ht : t < 10) (k0 : LM s g) (hp : pa_t (ls_w s) p) (hbr : ∀ j, j < ls_n s → ls_w s j = 123 → j + 1 < ls_n s) (hK : ∀ f', LM (ls_p s t p r L A H) f' → f' 1714 0 = g 1714 0 → K (nI (ct (ls_w s) (ls_n s))) f') : m_template_37 Gm (d + 1) (nI t) (nI 0) (nI 0) g K := by
  have hn := hs.2.1.1
  have eT := k0.2.2.2.2.1.1
  have go : ∀ m i f1, i + m = ls_n s → (∀ b' k, ¬ (b' = 1716 ∧ 80 * t ≤ k ∧ k < 80 * t + 80) → f1 b' k = g b' k) → (∀ k, k < i → f1 1716 (80 * t + k) = nI (ls_w s k)) → m_template_37 Gm (d + 1) (nI t) (nI (ct (ls_w s) i)) (nI i) f1 K := fun m => by
    induction m with
    | zero =>
      intro i f1 hi F1 hc1
      have hi' : i = ls_n s := by omega
      subst hi'
      have e2 : f1 1714 2 = nI (ls_n s) := (F1 _ _ (by omega)).trans eT
      refine w_m_template_37 hM ?_
      rw [e2, z_le (by omega) (by omega)]
      refine z_bt (Nat.le_refl _) (z_ixi ht (by decide) (p_forget hM (fun f' F z1 => ?_)))
      have hf : ∀ b' k, ¬ (b' = 1716 ∧ 80 * t ≤ k ∧ k < 80 * t + 80) → ¬ (b' = 1717 ∧ k = t) → ¬ (b' = 1714 ∧ k = 2) → b' ≠ 1749 → f' b' k = g b' k := fun b' k q1 q2 q3 q4 => (F b' k q4).trans ((z_uo q3).trans ((z_uo q2).trans (F1 b' k q1)))
      have h16 : ∀ k, k < ls_n s → f' 1716 (80 * t + k) = nI (ls_w s k) := fun k hk => (F _ _ (by decide)).trans ((z_u2n (by decide)).trans ((z_u2n (by decide)).trans (hc1 k hk)))
      have h17 : f' 1717 t = nI (ls_n s) := (F _ _ (by decide)).trans ((z_u2n (by decide)).trans z_u2s)
      have h2 : f' 1714 2 = nI 0 := (F _ _ (by decide)).trans z_u2s
      have hrow : ∀ b', b' ≠ 1716 → b' ≠ 1717 → b' ≠ 1714 → b' ≠ 1749 → f' b' = g b' := fun b' q1 q2 q3 q4 => funext fun k => hf b' k (by omega) (by omega) (by omega) q4
      have hs14 : ∀ k, k ≠ 2 → f' 1714 k = g 1714 k := fun k q => hf _ _ (by omega) (by omega) (by omega) (by decide)
      obtain ⟨⟨w1, w2, w3, w4⟩, m2, ⟨⟨oQ, ⟨p1, p2, p3, p4, p5⟩, q2, q3⟩, q4, q5⟩, ⟨m4, m5⟩, m6, m7⟩ := k0
      refine hK f' ⟨⟨fun T hT => ?_, ?_, ?_, (hs14 67 (by decide)).trans w4⟩, fgM_0 z1, ⟨⟨oQ, ⟨p1, (hs14 61 (by decide)).trans p2, (hs14 62 (by decide)).trans p3, fun i hi => (by rw [hrow 1759 (by decide) (by decide) (by decide) (by decide)]; exact p4 i hi), fun i hi => (by rw [hrow 1760 (by decide) (by decide) (by decide) (by decide)]; exact p5 i hi)⟩, q2, q3⟩, (hs14 64 (by decide)).trans q4, fun i hi => (by rw [hrow 1761 (by decide) (by decide) (by decide) (by decide)]; exact q5 i hi)⟩, ⟨(hs14 68 (by decide)).trans m4, (hs14 69 (by decide)).trans m5⟩, ⟨h2, fun k hk => absurd hk (Nat.not_lt_zero k)⟩, fun i hi => (by rw [hrow 1763 (by decide) (by decide) (by decide) (by decide)]; exact m7 i hi)⟩ (hs14 0 (by decide))
      · show mt_T f' T (g_u (u_w (ls_u s)) t (ls_w s) T) (g_u (u_n (ls_u s)) t (ls_n s) T) ∧ g_u (u_pa (ls_u s)) t p T ≤ 10 ∧ ((g_u (u_pa (ls_u s)) t p T = 0 ∧ ¬ (g_u (u_w (ls_u s)) t (ls_w s) T 0 = 123 ∧ g_u (u_w (ls_u s)) t (ls_w s) T 1 = 60)) ∨ (g_u (u_w (ls_u s)) t (ls_w s) T 0 = 123 ∧ g_u (u_w (ls_u s)) t (ls_w s) T 1 = 60 ∧ tx_D (g_u (u_w (ls_u s)) t (ls_w s) T 2) ∧ g_u (u_pa (ls_u s)) t p T = g_u (u_w (ls_u s)) t (ls_w s) T 2 - 48 + 1))
        by_cases q : T = t
        · subst q
          rw [g_us, g_us, g_us]
          exact ⟨⟨hT, hs.2.1, h17, h16⟩, hp⟩
        · rw [g_un q, g_un q, g_un q]
          obtain ⟨⟨x1, x2, x3, x4⟩, x5⟩ := w1 T hT
          have hn80 := x2.1
          exact ⟨⟨x1, x2, (hf _ _ (by omega) (by omega) (by omega) (by decide)).trans x3, fun k hk => (hf _ _ (by omega) (by omega) (by omega) (by decide)).trans (x4 k hk)⟩, x5⟩
      · show mfo f' (u_F (ls_u s))
        unfold mfo at w2 ⊢
        rw [hrow 1718 (by decide) (by decide) (by decide) (by decide), hrow 1719 (by decide) (by decide) (by decide) (by decide)]
        exact w2
      · show md f' (u_D (ls_u s)) (u_I (ls_u s))
        unfold md at w3 ⊢
        rw [hrow 1720 (by decide) (by decide) (by decide) (by decide), hrow 1721 (by decide) (by decide) (by decide) (by decide), hrow 1722 (by decide) (by decide) (by decide) (by decide), hrow 1723 (by decide) (by decide) (by decide) (by decide), hrow 1724 (by decide) (by decide) (by decide) (by decide), hrow 1725 (by decide) (by decide) (by decide) (by decide), hrow 1726 (by decide) (by decide) (by decide) (by decide), hrow 1727 (by decide) (by decide) (by decide) (by decide)]
        exact w3
    | succ m ih =>
      intro i f1 hi F1 hc1
      have e2 : f1 1714 2 = nI (ls_n s) := (F1 _ _ (by omega)).trans eT
      have hwi := (hs.2.1.2.1 i (by omega)).2
      have e15 : ∀ k, k < ls_n s → f1 1715 k = nI (ls_w s k) := fun k hk => (F1 _ _ (by omega)).trans (k0.2.2.2.2.1.2 k hk)
      have e15' : ∀ k, k < ls_n s → (mj_u2 f1 1716 (80 * t + i) (nI (ls_w s i))) 1715 k = nI (ls_w s k) := fun k hk => (z_u2n (by decide)).trans (e15 k hk)
      refine w_m_template_37 hM ?_
      rw [e2, z_le (by omega) (by omega)]
      refine z_bf (by omega) (z_ixi (by omega) (by decide) ?_)
      rw [z_mul, z_add, e15 i (by omega)]
      refine z_ixi (by omega) (by decide) (z_ixi (by omega) (by decide) ?_)
      rw [e15' i (by omega), z_eq (by omega) (by decide), z_add i, z_add (ct (ls_w s) i), z_add (ct (ls_w s) i)]
      have hnx := ih (i + 1) (mj_u2 f1 1716 (80 * t + i) (nI (ls_w s i))) (by omega) (fun b' k q => (z_uo (fun e => q (by omega))).trans (F1 b' k q)) (fun k hk => by
        by_cases q : k = i
        · rw [q]; exact z_u2s
        · exact (z_uo (fun e => by omega)).trans (hc1 k (by omega)))
      have e : ct (ls_w s) (i + 1) = ct (ls_w s) i + ctb (ls_w s) i := rfl
      rw [e] at hnx
      refine z_br (fun q => ?_) (fun q => ?_)
      · have hi1 := hbr i (by omega) q
        have hw1 := (hs.2.1.2.1 (i + 1) hi1).2
        refine z_ixi (by omega) (by decide) ?_
        rw [e15' (i + 1) hi1, z_eq (by omega) (by decide)]
        refine z_br (fun q1 => ?_) (fun q1 => z_ixi (by omega) (by decide) ?_)
        · rw [show ctb (ls_w s) i = 0 from if_neg (fun y => y.2.1 q1)] at hnx
          exact hnx
        · rw [e15' (i + 1) hi1, z_eq (by omega) (by decide)]
          refine z_br (fun q2 => ?_) (fun q2 => ?_)
          · rw [show ctb (ls_w s) i = 0 from if_neg (fun y => y.2.2 q2)] at hnx
            exact hnx
          · rw [show ctb (ls_w s) i = 1 from if_pos ⟨q, q1, q2⟩] at hnx
            exact hnx
      · rw [ctb_0 q] at hnx
        exact hnx
  exact go (ls_n s) 0 g (Nat.zero_add _) (fun _ _ _ => rfl) (fun k hk => absurd hk (Nat.not_lt_zero k))
theorem z_n1 {e : Nat} (he : e < 2 ^ 31) : ¬ nI e = Int32.ofInt (-1) := fun q => by
  have h := congrArg Int32.toInt q
  rw [nI_toInt he, show (Int32.ofInt (-1)).toInt = -1 from by decide] at h
  omega
theorem op_template {x : Int32} : opD (fun d G K => Tq_template d x G K) (fun Gm d f K => m_template Gm d x f K) cB := fun Gm s ρ G f hM hs h hL => by
  have hG := hh_n h.1
  have hn := hs.2.1.1
  rcases di_x (x := x) with ⟨t, ht, rfl, hq⟩ | ⟨hq, hx⟩
  case inr =>
    refine ⟨s, .inr 17, hs, fun _ q => (by cases q; decide), fun K hK => ?_, fun K hK => ?_⟩
    · obtain ⟨a1, a2⟩ := LC_al (kd := 18) (len := 6) h (by decide)
      have hk := hK ρ _ a1 (yR_F a2 (by decide) (by decide))
      refine w_Tq_template (d := 2044) h.1.1 (by decide) ?_
      rcases hx with hx | ⟨hx, hx'⟩
      · exact z_bt hx hk
      · exact z_bf hx (z_bf hx' hk)
    · exact w_m_template (d := 2045) hM (by decide) (z_bf hq (w_m_holds hM (z_bf (by decide) (z_bf (by decide) (hK _ _ (LM_0 hL) (rJ_x z_u2s))))))
  obtain ⟨res, hc, hm⟩ := rw_all hs.2.1
  cases res with
  | inr e =>
    have he80 : ∀ {r G'}, rw_X (ls_w s) (ls_n s) (nI t) G (.inr e) r G' → e ≤ ls_n s ∧ mj_i G' (mj_n G) 5 = nI e := fun X => X
    have hen : e ≤ ls_n s := by
      have h0 : Rd_readBody 2000 (mj_n G) (nI 0) (Int32.ofInt (-1)) (nI 0) (rk_G G (nI (ls_n s)) (nI t)) (fun _ _ => e ≤ ls_n s) := hc 2000 G (nI t) _ (by omega) h.1.1 hs.2.1 h.2.2.2.2.2.1.2 (fun r G' _ _ _ _ _ X => (he80 X).1)
      obtain ⟨o, G', hQ, -⟩ := mj_X_det h0
      obtain ⟨v, -, -, hk⟩ := hQ
      exact hk
    refine ⟨s, .inr 15, hs, fun _ q => (by cases q; decide), fun K hK => ?_, fun K hK => ?_⟩
    · refine iv_cI (iv_hb h.1.2.2.1) ?_
      show Tq_template 2045 (nI t) G (fun r G' => iv_J (mj_u G) G' → K r G')
      refine w_Tq_template (d := 2044) h.1.1 (by decide) ?_
      rw [z_lt (by omega) (by decide), z_lt (by omega) (by decide)]
      refine z_bf (by omega) (z_bt ht ?_)
      rintro _ rfl
      rw [show mj_i (mj_al G 8 6 (fun _ => 0)) 3 1 = nI (ls_n s) from (z_iAn (by omega)).trans h.2.2.2.2.2.1.1]
      refine c_Rd_init h.1.1 (by decide) ⟨rk_k.1, hc 2044 G (nI t) _ (by omega) h.1.1 hs.2.1 h.2.2.2.2.2.1.2 (fun r G' s1 F1 rx n1 u1 X => ⟨rx.1.2.1, ?_⟩)⟩
      rw [(he80 X).2]
      refine z_bf (z_n1 (by omega)) (fun hJ => ?_)
      have F2 : fn_F G (mj_al G' 16 6 (fun _ => 0)) := fn_A F1
      have n2 : mj_n (mj_al G' 16 6 (fun _ => 0)) = mj_n G' + 1 := rfl
      have u2 : mj_u (mj_al G' 16 6 (fun _ => 0)) = mj_u G' + 6 := rfl
      exact hK ρ _ (LC_ext h F2 (cs_al s1) (iv_end hJ (by omega)) ro_r) (yR_F (yR_ext (c := 168) (e := 1955) h F2 (by omega) (by omega)) (by decide) (by decide))
    · refine w_m_template (d := 2045) hM (by decide) (z_bt hq (hm 2045 Gm f _ (by omega) hM hL.2.2.2.2.1 (fun p => ?_)))
      exact z_bf (z_n1 (by omega)) (w_m_holds hM (z_bf (by decide) (z_bf (by decide) (hK _ _ (LM_0 (LM_pa hL)) (rJ_x z_u2s)))))
  | inl q =>
    have h0 : Tq_template 2045 (nI t) G (fun r H => ∃ p r' L A, LC (ls_p s t p r' L A H) (ro_0 ρ (mj_n G)) H ∧ LQ (ls_p s t p r' L A H) ∧ yF G H ∧ pa_t (ls_w s) p ∧ (∀ j, j < ls_n s → ls_w s j = 123 → j + 1 < ls_n s) ∧ r = .inl (nI (ct (ls_w s) (ls_n s)))) := c_tpl h hs hc ht (by decide) (fun p r L A H a1 a2 a3 a4 a5 => ⟨p, r, L, A, a1, a2, a3, a4, a5, rfl⟩)
    obtain ⟨o, H, ⟨hSH, hQ⟩, -, -, hX⟩ := mj_X_det h0
    rcases hQ with ⟨v, ev, p, r', L, A, c1, c2, c3, c4, c5, c6⟩ | ⟨k, -, -, -, -, -, -, -, -, -, -, c6⟩
    case inr => exact nomatch c6
    have ev' : v = nI (ct (ls_w s) (ls_n s)) := Sum.inl.inj c6
    subst ev'
    refine ⟨ls_p s t p r' L A H, .inl (nI (ct (ls_w s) (ls_n s))), c2, fun _ q => (by cases q), fun K hK => ?_, fun K hK => ?_⟩
    · refine mj_X_mono hX (fun a b hab => ?_)
      obtain ⟨e1, e2⟩ := hab
      rw [e1, e2]
      exact ⟨hSH, Or.inl ⟨_, ev, hK _ _ c1 c3⟩⟩
    · refine w_m_template (d := 2045) hM (by decide) (z_bt hq (hm 2045 Gm f _ (by omega) hM hL.2.2.2.2.1 (fun p' => ?_)))
      exact z_bt rfl (w_m_holds hM (z_bt rfl (z_bt rfl (p_tpl37 hM hs ht (LM_0 (LM_pa hL)) c4 c5 (fun f' b1 b2 => hK f' _ b1 (rJ_v rfl (b2.trans z_u2s)))))))
end ZZZD
