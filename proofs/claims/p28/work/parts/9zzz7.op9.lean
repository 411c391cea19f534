/-! THE CALLS OF THE LAW: items added -/
section ZZZ7
variable {s : lst} {ρ ρ' : Nat → Nat} {G G1 G' Gm : mj_G} {f f' : mm_F} {n l m a R r2 : Nat} {w : Nat → Nat} {d : Nat} {D : Nat → rv} {I : Nat → Nat → rv}
theorem cs_wg {a : Nat} (h : 1768 ≤ a) : cs_w a := by
  unfold cs_w
  omega
/-- an item behind those of a list: a new row, a new Value -/
theorem c_append {K : Int32 → mj_G → Prop} (hS : cs_S G) (hl : l < 26) (hk : mj_k G (mj_r G 12 l) = 12) (hRe : mj_r G (mj_r G 12 l) 5 = R) (hR : mj_k G R = 41) (hL : mj_l G R = n) (hRl : R < mj_n G) (hn : n ≤ 7) (hit : ∀ k, k < n → mj_k G (mj_r G R k) = 12 ∧ mj_r G R k < mj_n G) (hr2 : mj_k G r2 = 12) (hr2l : r2 < mj_n G) (hd : 1 ≤ d)
    (hK : ∀ Gz, cs_S Gz → fn_F G Gz → mj_n Gz = mj_n G + 3 → mj_u Gz ≤ mj_u G + 20 → mj_k Gz (mj_n G + 1) = 12 → mj_i Gz (mj_n G + 1) 0 = nI 8 → mj_i Gz (mj_n G + 1) 2 = nI 0 → mj_r Gz (mj_n G + 1) 5 = mj_n G → mj_k Gz (mj_n G) = 41 → mj_l Gz (mj_n G) = n + 1 → (∀ k, k < n → mj_r Gz (mj_n G) k = mj_r G R k) → mj_r Gz (mj_n G) n = r2 → K (nI (n + 1)) (mj_pR Gz 12 l (mj_n G + 1))) : Tq_append d (nI l) r2 G K := by
  obtain ⟨d, rfl⟩ : ∃ y, d = y + 1 := ⟨d - 1, by omega⟩
  have hG := hS.1
  refine w_Tq_append hS (z_ixi hl (by decide) ⟨hk, ?_⟩)
  rw [hRe, hL, z_add]
  refine ⟨by rw [hR]; decide, ?_⟩
  have hnn : (nI (n + 1)).toNatClampNeg = n + 1 := (z_ixi (N := 100) (K := fun k => k = n + 1) (n := n + 1) (by omega) (by decide) rfl).2
  refine ⟨fun q => ?_, by rw [hnn]; omega, ?_⟩
  · rw [show (0 : Int32) = nI 0 from rfl, z_lt (by omega) (by decide)] at q
    omega
  rw [hnn]
  rintro _ rfl
  have k41 : ∀ H, fn_F G H → mj_k H 12 = 41 := fun H F => (F.2 12 (by omega)).1.trans (cs_k (K := 41) hS rfl)
  have go : ∀ j i H, i + j = n → cs_S H → fn_F G H → mj_n H = mj_n G + 1 → mj_u H = mj_u G + (n + 1) → mj_k H (mj_n G) = 41 → mj_l H (mj_n G) = n + 1 → (∀ k, k < i → mj_r H (mj_n G) k = mj_r G R k) → Tq_append_28 (d + 1) (nI l) r2 R (mj_n G) (nI i) H K := fun j => by
    induction j with
    | zero =>
      intro i H hi sH F nH uH kH lH hc
      have hi' : i = n := by omega
      subst hi'
      obtain ⟨x1, x2, x3, x4⟩ := F.2 R hRl
      refine w_Tq_append_28 sH ⟨by rw [x1, hR]; decide, ?_⟩
      rw [x1, x2, hL, hR, kH, lH, z_le (by omega) (by omega)]
      refine z_bt (Nat.le_refl _) ⟨by decide, by decide, z_ixi (by omega) (by omega) ⟨Or.inr (by rw [(F.2 r2 hr2l).1, hr2]), cs_wg hG, ?_⟩⟩
      rintro _ rfl
      have s1 : cs_S (mj_pR H (mj_n G) i r2) := cs_pRg sH hG
      refine c_newV s1 (fun G2 hv => ?_)
      obtain ⟨v1, v2, v3, v4, v5, v6, v7, v8, v9, v10, v11⟩ := hv
      have en : mj_n (mj_pR H (mj_n G) i r2) = mj_n G + 1 := nH
      rw [en] at v3 v5 v6 v7 v8 v9 v10 v11
      rw [en]
      refine ⟨v5, w_Va_setItems v1 ⟨v5, ?_⟩⟩
      intro G3 e3 G4 e4
      have F1 : fn_F G (mj_pR H (mj_n G) i r2) := fn_R F (Nat.le_refl _)
      have F4 : fn_F G G4 := by rw [e4, e3]; exact fn_R (fn_I (fn_trans F1 v2) (by omega)) (by omega)
      have kk : ∀ b, mj_k G4 b = mj_k G2 b := fun b => by rw [e4, e3]; rfl
      have ll : ∀ b, mj_l G4 b = mj_l G2 b := fun b => by rw [e4, e3]; rfl
      obtain ⟨y1, y2, y3, y4⟩ := v2.2 (mj_n G) (by rw [en]; omega)
      refine z_ixi hl (by decide) ⟨Or.inr (by rw [kk, v5, k41 G4 F4]), ?_⟩
      rintro _ rfl
      have k20 : mj_k (mj_pR G4 12 l (mj_n G + 1)) (mj_n G) = 41 := (kk _).trans (y1.trans kH)
      have l20 : mj_l (mj_pR G4 12 l (mj_n G + 1)) (mj_n G) = i + 1 := (ll _).trans (y2.trans lH)
      rw [k20, l20]
      refine ⟨by decide, ?_⟩
      have rr : ∀ k, mj_r G4 (mj_n G) k = mj_r (mj_pR H (mj_n G) i r2) (mj_n G) k := fun k => by
        rw [e4, z_rRn (by omega), e3, z_rIa]
        exact y3 k
      refine hK G4 ?_ F4 ?_ ?_ ((kk _).trans v5) ?_ ?_ ?_ ((kk _).trans (y1.trans kH)) ((ll _).trans (y2.trans lH)) (fun k hk => ?_) ?_
      · rw [e4, e3]; exact cs_pRg (cs_pI v1) (by omega)
      · rw [e4, e3]; show mj_n G2 = _; omega
      · rw [e4, e3]; show mj_u G2 ≤ _; rw [v4]; show mj_u H + 8 ≤ _; omega
      · rw [e4, z_iRa, e3, z_iIs]
      · rw [e4, z_iRa, e3, z_iIm (by decide), v7]
      · rw [e4, z_rRs]
      · rw [rr, z_rRm (by omega)]; exact hc k hk
      · rw [rr, z_rRs]
    | succ j ih =>
      intro i H hi sH F nH uH kH lH hc
      obtain ⟨x1, x2, x3, x4⟩ := F.2 R hRl
      obtain ⟨t1, t2⟩ := hit i (by omega)
      refine w_Tq_append_28 sH ⟨by rw [x1, hR]; decide, ?_⟩
      rw [x1, x2, hL, hR, kH, lH, z_le (by omega) (by omega)]
      refine z_bf (by omega) ⟨by decide, z_ixi (by omega) (by omega) ⟨by decide, z_ixi (by omega) (by omega) ⟨Or.inr (by rw [x3, (F.2 _ t2).1, t1]), cs_wg hG, ?_⟩⟩⟩
      rintro _ rfl
      rw [z_add, x3]
      refine ih (i + 1) _ (by omega) (cs_pRg sH hG) (fn_R F (Nat.le_refl _)) nH uH kH lH (fun k hk => ?_)
      by_cases q : k = i
      · rw [q, z_rRs]
      · rw [z_rRm q]; exact hc k (by omega)
  exact go n 0 _ (by omega) (cs_al hS) fn_al rfl rfl z_kAs z_lAs (fun k hk => absurd hk (Nat.not_lt_zero k))
/-- whether there is room for an item -/
def hr_b (D : Nat → rv) (l : Nat) : Bool := decide (rv_t (D l) = 3 ∧ rv_l (D l) ≤ 7)
theorem c_room {K : Bool → mj_G → Prop} (h : hh ρ D I G) (hl : l < 26) (hK : K (hr_b D l) G) : Tq_hasRoom d (nI l) G K := by
  obtain ⟨a1, a2, a3, a4, a5⟩ := h.2.2.2 l hl
  have e3 : (mj_i G (mj_r G 12 l) 0 = nI 8) = (rv_t (D l) = 3) := by
    rw [a3.2.2.1]
    have := a4.1
    generalize rv_t (D l) = t at this
    rcases (by omega : t = 0 ∨ t = 1 ∨ t = 2 ∨ t = 3) with rfl | rfl | rfl | rfl <;> exact propext (by decide)
  refine w_Tq_hasRoom h.1 (z_ixi hl (by decide) ⟨a3.1, ?_⟩)
  unfold hr_b at hK
  refine z_br (fun q => ?_) (fun q => ?_)
  · rw [e3] at q
    obtain ⟨b1, b2, b3, b4, b5, -⟩ := a5 q
    have b4' : mj_k G (mj_r G (mj_r G 12 l) 5) = 41 := b4
    have b5' : mj_l G (mj_r G (mj_r G 12 l) 5) = rv_l (D l) := b5
    have := (a4.2.2.2.2 q).1
    rw [b4', b5', z_le (by decide) (by omega)]
    refine ⟨by decide, z_br (fun q1 => ?_) (fun q1 => ?_)⟩
    · rw [decide_eq_false (by omega)] at hK; exact hK
    · rw [decide_eq_true (by omega)] at hK; exact hK
  · rw [e3] at q
    rw [decide_eq_false (by omega)] at hK; exact hK
theorem p_room {K : Int32 → mm_F → Prop} (hM : mm_S Gm) (h : md f D I) (hl : l < 26) (hd : 16 ≤ d) (hK : K (if hr_b D l = true then nI 0 else nI 2) f) : m_errorOfItem Gm d (nI (97 + l)) f K := by
  obtain ⟨d, rfl⟩ : ∃ y, d = y + 1 := ⟨d - 1, by omega⟩
  obtain ⟨a1, a2, a3, a4, a5⟩ := h l hl
  have hq : qb (q_13005 (nI (97 + l))) = true := by
    show qb (q_13003 (nI (97 + l)) (nI 97) (nI 122)) = true
    rw [z_in (by decide) (by decide) (by omega)]
    omega
  have h3 := a1.1
  refine w_m_errorOfItem hM (by omega) (z_bt hq ?_)
  rw [z_sub (by omega), Nat.add_sub_cancel_left]
  refine z_ixi hl (by decide) ?_
  rw [a2, z_eq (by omega) (by decide)]
  unfold hr_b at hK
  refine z_br (fun q => z_ixi hl (by decide) ?_) (fun q => ?_)
  · have := (a1.2.2.2.2 q).1
    rw [a4 (by omega), z_eq (by omega) (by decide)]
    refine z_br (fun q1 => ?_) (fun q1 => ?_)
    · rw [decide_eq_false (by omega)] at hK; exact hK
    · rw [decide_eq_true (by omega)] at hK; exact hK
  · rw [decide_eq_false (by omega)] at hK; exact hK
end ZZZ7
