/-! EXPRESSIONS ARE READ: a text in ' -/
section EX
variable {G : mj_G} {rd : Nat} {w : Nat → Nat} {n p d : Nat}
theorem je_quoteX {K : Nat → mj_G → Prop} {e : Nat} (hS : cs_S G) (hR : rd_R G rd w n) (hO : rd_O G rd p) (hd : 17 ≤ d) (h39 : w p = 39) (hpe : p + 1 ≤ e) (hen : e ≤ n) (hq : ∀ j, p + 1 ≤ j → j < e → tx_Q (w j))
    (h1 : w e = 39 → ∀ r G', cs_S G' → rd_X rd w p true G (.inl (e + 1)) r G' → K r G') (h2 : ¬ w e = 39 → ∀ r G', cs_S G' → rd_X rd w p true G (.inr e) r G' → K r G') :
    Tq_copyOf d (mj_r (mj_pI (ex_N G (nI 2)) rd 4 (nI e)) rd 0) (nI (p + 1)) (mj_i (mj_pI (ex_N G (nI 2)) rd 4 (nI e)) rd 4) (mj_pI (ex_N G (nI 2)) rd 4 (nI e)) (fun v7 G6 => (mj_k G6 (mj_n G) = 1) ∧ ∀ G9, G9 = mj_pR G6 (mj_n G) 3 v7 → (mj_k G9 rd = 8) ∧ Rd_sign d rd (mj_i G9 rd 4) G9 (fun v12 G11 => mm_br (v12 = (nI 39)) ((mj_k G11 rd = 8) ∧ ∀ G16, G16 = mj_pI G11 rd 4 ((mj_i G11 rd 4) + (nI 1)) → K (mj_n G) G16) ((mj_k G11 rd = 8) ∧ Rd_reject d rd G11 (fun G14 => K (mj_n G) G14)))) := by
  have hn := hR.1.1
  have hne : rd ≠ mj_n G := by have := hR.2.2.2.1; omega
  have hw := tx_le hR.1 e
  have hF : fe_F rd G (mj_pI (ex_N G (nI 2)) rd 4 (nI e)) := fe_trans ex_F (fe_pI (by decide))
  have hRx := fe_R hR hF
  rw [hRx.2.2.2.2.1, z_iIs]
  have hS1 : cs_S (mj_pI (ex_N G (nI 2)) rd 4 (nI e)) := cs_pI (ex_S hS)
  refine c_copyOf hS1 hpe (by omega) (fun G' hS' n1 u1 k1 l1 i1 f1 => ?_)
  have hF1 := f1 rd
  have hx : mj_n (mj_pI (ex_N G (nI 2)) rd 4 (nI e)) = mj_n G + 1 := rfl
  have hux : mj_u (mj_pI (ex_N G (nI 2)) rd 4 (nI e)) = mj_u G + 6 := rfl
  rw [hx] at n1 k1 l1 i1 ⊢
  rw [hux] at u1
  have old : ∀ a, a < mj_n G + 1 → mj_k G' a = mj_k (mj_pI (ex_N G (nI 2)) rd 4 (nI e)) a ∧ mj_l G' a = mj_l (mj_pI (ex_N G (nI 2)) rd 4 (nI e)) a ∧ (∀ j, mj_r G' a j = mj_r (mj_pI (ex_N G (nI 2)) rd 4 (nI e)) a j) ∧ (∀ j, ¬ (a = mj_n G + 1 ∧ 4 ≤ j) → mj_i G' a j = mj_i (mj_pI (ex_N G (nI 2)) rd 4 (nI e)) a j) ∧ ∀ j, mj_j G' a j = mj_j (mj_pI (ex_N G (nI 2)) rd 4 (nI e)) a j := (f1 (mj_n G + 1)).2
  obtain ⟨ke, -, re, ie, -⟩ := old (mj_n G) (by omega)
  obtain ⟨kr, -, rr, ir, -⟩ := old rd (by have := hR.2.2.2.1; omega)
  have hke : mj_k G' (mj_n G) = 1 := ke.trans (ex_k (x := nI 2))
  refine ⟨hke, ?_⟩
  rintro _ rfl
  have hkr : mj_k G' rd = 8 := kr.trans ((ex_kn (x := nI 2) hne).trans hR.2.1)
  refine ⟨hkr, ?_⟩
  have i4 : mj_i G' rd 4 = nI e := (ir 4 (fun q => by have := hR.2.2.2.1; omega)).trans z_iIs
  have i5 : mj_i G' rd 5 = Int32.ofInt (-1) := (ir 5 (fun q => by have := hR.2.2.2.1; omega)).trans ((z_iIm (by decide)).trans ((ex_in hne).trans hO.2))
  have hS2 : cs_S (mj_pR G' (mj_n G) 3 (mj_n G + 1)) := cs_pR hS' hke rfl
  have hF2 : fe_F rd G (mj_pR G' (mj_n G) 3 (mj_n G + 1)) := fe_nR (fe_trans hF hF1) (Nat.le_refl _)
  have hO2 : rd_O (mj_pR G' (mj_n G) 3 (mj_n G + 1)) rd e := ⟨i4, i5⟩
  rw [hO2.1]
  refine c_sign hS2 (fe_R hR hF2) (by omega) ?_
  rw [z_eq (by omega) (by omega)]
  refine z_br (fun hc => ⟨hkr, ?_⟩) (fun hc => ⟨hkr, c_reject hS2 (fe_R hR hF2) hO2 ?_⟩)
  · rintro _ rfl
    rw [hO2.1, z_add]
    refine h1 hc _ _ (cs_pI hS2) ⟨fe_trans hF2 (fe_pI (by decide)), rd_O4 hO2, ⟨1, ⟨Nat.le_refl _, ?_⟩, ?_, hke, Or.inr (Or.inr (Or.inr (Or.inl ⟨h39, by omega, hc, fun j a b => hq j (by omega) (by omega), ?_, ?_⟩)))⟩, ?_, ?_⟩
    · show mj_n G < mj_n G'
      omega
    · have := hS.1; omega
    · rw [z_iIn (Ne.symm hne)]
      show mj_i G' (mj_n G) 0 = nI 2
      rw [ie 0 (fun q => by omega), z_iIn (Ne.symm hne)]
      exact ex_i0
    · rw [show mj_r (mj_pI (mj_pR G' (mj_n G) 3 (mj_n G + 1)) rd 4 (nI (e + 1))) (mj_n G) 3 = mj_n G + 1 from z_rRs]
      refine ⟨⟨Nat.le_succ _, ?_⟩, k1, ?_, fun j hj => ?_⟩
      · show mj_n G + 1 < mj_n G'
        omega
      · show mj_l G' (mj_n G + 1) = _
        rw [l1]; omega
      · have hr3 := hR.2.2.2.1
        rw [z_iIn (by omega)]
        show mj_i G' (mj_n G + 1) j = _
        have h4 := hS.1
        have hr2 := hR.2.2.1
        rw [i1 j (by omega), z_iIn (by omega), ex_in (by omega)]
        exact hR.2.2.2.2.2.2 (p + 1 + j) (by omega)
    · show mj_n G' + 2 * p + 1 ≤ _
      omega
    · show mj_u G' + 11 * mj_n G + p ≤ mj_u G + 11 * mj_n G' + (e + 1)
      omega
  · refine h2 hc _ _ (cs_pI hS2) ⟨fe_trans hF2 (fe_pI (by decide)), z_iIs, ?_, ?_⟩
    · show mj_n G' + 2 * p ≤ _
      omega
    · show mj_u G' + 11 * mj_n G + p ≤ mj_u G + 11 * mj_n G' + e
      omega
theorem je_quoteL {K : Nat → mj_G → Prop} {e : Nat} (hS : cs_S G) (hR : rd_R G rd w n) (hO : rd_O G rd p) (hd : 18 ≤ d) (h39 : w p = 39) (hpe : p + 1 ≤ e) (hen : e ≤ n) (hq : ∀ j, p + 1 ≤ j → j < e → tx_Q (w j)) (hx : ¬ tx_Q (w e))
    (h1 : w e = 39 → ∀ r G', cs_S G' → rd_X rd w p true G (.inl (e + 1)) r G' → K r G') (h2 : ¬ w e = 39 → ∀ r G', cs_S G' → rd_X rd w p true G (.inr e) r G' → K r G') :
    ∀ {m i}, i + m = e → p + 1 ≤ i → Rd_readQuote_26 d rd (mj_n G) (nI (p + 1)) (nI i) (mj_pI (ex_N G (nI 2)) rd 4 (nI i)) K
  | 0, i, hm, hi => by
    obtain ⟨d, rfl⟩ : ∃ e, d = e + 1 := ⟨d - 1, by omega⟩
    have hie : i = e := hm
    subst hie
    have hn := hR.1.1
    have hne : rd ≠ mj_n G := by have := hR.2.2.2.1; omega
    have hw := tx_le hR.1 i
    have hF : fe_F rd G (mj_pI (ex_N G (nI 2)) rd 4 (nI i)) := fe_trans ex_F (fe_pI (by decide))
    have hRx := fe_R hR hF
    have hS1 : cs_S (mj_pI (ex_N G (nI 2)) rd 4 (nI i)) := cs_pI (ex_S hS)
    have hX := je_quoteX (d := d) hS hR hO (by omega) h39 hpe hen hq h1 h2
    refine w_Rd_readQuote_26 hS1 (by omega) ⟨hRx.2.1, ?_⟩
    refine z_br (fun _ => hX) (fun _ => ?_)
    rw [show mj_i (mj_pI (ex_N G (nI 2)) rd 4 (nI i)) rd 4 = nI i from z_iIs]
    refine c_sign hS1 hRx (by omega) ?_
    rw [z_7025 (by omega)]
    exact z_bf hx ⟨hRx.2.1, hX⟩
  | m + 1, i, hm, hi => by
    have ih := je_quoteL (K := K) hS hR hO hd h39 hpe hen hq hx h1 h2 (m := m) (i := i + 1)
    obtain ⟨d, rfl⟩ : ∃ e, d = e + 1 := ⟨d - 1, by omega⟩
    have hn := hR.1.1
    have hne : rd ≠ mj_n G := by have := hR.2.2.2.1; omega
    have hw := tx_le hR.1 i
    have hF : fe_F rd G (mj_pI (ex_N G (nI 2)) rd 4 (nI i)) := fe_trans ex_F (fe_pI (by decide))
    have hRx := fe_R hR hF
    have hS1 : cs_S (mj_pI (ex_N G (nI 2)) rd 4 (nI i)) := cs_pI (ex_S hS)
    refine w_Rd_readQuote_26 hS1 (by omega) ⟨hRx.2.1, ?_⟩
    rw [hRx.2.2.2.2.2.1, z_le (by omega) (by omega)]
    refine z_bf (by omega) ?_
    rw [show mj_i (mj_pI (ex_N G (nI 2)) rd 4 (nI i)) rd 4 = nI i from z_iIs]
    refine c_sign hS1 hRx (by omega) ?_
    rw [z_7025 (by omega)]
    refine z_bt (hq i hi (by omega)) ⟨hRx.2.1, ?_⟩
    rintro _ rfl
    rw [show mj_i (mj_pI (ex_N G (nI 2)) rd 4 (nI i)) rd 4 = nI i from z_iIs, z_add, z_pII]
    exact ih (by omega) (by omega)
theorem je_quote {K : Nat → mj_G → Prop} {e : Nat} (hS : cs_S G) (hR : rd_R G rd w n) (hO : rd_O G rd p) (hd : 19 ≤ d) (h39 : w p = 39) (hpe : p + 1 ≤ e) (hen : e ≤ n) (hq : ∀ j, p + 1 ≤ j → j < e → tx_Q (w j)) (hx : ¬ tx_Q (w e))
    (h1 : w e = 39 → ∀ r G', cs_S G' → rd_X rd w p true G (.inl (e + 1)) r G' → K r G') (h2 : ¬ w e = 39 → ∀ r G', cs_S G' → rd_X rd w p true G (.inr e) r G' → K r G') : Rd_readQuote d rd G K := by
  obtain ⟨d, rfl⟩ : ∃ e, d = e + 1 := ⟨d - 1, by omega⟩
  have hne : rd ≠ mj_n G := by have := hR.2.2.2.1; omega
  refine w_Rd_readQuote hS ?_
  rintro _ rfl
  refine c_newEx hS ⟨(ex_kn hne).trans hR.2.1, ?_⟩
  rintro _ rfl
  rw [(ex_O (x := nI 2) hO hne).1, z_add, z_iIs]
  exact je_quoteL hS hR hO (by omega) h39 hpe hen hq hx h1 h2 (m := e - (p + 1)) (by omega) (Nat.le_refl _)
end EX
