/-! THE HEADS OF TAGS ARE READ: all of them -/
section JH
variable {w : Nat → Nat} {n : Nat}
def jh_C (w : Nat → Nat) (n p : Nat) (res : Nat ⊕ Nat) : Prop := ∀ d G rd N b K, 4 * n + 64 ≤ d → cs_S G → rd_R G rd w n → rd_O G rd (p + 2) → nf_N G N (w (p + 1)) → (∀ G', cs_S G' → rh_X rd N b w p G res G' → K G') → Rd_readHead (d + 1) rd N b G K
def jh_M (w : Nat → Nat) (n p : Nat) (res : Nat ⊕ Nat) : Prop := ∀ d G f K, 4 * n + 64 ≤ d → mm_S G → pt_T f w n → K (rd_fin w res).1 (pt_a f (rd_fin w res).2) → mh_H (w (p + 1)) G d (pt_a f (p + 2)) K
def jh_T (w : Nat → Nat) (n p : Nat) : Prop := ∃ res, rd_okP n (p + 2) res ∧ jh_C w n p res ∧ jh_M w n p res
theorem jh_ok {s t : Nat} {res : Nat ⊕ Nat} (h : rd_ok n s res) (ht : t ≤ s) : rd_okP n t res := by
  cases res with
  | inl q => exact ⟨by have := h.1; omega, h.2⟩
  | inr e => exact ⟨by have := h.1; omega, h.2⟩
theorem jh_A {p : Nat} (hW : tx_W w n) (hp : p + 2 ≤ n) (hc : w (p + 1) = 61 ∨ w (p + 1) = 63) : jh_T w n p := by
  obtain ⟨res, ok, -, hcl, hmo⟩ := (je_all hW n).2 (p + 2) hp (by omega)
  have hn := hW.1
  have hw := tx_le hW (p + 1)
  refine ⟨res, jh_ok ok (Nat.le_refl _), fun d G rd N b K hd hS hR hO hN hK => ?_, fun d G f K hd hS hT hK => ?_⟩
  · obtain ⟨n1, n2, n3, n4, n5, n6, n7⟩ := hN
    have hne : N ≠ rd := z_kne n1 hR.2.1 (by decide)
    refine c_head hS hR n1 n4 hw (fun _ => ?_) (fun q => absurd q (by omega)) (fun q => absurd q (by omega)) (fun q => absurd q (by omega)) (fun q => absurd q (by omega)) (fun q => absurd q (by omega)) (fun q => absurd q (by omega)) (fun q => absurd q (by omega)) (by unfold tx_T; omega)
    refine hcl d G rd 0 _ (by omega) hS hR hO (by omega) (fun r G2 hS2 hX => ?_)
    cases res with
    | inl e =>
      obtain ⟨y1, y2, y3, y4, y5, y6, y7, y8⟩ := rh_eo hn_rfl rfl rfl n3 hne hX
      refine ⟨y8.trans n1, ?_⟩
      rintro _ rfl
      refine hK _ (cs_pR hS2 (y8.trans n1) rfl) ⟨y1, y2, Or.inl ⟨hc, ?_, (y6 3).trans n5, (y6 4).trans n6, ?_⟩, by show mj_n G2 + _ ≤ _; omega, by show mj_u G2 + _ + _ ≤ mj_u G + 11 * mj_n G2 + e; omega⟩
      · rw [z_rRs]; exact y3
      · exact (z_rRm (by decide)).trans ((y7 7).trans (n7 7))
    | inr e =>
      obtain ⟨y1, y2, y3, y4, y5⟩ := rh_eF hn_rfl rfl rfl n3 hX
      refine ⟨y5.trans n1, ?_⟩
      rintro _ rfl
      exact hK _ (cs_pR hS2 (y5.trans n1) rfl) ⟨y1, y2, by show mj_n G2 + _ ≤ _; omega, by show mj_u G2 + _ + _ ≤ mj_u G + 11 * mj_n G2 + e; omega⟩
  · unfold mh_H
    rw [if_pos hc]
    exact mh_Ew hS hW hT (by omega) ok hmo hK
theorem jh_B {p : Nat} (hW : tx_W w n) (hp : p + 2 ≤ n) (hc : w (p + 1) = 42 ∨ w (p + 1) = 37) : jh_T w n p := by
  have hn := hW.1
  have hw := tx_le hW (p + 1)
  have hc1 : ¬ (w (p + 1) = 61 ∨ w (p + 1) = 63) := by omega
  by_cases hL : tx_L (w (p + 2))
  · have hp3 : p + 3 ≤ n := tx_in hW (by have := hL.1; omega)
    obtain ⟨res, ok, -, hcl, hmo⟩ := (je_all hW n).2 (p + 3) hp3 (by omega)
    refine ⟨res, jh_ok ok (by omega), fun d G rd N b K hd hS hR hO hN hK => ?_, fun d G f K hd hS hT hK => ?_⟩
    · obtain ⟨n1, n2, n3, n4, n5, n6, n7⟩ := hN
      have hne : N ≠ rd := z_kne n1 hR.2.1 (by decide)
      refine c_head hS hR n1 n4 hw (fun q => absurd q hc1) (fun _ => ?_) (fun q => absurd q (by omega)) (fun q => absurd q (by omega)) (fun q => absurd q (by omega)) (fun q => absurd q (by omega)) (fun q => absurd q (by omega)) (fun q => absurd q (by omega)) (by unfold tx_T; omega)
      refine c_readLetter hS hR hO (by omega) (by omega) (fun _ => ⟨n1, ?_⟩) (fun q => absurd hL q)
      rintro _ rfl
      have hF : hn_F rd N G (mj_pI (mj_pI G rd 4 (nI (p + 3))) N 4 (nI (w (p + 2) - 97))) := hn_trans (hn_rd (by decide)) (hn_i (Or.inr rfl))
      have hO1 : rd_O (mj_pI (mj_pI G rd 4 (nI (p + 3))) N 4 (nI (w (p + 2) - 97))) rd (p + 3) := ⟨(z_iIn (Ne.symm hne)).trans z_iIs, (z_iIn (Ne.symm hne)).trans ((z_iIm (by decide)).trans hO.2)⟩
      refine ⟨hR.2.1, hcl d _ rd 0 _ (by omega) (cs_pI (cs_pI hS)) (hn_R hR hF n1 n2) hO1 (by omega) (fun r G2 hS2 hX => ?_)⟩
      cases res with
      | inl e =>
        obtain ⟨y1, y2, y3, y4, y5, y6, y7, y8⟩ := rh_eo hF rfl rfl n3 hne hX
        refine ⟨y8.trans n1, ?_⟩
        rintro _ rfl
        refine hK _ (cs_pR hS2 (y8.trans n1) rfl) ⟨y1, y2, Or.inr (Or.inl ⟨hc, hL, ?_, (y6 3).trans ((z_iIm (by decide)).trans ((z_iIn hne).trans n5)), (y6 4).trans z_iIs, ?_⟩), by show mj_n G2 + _ ≤ _; omega, by show mj_u G2 + _ + _ ≤ mj_u G + 11 * mj_n G2 + e; omega⟩
        · rw [z_rRs]; exact y3
        · exact (z_rRm (by decide)).trans ((y7 7).trans (n7 7))
      | inr e =>
        obtain ⟨y1, y2, y3, y4, y5⟩ := rh_eF hF rfl rfl n3 hX
        refine ⟨y5.trans n1, ?_⟩
        rintro _ rfl
        exact hK _ (cs_pR hS2 (y5.trans n1) rfl) ⟨y1, y2, by show mj_n G2 + _ ≤ _; omega, by show mj_u G2 + _ + _ ≤ mj_u G + 11 * mj_n G2 + e; omega⟩
    · unfold mh_H
      rw [if_neg hc1, if_pos hc]
      refine c_takesLetter hS hW hT (by omega) hp (fun _ => z_bt rfl ?_) (fun q => absurd hL q)
      exact mh_Ew hS hW hT (by omega) ok hmo hK
  · refine ⟨.inr (p + 2), ⟨Nat.le_refl _, hp⟩, fun d G rd N b K hd hS hR hO hN hK => ?_, fun d G f K hd hS hT hK => ?_⟩
    · obtain ⟨n1, n2, n3, n4, n5, n6, n7⟩ := hN
      have hne : N ≠ rd := z_kne n1 hR.2.1 (by decide)
      refine c_head hS hR n1 n4 hw (fun q => absurd q hc1) (fun _ => ?_) (fun q => absurd q (by omega)) (fun q => absurd q (by omega)) (fun q => absurd q (by omega)) (fun q => absurd q (by omega)) (fun q => absurd q (by omega)) (fun q => absurd q (by omega)) (by unfold tx_T; omega)
      refine c_readLetter hS hR hO (by omega) (by omega) (fun q => absurd q hL) (fun _ => ⟨n1, ?_⟩)
      rintro _ rfl
      have hF : hn_F rd N G (mj_pI (mj_pI G rd 5 (nI (p + 2))) N 4 (Int32.ofInt (-1))) := hn_trans (hn_rd (by decide)) (hn_i (Or.inr rfl))
      have h5 : mj_i (mj_pI (mj_pI G rd 5 (nI (p + 2))) N 4 (Int32.ofInt (-1))) rd 5 = nI (p + 2) := (z_iIn (Ne.symm hne)).trans z_iIs
      refine ⟨hR.2.1, c_readExpressionF (cs_pI (cs_pI hS)) (hn_R hR hF n1 n2) h5 (by omega) (by omega) ⟨n1, ?_⟩⟩
      rintro _ rfl
      exact hK _ (cs_pR (cs_pI (cs_pI hS)) n1 rfl) ⟨hn_trans hF (hn_r (Or.inl rfl)), h5, by show mj_n G + _ ≤ _; omega, by show mj_u G + _ + _ ≤ mj_u G + 11 * mj_n G + _; omega⟩
    · unfold mh_H
      rw [if_neg hc1, if_pos hc]
      exact c_takesLetter hS hW hT (by omega) hp (fun q => absurd q hL) (fun _ => z_bf (by decide) (mh_Fw hK))
theorem jh_Cx {p : Nat} (hW : tx_W w n) (hp : p + 2 ≤ n) (hc : w (p + 1) = 116) : jh_T w n p := by
  have hn := hW.1
  have hw := tx_le hW (p + 1)
  have hc1 : ¬ (w (p + 1) = 61 ∨ w (p + 1) = 63) := by omega
  have hc2 : ¬ (w (p + 1) = 42 ∨ w (p + 1) = 37) := by omega
  by_cases hL : tx_D (w (p + 2))
  · have hp3 : p + 3 ≤ n := tx_in hW (by have := hL.1; omega)
    obtain ⟨res, ok, -, hcl, hmo⟩ := (je_all hW n).2 (p + 3) hp3 (by omega)
    refine ⟨res, jh_ok ok (by omega), fun d G rd N b K hd hS hR hO hN hK => ?_, fun d G f K hd hS hT hK => ?_⟩
    · obtain ⟨n1, n2, n3, n4, n5, n6, n7⟩ := hN
      have hne : N ≠ rd := z_kne n1 hR.2.1 (by decide)
      refine c_head hS hR n1 n4 hw (fun q => absurd q hc1) (fun q => absurd q hc2) (fun _ => ?_) (fun q => absurd q (by omega)) (fun q => absurd q (by omega)) (fun q => absurd q (by omega)) (fun q => absurd q (by omega)) (fun q => absurd q (by omega)) (by unfold tx_T; omega)
      refine c_readDigit hS hR hO (by omega) (by omega) (fun _ => ⟨n1, ?_⟩) (fun q => absurd hL q)
      rintro _ rfl
      have hF : hn_F rd N G (mj_pI (mj_pI G rd 4 (nI (p + 3))) N 3 (nI (w (p + 2) - 48))) := hn_trans (hn_rd (by decide)) (hn_i (Or.inl rfl))
      have hO1 : rd_O (mj_pI (mj_pI G rd 4 (nI (p + 3))) N 3 (nI (w (p + 2) - 48))) rd (p + 3) := ⟨(z_iIn (Ne.symm hne)).trans z_iIs, (z_iIn (Ne.symm hne)).trans ((z_iIm (by decide)).trans hO.2)⟩
      refine ⟨hR.2.1, hcl d _ rd 0 _ (by omega) (cs_pI (cs_pI hS)) (hn_R hR hF n1 n2) hO1 (by omega) (fun r G2 hS2 hX => ?_)⟩
      cases res with
      | inl e =>
        obtain ⟨y1, y2, y3, y4, y5, y6, y7, y8⟩ := rh_eo hF rfl rfl n3 hne hX
        refine ⟨y8.trans n1, ?_⟩
        rintro _ rfl
        refine hK _ (cs_pR hS2 (y8.trans n1) rfl) ⟨y1, y2, Or.inr (Or.inr (Or.inl ⟨hc, hL, ?_, (y6 3).trans z_iIs, (y6 4).trans ((z_iIm (by decide)).trans ((z_iIn hne).trans n6)), ?_⟩)), by show mj_n G2 + _ ≤ _; omega, by show mj_u G2 + _ + _ ≤ mj_u G + 11 * mj_n G2 + e; omega⟩
        · rw [z_rRs]; exact y3
        · exact (z_rRm (by decide)).trans ((y7 7).trans (n7 7))
      | inr e =>
        obtain ⟨y1, y2, y3, y4, y5⟩ := rh_eF hF rfl rfl n3 hX
        refine ⟨y5.trans n1, ?_⟩
        rintro _ rfl
        exact hK _ (cs_pR hS2 (y5.trans n1) rfl) ⟨y1, y2, by show mj_n G2 + _ ≤ _; omega, by show mj_u G2 + _ + _ ≤ mj_u G + 11 * mj_n G2 + e; omega⟩
    · unfold mh_H
      rw [if_neg hc1, if_neg hc2, if_pos hc]
      refine c_takesDigit hS hW hT (by omega) hp (fun _ => z_bt rfl ?_) (fun q => absurd hL q)
      exact mh_Ew hS hW hT (by omega) ok hmo hK
  · refine ⟨.inr (p + 2), ⟨Nat.le_refl _, hp⟩, fun d G rd N b K hd hS hR hO hN hK => ?_, fun d G f K hd hS hT hK => ?_⟩
    · obtain ⟨n1, n2, n3, n4, n5, n6, n7⟩ := hN
      have hne : N ≠ rd := z_kne n1 hR.2.1 (by decide)
      refine c_head hS hR n1 n4 hw (fun q => absurd q hc1) (fun q => absurd q hc2) (fun _ => ?_) (fun q => absurd q (by omega)) (fun q => absurd q (by omega)) (fun q => absurd q (by omega)) (fun q => absurd q (by omega)) (fun q => absurd q (by omega)) (by unfold tx_T; omega)
      refine c_readDigit hS hR hO (by omega) (by omega) (fun q => absurd q hL) (fun _ => ⟨n1, ?_⟩)
      rintro _ rfl
      have hF : hn_F rd N G (mj_pI (mj_pI G rd 5 (nI (p + 2))) N 3 (Int32.ofInt (-1))) := hn_trans (hn_rd (by decide)) (hn_i (Or.inl rfl))
      have h5 : mj_i (mj_pI (mj_pI G rd 5 (nI (p + 2))) N 3 (Int32.ofInt (-1))) rd 5 = nI (p + 2) := (z_iIn (Ne.symm hne)).trans z_iIs
      refine ⟨hR.2.1, c_readExpressionF (cs_pI (cs_pI hS)) (hn_R hR hF n1 n2) h5 (by omega) (by omega) ⟨n1, ?_⟩⟩
      rintro _ rfl
      exact hK _ (cs_pR (cs_pI (cs_pI hS)) n1 rfl) ⟨hn_trans hF (hn_r (Or.inl rfl)), h5, by show mj_n G + _ ≤ _; omega, by show mj_u G + _ + _ ≤ mj_u G + 11 * mj_n G + _; omega⟩
    · unfold mh_H
      rw [if_neg hc1, if_neg hc2, if_pos hc]
      exact c_takesDigit hS hW hT (by omega) hp (fun q => absurd q hL) (fun _ => z_bf (by decide) (mh_Fw hK))
theorem jh_D {p : Nat} (hW : tx_W w n) (hp : p + 2 ≤ n) (hc : w (p + 1) = 35 ∨ w (p + 1) = 107 ∨ w (p + 1) = 64) : jh_T w n p := by
  have hn := hW.1
  have hw := tx_le hW (p + 1)
  have hc1 : ¬ (w (p + 1) = 61 ∨ w (p + 1) = 63) := by omega
  have hc2 : ¬ (w (p + 1) = 42 ∨ w (p + 1) = 37) := by omega
  have hc3 : ¬ w (p + 1) = 116 := by omega
  by_cases hL : tx_D (w (p + 2))
  · have hp3 : p + 3 ≤ n := tx_in hW (by have := hL.1; omega)
    refine ⟨.inl (p + 3), ⟨by omega, hp3⟩, fun d G rd N b K hd hS hR hO hN hK => ?_, fun d G f K hd hS hT hK => ?_⟩
    · obtain ⟨n1, n2, n3, n4, n5, n6, n7⟩ := hN
      have hne : N ≠ rd := z_kne n1 hR.2.1 (by decide)
      refine c_head hS hR n1 n4 hw (fun q => absurd q hc1) (fun q => absurd q hc2) (fun q => absurd q hc3) (fun _ => ?_) (fun q => absurd q (by omega)) (fun q => absurd q (by omega)) (fun q => absurd q (by omega)) (fun q => absurd q (by omega)) (by unfold tx_T; omega)
      refine c_readDigit hS hR hO (by omega) (by omega) (fun _ => ⟨n1, ?_⟩) (fun q => absurd hL q)
      rintro _ rfl
      have hF : hn_F rd N G (mj_pI (mj_pI G rd 4 (nI (p + 3))) N 3 (nI (w (p + 2) - 48))) := hn_trans (hn_rd (by decide)) (hn_i (Or.inl rfl))
      have hO1 : rd_O (mj_pI (mj_pI G rd 4 (nI (p + 3))) N 3 (nI (w (p + 2) - 48))) rd (p + 3) := ⟨(z_iIn (Ne.symm hne)).trans z_iIs, (z_iIn (Ne.symm hne)).trans ((z_iIm (by decide)).trans hO.2)⟩
      exact hK _ (cs_pI (cs_pI hS)) ⟨hF, hO1, Or.inr (Or.inr (Or.inr (Or.inl ⟨hc, hL, rfl, z_iIs, (z_iIm (by decide)).trans ((z_iIn hne).trans n6), n7 6, n7 7⟩))), by show mj_n G + _ ≤ _; omega, by show mj_u G + _ + _ ≤ mj_u G + 11 * mj_n G + _; omega⟩
    · unfold mh_H
      rw [if_neg hc1, if_neg hc2, if_neg hc3, if_pos hc]
      exact c_takesDigit hS hW hT (by omega) hp (fun _ => z_bt rfl (mh_Pw hS hW hT (by omega) hp3 hK)) (fun q => absurd hL q)
  · refine ⟨.inr (p + 2), ⟨Nat.le_refl _, hp⟩, fun d G rd N b K hd hS hR hO hN hK => ?_, fun d G f K hd hS hT hK => ?_⟩
    · obtain ⟨n1, n2, n3, n4, n5, n6, n7⟩ := hN
      have hne : N ≠ rd := z_kne n1 hR.2.1 (by decide)
      refine c_head hS hR n1 n4 hw (fun q => absurd q hc1) (fun q => absurd q hc2) (fun q => absurd q hc3) (fun _ => ?_) (fun q => absurd q (by omega)) (fun q => absurd q (by omega)) (fun q => absurd q (by omega)) (fun q => absurd q (by omega)) (by unfold tx_T; omega)
      refine c_readDigit hS hR hO (by omega) (by omega) (fun q => absurd q hL) (fun _ => ⟨n1, ?_⟩)
      rintro _ rfl
      have hF : hn_F rd N G (mj_pI (mj_pI G rd 5 (nI (p + 2))) N 3 (Int32.ofInt (-1))) := hn_trans (hn_rd (by decide)) (hn_i (Or.inl rfl))
      exact hK _ (cs_pI (cs_pI hS)) ⟨hF, (z_iIn (Ne.symm hne)).trans z_iIs, by show mj_n G + _ ≤ _; omega, by show mj_u G + _ + _ ≤ mj_u G + 11 * mj_n G + _; omega⟩
    · unfold mh_H
      rw [if_neg hc1, if_neg hc2, if_neg hc3, if_pos hc]
      exact c_takesDigit hS hW hT (by omega) hp (fun q => absurd q hL) (fun _ => z_bf (by decide) (mh_Fw hK))
theorem jh_E {p : Nat} (hW : tx_W w n) (hp : p + 2 ≤ n) (hc : w (p + 1) = 43 ∨ w (p + 1) = 126 ∨ w (p + 1) = 45 ∨ w (p + 1) = 94) : jh_T w n p := by
  have hn := hW.1
  have hw := tx_le hW (p + 1)
  have hc1 : ¬ (w (p + 1) = 61 ∨ w (p + 1) = 63) := by omega
  have hc2 : ¬ (w (p + 1) = 42 ∨ w (p + 1) = 37) := by omega
  have hc3 : ¬ w (p + 1) = 116 := by omega
  have hc4 : ¬ (w (p + 1) = 35 ∨ w (p + 1) = 107 ∨ w (p + 1) = 64) := by omega
  refine ⟨.inl (p + 2), ⟨by omega, hp⟩, fun d G rd N b K hd hS hR hO hN hK => ?_, fun d G f K hd hS hT hK => ?_⟩
  · obtain ⟨n1, n2, n3, n4, n5, n6, n7⟩ := hN
    have hne : N ≠ rd := z_kne n1 hR.2.1 (by decide)
    refine c_head hS hR n1 n4 hw (fun q => absurd q hc1) (fun q => absurd q hc2) (fun q => absurd q hc3) (fun q => absurd q hc4) (fun q => ?_) (fun q => ?_) (fun q => absurd q (by omega)) (fun q => absurd q (by omega)) (by unfold tx_T; omega)
    · exact hK _ hS ⟨hn_rfl, hO, Or.inr (Or.inr (Or.inr (Or.inr (Or.inl ⟨q, rfl, n5, n6, n7 6, n7 7⟩)))), by omega, by omega⟩
    · rintro _ rfl
      exact hK _ (cs_pI hS) ⟨hn_i (Or.inl rfl), ⟨(z_iIn (Ne.symm hne)).trans hO.1, (z_iIn (Ne.symm hne)).trans hO.2⟩, Or.inr (Or.inr (Or.inr (Or.inr (Or.inr (Or.inl ⟨q, rfl, z_iIs, (z_iIm (by decide)).trans n6, n7 6, n7 7⟩))))), by show mj_n G + _ ≤ _; omega, by show mj_u G + _ + _ ≤ mj_u G + 11 * mj_n G + _; omega⟩
  · unfold mh_H
    rw [if_neg hc1, if_neg hc2, if_neg hc3, if_neg hc4, if_pos hc]
    exact mh_Pw hS hW hT (by omega) hp hK
theorem jh_F {p : Nat} (hW : tx_W w n) (hp : p + 2 ≤ n) (hc : w (p + 1) = 36) : jh_T w n p := by
  have hn := hW.1
  have hw := tx_le hW (p + 1)
  have hc1 : ¬ (w (p + 1) = 61 ∨ w (p + 1) = 63) := by omega
  have hc2 : ¬ (w (p + 1) = 42 ∨ w (p + 1) = 37) := by omega
  have hc3 : ¬ w (p + 1) = 116 := by omega
  have hc4 : ¬ (w (p + 1) = 35 ∨ w (p + 1) = 107 ∨ w (p + 1) = 64) := by omega
  have hc5 : ¬ (w (p + 1) = 43 ∨ w (p + 1) = 126 ∨ w (p + 1) = 45 ∨ w (p + 1) = 94) := by omega
  by_cases hL : tx_D (w (p + 2))
  · have hp3 : p + 3 ≤ n := tx_in hW (by have := hL.1; omega)
    obtain ⟨res, ok, hcl, hmo⟩ := jp_L hW 3 (p + 3) (fun _ => False) hp3 (Nat.le_refl _)
    have hb0 : ∀ i, i < 26 → (bt (nI 0) i ↔ False) := fun i _ => ⟨fun h => bt_0 h, fun h => h.elim⟩
    refine ⟨res, ?_, fun d G rd N b K hd hS hR hO hN hK => ?_, fun d G f K hd hS hT hK => ?_⟩
    · cases res with
      | inl q => exact ⟨by have := ok.1; omega, ok.2⟩
      | inr e => exact ⟨by have := ok.1; omega, ok.2⟩
    · obtain ⟨n1, n2, n3, n4, n5, n6, n7⟩ := hN
      have hne : N ≠ rd := z_kne n1 hR.2.1 (by decide)
      refine c_head hS hR n1 n4 hw (fun q => absurd q hc1) (fun q => absurd q hc2) (fun q => absurd q hc3) (fun q => absurd q hc4) (fun q => absurd q (by omega)) (fun q => absurd q (by omega)) (fun _ => ?_) (fun q => absurd q (by omega)) (by unfold tx_T; omega)
      refine c_readDigit hS hR hO (by omega) (by omega) (fun _ => ⟨n1, ?_⟩) (fun q => absurd hL q)
      rintro _ rfl
      have hF : hn_F rd N G (mj_pI (mj_pI G rd 4 (nI (p + 3))) N 3 (nI (w (p + 2) - 48))) := hn_trans (hn_rd (by decide)) (hn_i (Or.inl rfl))
      have hO1 : rd_O (mj_pI (mj_pI G rd 4 (nI (p + 3))) N 3 (nI (w (p + 2) - 48))) rd (p + 3) := ⟨(z_iIn (Ne.symm hne)).trans z_iIs, (z_iIn (Ne.symm hne)).trans ((z_iIm (by decide)).trans hO.2)⟩
      have h3 : mj_i (mj_pI (mj_pI G rd 4 (nI (p + 3))) N 3 (nI (w (p + 2) - 48))) N 3 = nI (w (p + 2) - 48) := z_iIs
      have h4 : mj_i (mj_pI (mj_pI G rd 4 (nI (p + 3))) N 3 (nI (w (p + 2) - 48))) N 4 = Int32.ofInt (-1) := (z_iIm (by decide)).trans ((z_iIn hne).trans n6)
      refine ⟨hR.2.1, ?_⟩
      obtain ⟨d, rfl⟩ : ∃ e, d = e + 1 := ⟨d - 1, by omega⟩
      refine w_Rd_readParameters (cs_pI (cs_pI hS)) ?_
      refine hcl d _ rd N 0 N 7 (nI 0) _ (by omega) (cs_pI (cs_pI hS)) (hn_R hR hF n1 n2) hO1 (Or.inl ⟨rfl, rfl, rfl⟩) n1 n3 (n7 7) hb0 (fun G' hS' hX => ?_)
      cases res with
      | inl e =>
        obtain ⟨x1, x2, x3, x4, x5⟩ := hX
        obtain ⟨a1, a2, a3, a4, -⟩ := x1.2 N n3
        refine hK _ hS' ⟨hn_trans hF (hn_of_fx x1), x2, Or.inr (Or.inr (Or.inr (Or.inr (Or.inr (Or.inr (Or.inl ⟨hc, hL, x3, (a4 3 (fun q => hne q.1)).trans h3, (a4 4 (fun q => hne q.1)).trans h4, (a3 6 (fun q => absurd q.2 (by decide))).trans (n7 6)⟩)))))), ?_, ?_⟩
        · have x4' : mj_n G' + 2 * (p + 3) ≤ mj_n G + 2 * e := x4
          omega
        · have x5' : mj_u G' + 11 * mj_n G + (p + 3) ≤ mj_u G + 11 * mj_n G' + e := x5
          omega
      | inr e =>
        obtain ⟨x1, x2, x4, x5⟩ := hX
        refine hK _ hS' ⟨hn_trans hF (hn_of_fx x1), x2, ?_, ?_⟩
        · have x4' : mj_n G' + 2 * (p + 3) ≤ mj_n G + 2 * e + 3 := x4
          omega
        · have x5' : mj_u G' + 11 * mj_n G + (p + 3) ≤ mj_u G + 11 * mj_n G' + e := x5
          omega
    · unfold mh_H
      rw [if_neg hc1, if_neg hc2, if_neg hc3, if_neg hc4, if_neg hc5, if_pos hc]
      refine c_takesDigit hS hW hT (by omega) hp (fun _ => z_bt rfl ?_) (fun q => absurd hL q)
      obtain ⟨d, rfl⟩ : ∃ e, d = e + 1 := ⟨d - 1, by omega⟩
      refine w_m_takesParameters hS ?_
      exact hmo d G f (nI 0) _ (by omega) hS hT hb0 (mh_br hK)
  · refine ⟨.inr (p + 2), ⟨Nat.le_refl _, hp⟩, fun d G rd N b K hd hS hR hO hN hK => ?_, fun d G f K hd hS hT hK => ?_⟩
    · obtain ⟨n1, n2, n3, n4, n5, n6, n7⟩ := hN
      have hne : N ≠ rd := z_kne n1 hR.2.1 (by decide)
      refine c_head hS hR n1 n4 hw (fun q => absurd q hc1) (fun q => absurd q hc2) (fun q => absurd q hc3) (fun q => absurd q hc4) (fun q => absurd q (by omega)) (fun q => absurd q (by omega)) (fun _ => ?_) (fun q => absurd q (by omega)) (by unfold tx_T; omega)
      refine c_readDigit hS hR hO (by omega) (by omega) (fun q => absurd q hL) (fun _ => ⟨n1, ?_⟩)
      rintro _ rfl
      have hF : hn_F rd N G (mj_pI (mj_pI G rd 5 (nI (p + 2))) N 3 (Int32.ofInt (-1))) := hn_trans (hn_rd (by decide)) (hn_i (Or.inl rfl))
      have h5 : mj_i (mj_pI (mj_pI G rd 5 (nI (p + 2))) N 3 (Int32.ofInt (-1))) rd 5 = nI (p + 2) := (z_iIn (Ne.symm hne)).trans z_iIs
      refine ⟨hR.2.1, c_readParametersF (cs_pI (cs_pI hS)) (hn_R hR hF n1 n2) h5 (by omega) (by omega) ?_⟩
      exact hK _ (cs_pI (cs_pI hS)) ⟨hF, h5, by show mj_n G + _ ≤ _; omega, by show mj_u G + _ + _ ≤ mj_u G + 11 * mj_n G + _; omega⟩
    · unfold mh_H
      rw [if_neg hc1, if_neg hc2, if_neg hc3, if_neg hc4, if_neg hc5, if_pos hc]
      exact c_takesDigit hS hW hT (by omega) hp (fun q => absurd q hL) (fun _ => z_bf (by decide) (mh_Fw hK))
/-- arguments, from the first one on or none -/
theorem jh_args (hW : tx_W w n) {s : Nat} (hs : s ≤ n) : ∃ res, rd_okP n s res ∧
    (∀ d G rd N K, 4 * n + 60 ≤ d → cs_S G → rd_R G rd w n → rd_O G rd s → mj_k G N = 6 → N < mj_n G → mj_r G N 7 = 0 → (∀ G', cs_S G' → (match res with
      | .inl e => fx_F rd N 7 G G' ∧ rd_O G' rd e ∧ ((e = s ∧ mj_r G' N 7 = 0) ∨ (¬ w s = 125 ∧ tx_A 3 (fe_I (mj_n G) (mj_n G')) G' (mj_r G' N 7) w s e)) ∧ mj_n G' + 2 * s ≤ mj_n G + 2 * e ∧ mj_u G' + 11 * mj_n G + s ≤ mj_u G + 11 * mj_n G' + e
      | .inr e => fx_F rd N 7 G G' ∧ mj_i G' rd 5 = nI e ∧ mj_n G' + 2 * s ≤ mj_n G + 2 * e + 3 ∧ mj_u G' + 11 * mj_n G + s ≤ mj_u G + 11 * mj_n G' + e) → K G') → Rd_readArguments (d + 1) rd N G K) ∧
    (∀ d G f K, 4 * n + 60 ≤ d → mm_S G → pt_T f w n → K (rd_fin w res).1 (pt_a f (rd_fin w res).2) → m_takesArguments G (d + 1) (pt_a f s) K) := by
  have hn := hW.1
  have hws := tx_le hW s
  by_cases h125 : w s = 125
  · refine ⟨.inl s, ⟨Nat.le_refl _, hs⟩, fun d G rd N K hd hS hR hO hN hNn h7 hK => ?_, fun d G f K hd hS hT hK => ?_⟩
    · refine w_Rd_readArguments hS ⟨hR.2.1, c_failed hS hR hO (z_bf (by decide) ⟨hR.2.1, ?_⟩)⟩
      rw [hO.1]
      refine c_sign hS hR (by omega) ?_
      rw [z_eq (by omega) (by omega)]
      exact z_bt h125 (hK G hS ⟨fx_of fe_rfl, hO, Or.inl ⟨rfl, h7⟩, Nat.le_refl _, Nat.le_refl _⟩)
    · refine w_m_takesArguments hS (w_m_takesArguments_4 hS ?_)
      refine z_bf (by decide) (z_bf (by decide) (z_bf (by decide) ?_))
      refine c_next hS hW hT hs ?_
      rw [tx_nxe hW (by decide)]
      refine z_bt h125 (z_bf (by decide) ?_)
      refine c_takes hS hW hT (by omega) hs (by decide) (fun q => z_bt rfl ?_) (fun q => absurd h125 q)
      rw [show rd_fin w (.inl s) = (true, s + 1) from if_pos q] at hK
      exact hK
  · obtain ⟨res, ok, hcl, hmo⟩ := ja_L hW (fun k => (je_all hW k).2) 3 s hs (by omega) (Nat.le_refl _)
    refine ⟨res, jh_ok ok (Nat.le_refl _), fun d G rd N K hd hS hR hO hN hNn h7 hK => ?_, fun d G f K hd hS hT hK => ?_⟩
    · refine w_Rd_readArguments hS ⟨hR.2.1, c_failed hS hR hO (z_bf (by decide) ⟨hR.2.1, ?_⟩)⟩
      rw [hO.1]
      refine c_sign hS hR (by omega) ?_
      rw [z_eq (by omega) (by omega)]
      refine z_bf h125 ?_
      refine hcl d G rd N 0 N 7 K hd hS hR hO (Or.inl ⟨rfl, rfl, rfl⟩) hN hNn (fun G' hS' hX => hK G' hS' ?_)
      cases res with
      | inl e =>
        obtain ⟨x1, x2, x3, x4, x5⟩ := hX
        exact ⟨x1, x2, Or.inr ⟨h125, x3⟩, x4, x5⟩
      | inr e => exact hX
    · refine w_m_takesArguments hS (w_m_takesArguments_4 hS ?_)
      refine z_bf (by decide) (z_bf (by decide) (z_bf (by decide) ?_))
      refine c_next hS hW hT hs ?_
      rw [tx_nxe hW (by decide)]
      refine z_bf h125 ?_
      exact hmo d G f K hd hS hT hK
theorem jh_G {p : Nat} (hW : tx_W w n) (hp : p + 2 ≤ n) (hc : w (p + 1) = 33 ∨ w (p + 1) = 38) : jh_T w n p := by
  have hn := hW.1
  have hw := tx_le hW (p + 1)
  have hc1 : ¬ (w (p + 1) = 61 ∨ w (p + 1) = 63) := by omega
  have hc2 : ¬ (w (p + 1) = 42 ∨ w (p + 1) = 37) := by omega
  have hc3 : ¬ w (p + 1) = 116 := by omega
  have hc4 : ¬ (w (p + 1) = 35 ∨ w (p + 1) = 107 ∨ w (p + 1) = 64) := by omega
  have hc5 : ¬ (w (p + 1) = 43 ∨ w (p + 1) = 126 ∨ w (p + 1) = 45 ∨ w (p + 1) = 94) := by omega
  have hc6 : ¬ w (p + 1) = 36 := by omega
  by_cases hL : tx_D (w (p + 2))
  · have hp3 : p + 3 ≤ n := tx_in hW (by have := hL.1; omega)
    obtain ⟨res, ok, hcl, hmo⟩ := jh_args hW hp3
    refine ⟨res, ?_, fun d G rd N b K hd hS hR hO hN hK => ?_, fun d G f K hd hS hT hK => ?_⟩
    · cases res with
      | inl q => exact ⟨by have := ok.1; omega, ok.2⟩
      | inr e => exact ⟨by have := ok.1; omega, ok.2⟩
    · obtain ⟨n1, n2, n3, n4, n5, n6, n7⟩ := hN
      have hne : N ≠ rd := z_kne n1 hR.2.1 (by decide)
      refine c_head hS hR n1 n4 hw (fun q => absurd q hc1) (fun q => absurd q hc2) (fun q => absurd q hc3) (fun q => absurd q hc4) (fun q => absurd q (by omega)) (fun q => absurd q (by omega)) (fun q => absurd q hc6) (fun _ => ?_) (by unfold tx_T; omega)
      refine c_readDigit hS hR hO (by omega) (by omega) (fun _ => ⟨n1, ?_⟩) (fun q => absurd hL q)
      rintro _ rfl
      have hF : hn_F rd N G (mj_pI (mj_pI G rd 4 (nI (p + 3))) N 3 (nI (w (p + 2) - 48))) := hn_trans (hn_rd (by decide)) (hn_i (Or.inl rfl))
      have hO1 : rd_O (mj_pI (mj_pI G rd 4 (nI (p + 3))) N 3 (nI (w (p + 2) - 48))) rd (p + 3) := ⟨(z_iIn (Ne.symm hne)).trans z_iIs, (z_iIn (Ne.symm hne)).trans ((z_iIm (by decide)).trans hO.2)⟩
      have h3 : mj_i (mj_pI (mj_pI G rd 4 (nI (p + 3))) N 3 (nI (w (p + 2) - 48))) N 3 = nI (w (p + 2) - 48) := z_iIs
      have h4 : mj_i (mj_pI (mj_pI G rd 4 (nI (p + 3))) N 3 (nI (w (p + 2) - 48))) N 4 = Int32.ofInt (-1) := (z_iIm (by decide)).trans ((z_iIn hne).trans n6)
      refine ⟨hR.2.1, ?_⟩
      obtain ⟨d, rfl⟩ : ∃ e, d = e + 1 := ⟨d - 1, by omega⟩
      refine hcl d _ rd N _ (by omega) (cs_pI (cs_pI hS)) (hn_R hR hF n1 n2) hO1 n1 n3 (n7 7) (fun G' hS' hX => ?_)
      cases res with
      | inl e =>
        obtain ⟨x1, x2, x3, x4, x5⟩ := hX
        obtain ⟨a1, a2, a3, a4, -⟩ := x1.2 N n3
        refine hK _ hS' ⟨hn_trans hF (hn_of_fx x1), x2, Or.inr (Or.inr (Or.inr (Or.inr (Or.inr (Or.inr (Or.inr ⟨hc, hL, x3, (a4 3 (fun q => hne q.1)).trans h3, (a4 4 (fun q => hne q.1)).trans h4, (a3 6 (fun q => absurd q.2 (by decide))).trans (n7 6)⟩)))))), ?_, ?_⟩
        · have x4' : mj_n G' + 2 * (p + 3) ≤ mj_n G + 2 * e := x4
          omega
        · have x5' : mj_u G' + 11 * mj_n G + (p + 3) ≤ mj_u G + 11 * mj_n G' + e := x5
          omega
      | inr e =>
        obtain ⟨x1, x2, x4, x5⟩ := hX
        refine hK _ hS' ⟨hn_trans hF (hn_of_fx x1), x2, ?_, ?_⟩
        · have x4' : mj_n G' + 2 * (p + 3) ≤ mj_n G + 2 * e + 3 := x4
          omega
        · have x5' : mj_u G' + 11 * mj_n G + (p + 3) ≤ mj_u G + 11 * mj_n G' + e := x5
          omega
    · unfold mh_H
      rw [if_neg hc1, if_neg hc2, if_neg hc3, if_neg hc4, if_neg hc5, if_neg hc6]
      refine c_takesDigit hS hW hT (by omega) hp (fun _ => z_bt rfl ?_) (fun q => absurd hL q)
      obtain ⟨d, rfl⟩ : ∃ e, d = e + 1 := ⟨d - 1, by omega⟩
      exact hmo d G f _ (by omega) hS hT (mh_br hK)
  · refine ⟨.inr (p + 2), ⟨Nat.le_refl _, hp⟩, fun d G rd N b K hd hS hR hO hN hK => ?_, fun d G f K hd hS hT hK => ?_⟩
    · obtain ⟨n1, n2, n3, n4, n5, n6, n7⟩ := hN
      have hne : N ≠ rd := z_kne n1 hR.2.1 (by decide)
      refine c_head hS hR n1 n4 hw (fun q => absurd q hc1) (fun q => absurd q hc2) (fun q => absurd q hc3) (fun q => absurd q hc4) (fun q => absurd q (by omega)) (fun q => absurd q (by omega)) (fun q => absurd q hc6) (fun _ => ?_) (by unfold tx_T; omega)
      refine c_readDigit hS hR hO (by omega) (by omega) (fun q => absurd q hL) (fun _ => ⟨n1, ?_⟩)
      rintro _ rfl
      have hF : hn_F rd N G (mj_pI (mj_pI G rd 5 (nI (p + 2))) N 3 (Int32.ofInt (-1))) := hn_trans (hn_rd (by decide)) (hn_i (Or.inl rfl))
      have h5 : mj_i (mj_pI (mj_pI G rd 5 (nI (p + 2))) N 3 (Int32.ofInt (-1))) rd 5 = nI (p + 2) := (z_iIn (Ne.symm hne)).trans z_iIs
      refine ⟨hR.2.1, c_readArgumentsF (cs_pI (cs_pI hS)) (hn_R hR hF n1 n2) h5 (by omega) (by omega) ?_⟩
      exact hK _ (cs_pI (cs_pI hS)) ⟨hF, h5, by show mj_n G + _ ≤ _; omega, by show mj_u G + _ + _ ≤ mj_u G + 11 * mj_n G + _; omega⟩
    · unfold mh_H
      rw [if_neg hc1, if_neg hc2, if_neg hc3, if_neg hc4, if_neg hc5, if_neg hc6]
      exact c_takesDigit hS hW hT (by omega) hp (fun q => absurd q hL) (fun _ => z_bf (by decide) (mh_Fw hK))
theorem jh_all {p : Nat} (hW : tx_W w n) (hp : p + 2 ≤ n) (hc : tx_T (w (p + 1))) : jh_T w n p := by
  unfold tx_T at hc
  by_cases c1 : w (p + 1) = 61 ∨ w (p + 1) = 63
  · exact jh_A hW hp c1
  by_cases c2 : w (p + 1) = 42 ∨ w (p + 1) = 37
  · exact jh_B hW hp c2
  by_cases c3 : w (p + 1) = 116
  · exact jh_Cx hW hp c3
  by_cases c4 : w (p + 1) = 35 ∨ w (p + 1) = 107 ∨ w (p + 1) = 64
  · exact jh_D hW hp c4
  by_cases c5 : w (p + 1) = 43 ∨ w (p + 1) = 126 ∨ w (p + 1) = 45 ∨ w (p + 1) = 94
  · exact jh_E hW hp c5
  by_cases c6 : w (p + 1) = 36
  · exact jh_F hW hp c6
  · exact jh_G hW hp (by omega)
end JH
