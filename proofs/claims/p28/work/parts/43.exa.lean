/-! EXPRESSIONS ARE READ: the ones without parts -/
/-- the heap with a new expression of a kind -/
def ex_N (G : mj_G) (x : Int32) : mj_G := mj_pI (mj_pR (mj_al G 1 6 (fun _ => 0)) (mj_n G) 3 2) (mj_n G) 0 x
section EN
variable {G : mj_G} {x : Int32} {a j rd : Nat}
theorem ex_k : mj_k (ex_N G x) (mj_n G) = 1 := if_pos rfl
theorem ex_kn (h : a ≠ mj_n G) : mj_k (ex_N G x) a = mj_k G a := if_neg h
theorem ex_i0 : mj_i (ex_N G x) (mj_n G) 0 = x := z_iIs
theorem ex_i (h : j ≠ 0) : mj_i (ex_N G x) (mj_n G) j = 0 := (z_iIm h).trans (if_pos rfl)
theorem ex_in (h : a ≠ mj_n G) : mj_i (ex_N G x) a j = mj_i G a j := (z_iIn h).trans (if_neg h)
theorem ex_r (h : j ≠ 3) : mj_r (ex_N G x) (mj_n G) j = 0 := (z_rRm h).trans (if_pos rfl)
theorem ex_n : mj_n (ex_N G x) = mj_n G + 1 := rfl
theorem ex_u : mj_u (ex_N G x) = mj_u G + 6 := rfl
theorem ex_S (hS : cs_S G) : cs_S (ex_N G x) := cs_pI (cs_pR (cs_al hS) z_kAs rfl)
theorem ex_F : fe_F rd G (ex_N G x) := fe_nI (fe_nR fe_al (Nat.le_refl _)) (Nat.le_refl _)
theorem ex_O {p : Nat} (hO : rd_O G rd p) (h : rd ≠ mj_n G) : rd_O (ex_N G x) rd p := ⟨(ex_in h).trans hO.1, (ex_in h).trans hO.2⟩
theorem c_newEx {d : Nat} {K : mj_G → Prop} (hS : cs_S G) (h : K (ex_N G x)) : Ex_init d (mj_n G) x (mj_al G 1 6 (fun _ => 0)) K := c_Ex_init (cs_al hS) z_kAs h
end EN
section EX
variable {G : mj_G} {rd : Nat} {w : Nat → Nat} {n p d : Nat}
theorem je_numeral {K : Nat → mj_G → Prop} {M : Nat} (hS : cs_S G) (hR : rd_R G rd w n) (hO : rd_O G rd p) (hd : 17 ≤ d) (h1 : 1 ≤ M) (hM : M ≤ 4) (hpM : p + M ≤ n) (hq : ∀ j, p ≤ j → j < p + M → tx_D (w j)) (hx : M < 4 → ¬ tx_D (w (p + M)))
    (hK : ∀ r G', cs_S G' → rd_X rd w p true G (.inl (p + M)) r G' → K r G') : Rd_readNumeral d rd G K := by
  obtain ⟨d, rfl⟩ : ∃ e, d = e + 1 := ⟨d - 1, by omega⟩
  have hne : rd ≠ mj_n G := by have := hR.2.2.2.1; omega
  refine w_Rd_readNumeral hS ?_
  rintro _ rfl
  refine c_newEx hS ?_
  have e1 : ex_N G (nI 1) = mj_pI (mj_pI (ex_N G (nI 1)) (mj_n G) 1 (nI (tx_num w p 0))) rd 4 (nI (p + 0)) := by
    rw [z_pIi (x := nI (tx_num w p 0)) ((ex_i (by decide)).trans nI_0.symm), z_pIi]
    exact (ex_in hne).trans hO.1
  rw [e1]
  refine c_numeral (ex_S hS) (fe_R hR ex_F) ex_k (Ne.symm hne) (by omega) hM hpM hq hx ?_ (m := M) (by omega)
  have hkk : mj_k (ex_N G (nI 1)) (mj_n G) = 1 := ex_k
  refine hK _ _ (cs_pI (cs_pI (ex_S hS))) ⟨fe_trans (fe_nI ex_F (Nat.le_refl _)) (fe_pI (by decide)), ⟨z_iIs, ?_⟩, ⟨1, ⟨Nat.le_refl _, ?_⟩, ?_, ?_, Or.inl ⟨M, h1, hM, rfl, hq, hx, ?_, ?_⟩⟩, ?_, ?_⟩
  · rw [z_iIm (by decide), z_iIn hne, ex_in hne]
    exact hO.2
  · exact Nat.lt_succ_self _
  · have := hS.1; omega
  · exact hkk
  · rw [z_iIn (Ne.symm hne), z_iIm (by decide)]
    exact ex_i0
  · rw [z_iIn (Ne.symm hne), z_iIs]
  · rw [z_nI, z_nI, ex_n]; omega
  · rw [z_uI, z_uI, ex_u, z_nI, z_nI, ex_n]; omega
theorem je_variable {K : Nat → mj_G → Prop} (hS : cs_S G) (hR : rd_R G rd w n) (hO : rd_O G rd p) (hd : 17 ≤ d) (hp : p ≤ n) (hL : tx_L (w p)) (h46 : ¬ w (p + 1) = 46)
    (hK : ∀ r G', cs_S G' → rd_X rd w p true G (.inl (p + 1)) r G' → K r G') : Rd_readVariable d rd G K := by
  obtain ⟨d, rfl⟩ : ∃ e, d = e + 1 := ⟨d - 1, by omega⟩
  have hn := hR.1.1
  have hne : rd ≠ mj_n G := by have := hR.2.2.2.1; omega
  have hw := tx_le hR.1 (p + 1)
  refine w_Rd_readVariable hS ⟨hR.2.1, ?_⟩
  rw [hO.1, z_add]
  refine c_sign hS hR (by omega) ?_
  rw [z_eq (by omega) (by omega)]
  refine z_bf h46 ?_
  refine w_Rd_readVariable_20 hS ?_
  rintro _ rfl
  refine z_bt rfl (c_newEx hS ⟨(ex_kn hne).trans hR.2.1, ?_⟩)
  rw [(ex_O (x := nI 3) hO hne).1]
  refine c_sign (ex_S hS) (fe_R hR ex_F) (by omega) ⟨ex_k, ?_⟩
  rintro _ rfl
  refine ⟨(show mj_k (ex_N G (nI 3)) rd = 8 from (ex_kn hne).trans hR.2.1), ?_⟩
  rintro _ rfl
  refine z_bt rfl ?_
  rw [z_iIn hne, (ex_O (x := nI 3) hO hne).1, z_add, z_sub hL.1]
  have hkk : mj_k (ex_N G (nI 3)) (mj_n G) = 1 := ex_k
  refine hK _ _ (cs_pI (cs_pI (ex_S hS))) ⟨fe_trans (fe_nI ex_F (Nat.le_refl _)) (fe_pI (by decide)), ⟨z_iIs, ?_⟩, ⟨1, ⟨Nat.le_refl _, Nat.lt_succ_self _⟩, ?_, hkk, Or.inr (Or.inl ⟨hL, rfl, h46, ?_, ?_⟩)⟩, ?_, ?_⟩
  · rw [z_iIm (by decide), z_iIn hne, ex_in hne]
    exact hO.2
  · have := hS.1; omega
  · rw [z_iIn (Ne.symm hne), z_iIm (by decide)]
    exact ex_i0
  · rw [z_iIn (Ne.symm hne), z_iIs]
  · rw [z_nI, z_nI, ex_n]; omega
  · rw [z_uI, z_uI, ex_u, z_nI, z_nI, ex_n]; omega
theorem je_item {K : Nat → mj_G → Prop} (hS : cs_S G) (hR : rd_R G rd w n) (hO : rd_O G rd p) (hd : 17 ≤ d) (hp : p + 1 < n) (hL : tx_L (w p)) (h46 : w (p + 1) = 46)
    (h1 : tx_D (w (p + 2)) → ∀ r G', cs_S G' → rd_X rd w p true G (.inl (p + 3)) r G' → K r G') (h2 : ¬ tx_D (w (p + 2)) → ∀ r G', cs_S G' → rd_X rd w p true G (.inr (p + 2)) r G' → K r G') : Rd_readVariable d rd G K := by
  obtain ⟨d, rfl⟩ : ∃ e, d = e + 1 := ⟨d - 1, by omega⟩
  have hn := hR.1.1
  have hne : rd ≠ mj_n G := by have := hR.2.2.2.1; omega
  have hw := tx_le hR.1 (p + 1)
  refine w_Rd_readVariable hS ⟨hR.2.1, ?_⟩
  rw [hO.1, z_add]
  refine c_sign hS hR (by omega) ?_
  rw [z_eq (by omega) (by omega)]
  refine z_bt h46 ?_
  refine w_Rd_readVariable_20 hS ?_
  rintro _ rfl
  refine z_bf (by decide) (c_newEx hS ⟨(ex_kn hne).trans hR.2.1, ?_⟩)
  rw [(ex_O (x := nI 4) hO hne).1]
  refine c_sign (ex_S hS) (fe_R hR ex_F) (by omega) ⟨ex_k, ?_⟩
  rintro _ rfl
  refine ⟨(show mj_k (ex_N G (nI 4)) rd = 8 from (ex_kn hne).trans hR.2.1), ?_⟩
  rintro _ rfl
  refine z_bf (by decide) ?_
  rintro _ rfl
  rw [z_iIs, z_iIn hne, (ex_O (x := nI 4) hO hne).1, z_add, z_add, z_sub hL.1, z_pII]
  have hkk : mj_k (ex_N G (nI 4)) (mj_n G) = 1 := ex_k
  have hF : fe_F rd G (mj_pI (mj_pI (ex_N G (nI 4)) (mj_n G) 1 (nI (w p - 97))) rd 4 (nI (p + 1 + 1))) := fe_trans (fe_nI ex_F (Nat.le_refl _)) (fe_pI (by decide))
  have hO' : rd_O (mj_pI (mj_pI (ex_N G (nI 4)) (mj_n G) 1 (nI (w p - 97))) rd 4 (nI (p + 1 + 1))) rd (p + 2) := ⟨z_iIs, by rw [z_iIm (by decide), z_iIn hne, ex_in hne]; exact hO.2⟩
  refine c_readDigit (cs_pI (cs_pI (ex_S hS))) (fe_R hR hF) hO' (by omega) (by omega) (fun hD => ⟨hkk, ?_⟩) (fun hD => ⟨hkk, ?_⟩)
  · rintro _ rfl
    refine h1 hD _ _ (cs_pI (cs_pI (cs_pI (cs_pI (ex_S hS))))) ⟨fe_nI (fe_trans hF (fe_pI (by decide))) (Nat.le_refl _), ⟨?_, ?_⟩, ⟨1, ⟨Nat.le_refl _, Nat.lt_succ_self _⟩, ?_, hkk, Or.inr (Or.inr (Or.inl ⟨hL, h46, hD, rfl, ?_, ?_, z_iIs⟩))⟩, ?_, ?_⟩
    · rw [z_iIn hne, z_iIs]
    · rw [z_iIn hne, z_iIm (by decide)]
      exact hO'.2
    · have := hS.1; omega
    · rw [z_iIm (by decide), z_iIn (Ne.symm hne), z_iIn (Ne.symm hne), z_iIm (by decide)]
      exact ex_i0
    · rw [z_iIm (by decide), z_iIn (Ne.symm hne), z_iIn (Ne.symm hne), z_iIs]
    · rw [z_nI, z_nI, z_nI, z_nI, ex_n]; omega
    · rw [z_uI, z_uI, z_uI, z_uI, ex_u, z_nI, z_nI, z_nI, z_nI, ex_n]; omega
  · rintro _ rfl
    refine h2 hD _ _ (cs_pI (cs_pI (cs_pI (cs_pI (ex_S hS))))) ⟨fe_nI (fe_trans hF (fe_pI (by decide))) (Nat.le_refl _), ?_, ?_, ?_⟩
    · rw [z_iIn hne, z_iIs]
    · rw [z_nI, z_nI, z_nI, z_nI, ex_n]; omega
    · rw [z_uI, z_uI, z_uI, z_uI, ex_u, z_nI, z_nI, z_nI, z_nI, ex_n]; omega
/-- a row of characters from the text -/
theorem c_copyOf {K : Nat → mj_G → Prop} {a b : Nat} (hS : cs_S G) (ha : a ≤ b) (hb : b ≤ 80) (h : ∀ G', cs_S G' → mj_n G' = mj_n G + 1 → mj_u G' = mj_u G + (b - a) → mj_k G' (mj_n G) = 22 → mj_l G' (mj_n G) = b - a → (∀ j, j < b - a → mj_i G' (mj_n G) j = mj_i G 4 (a + j)) → (∀ rd, fe_F rd G G') → K (mj_n G) G') : Tq_copyOf d 4 (nI a) (nI b) G K := by
  have h4 : (4 : Nat) ≠ mj_n G := by have := hS.1; omega
  refine w_Tq_copyOf hS ?_
  refine z_bf (nI_pos (by omega)) ?_
  rw [z_lt (by omega) (by omega), cs_l (N := 80) hS rfl, z_le (by omega) (by omega), z_sub ha]
  refine z_bf (by omega) ⟨cs_kq hS rfl, z_bt hb ⟨nI_pos (by omega), by rw [nI_clamp (by omega)]; omega, ?_⟩⟩
  rw [nI_clamp (by omega)]
  rintro _ rfl
  refine ⟨by rw [z_kAs]; decide, ?_⟩
  rw [z_lAs]
  refine ⟨Or.inr z_kAs, ?_, by decide, by have := hS.1; omega, nI_pos (by omega), by decide, nI_pos (by omega), ?_, ?_, ?_⟩
  · rw [z_kAs, z_kAn h4]
    exact cs_k hS rfl
  · rw [nI_clamp (by omega), nI_clamp (by omega), z_lAn h4, cs_l (N := 80) hS rfl]; omega
  · rw [nI_clamp (by omega), z_lAs, nI_clamp (by omega)]; omega
  rintro _ rfl
  rw [nI_clamp (by omega), nI_clamp (by omega), nI_clamp (by omega)]
  refine h _ (cs_cp (cs_al hS)) rfl rfl (if_pos rfl) (if_pos rfl) (fun j hj => ?_) (fun rd => ?_)
  · show (if mj_n G = mj_n G ∧ 0 ≤ j ∧ j < 0 + (b - a) then mj_i (mj_al G 22 (b - a) (fun _ => 0)) 4 (a + (j - 0)) else _) = _
    rw [if_pos ⟨rfl, by omega, by omega⟩, z_iAn h4, Nat.sub_zero]
  · refine ⟨Nat.le_succ _, fun c hc => ?_⟩
    have hne : c ≠ mj_n G := by omega
    exact ⟨if_neg hne, if_neg hne, fun _ => if_neg hne, fun j _ => (if_neg (fun q => hne q.1)).trans (if_neg hne), fun _ => if_neg hne⟩
end EX
