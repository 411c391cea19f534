/-! EXPRESSIONS ARE READ: filters; the end -/
section EL
variable {w : Nat → Nat} {n : Nat}
def je_pl (c : Nat) : Prop := c = 117 ∨ c = 108 ∨ c = 114 ∨ c = 106 ∨ c = 110
def rd_ok2 (n m : Nat) (res : Nat ⊕ Nat) : Prop := m ≤ rd_q res ∧ rd_q res ≤ n
/-- behind a part up to m: what follows -/
def je_L (w : Nat → Nat) (n k p m : Nat) : Prop := ∃ res, rd_ok2 n m res ∧ (∀ q, res = .inl q → ¬ w q = 124) ∧
  (∀ d G0 G rd dep K r2 t, 4 * k + 41 ≤ d → cs_S G → rd_R G0 rd w n → fe_F rd G0 G → rd_O G rd m → dep ≤ p → t < m → (∃ l, tx_E l (fe_I (mj_n G0) (mj_n G)) G r2 w p m false) → mj_n G + 2 * p + 1 ≤ mj_n G0 + 2 * m → mj_u G + 11 * mj_n G0 + p ≤ mj_u G0 + 11 * mj_n G + m → (∀ r G', cs_S G' → rd_X rd w p false G0 res r G' → K r G') → Rd_readExpression_8 d rd (nI dep) r2 (nI t) G K) ∧
  (∀ d G f K, 4 * k + 41 ≤ d → mm_S G → pt_T f w n → K res.isLeft (pt_a f (rd_q res)) → m_takesExpression_5 G d (nI 1) (pt_a f m) K)
theorem ey_4 {G : mj_G} {rd m r2 : Nat} {y : Int32} (h : rd ≠ mj_n G) : mj_i (mj_pR (ex_N (mj_pI G rd 4 (nI m)) y) (mj_n G) 4 r2) rd 4 = nI m := z_iRa.trans ((ex_in (G := mj_pI G rd 4 (nI m)) h).trans z_iIs)
theorem ey_5 {G : mj_G} {rd r2 : Nat} {x y : Int32} (h : rd ≠ mj_n G) : mj_i (mj_pR (ex_N (mj_pI G rd 4 x) y) (mj_n G) 4 r2) rd 5 = mj_i G rd 5 := z_iRa.trans ((ex_in (G := mj_pI G rd 4 x) h).trans (z_iIm (by decide)))
theorem ey_k {G : mj_G} {rd r2 : Nat} {x y z : Int32} : mj_k (mj_pI (mj_pR (ex_N (mj_pI G rd 4 x) y) (mj_n G) 4 r2) rd 4 z) (mj_n G) = 1 := z_kIa.trans (z_kRa.trans (ex_k (G := mj_pI G rd 4 x) (x := y)))
theorem ey_0 {G : mj_G} {rd r2 : Nat} {x y z : Int32} (h : rd ≠ mj_n G) : mj_i (mj_pI (mj_pR (ex_N (mj_pI G rd 4 x) y) (mj_n G) 4 r2) rd 4 z) (mj_n G) 0 = y := (z_iIn (Ne.symm h)).trans (z_iRa.trans (ex_i0 (G := mj_pI G rd 4 x) (x := y)))
theorem ey_r5 {G : mj_G} {rd r2 : Nat} {x y z : Int32} : mj_r (mj_pI (mj_pR (ex_N (mj_pI G rd 4 x) y) (mj_n G) 4 r2) rd 4 z) (mj_n G) 5 = 0 := z_rIa.trans ((z_rRm (by decide)).trans (ex_r (G := mj_pI G rd 4 x) (x := y) (by decide)))
theorem ey_r4 {G : mj_G} {rd r2 : Nat} {x y z : Int32} : mj_r (mj_pI (mj_pR (ex_N (mj_pI G rd 4 x) y) (mj_n G) 4 r2) rd 4 z) (mj_n G) 4 = r2 := z_rIa.trans z_rRs
theorem ey_f {G : mj_G} {rd r2 : Nat} {x y z : Int32} (h : rd ≠ mj_n G) : mj_i (mj_pI (mj_pR (ex_N (mj_pI G rd 4 x) y) (mj_n G) 4 r2) rd 4 z) rd 5 = mj_i G rd 5 := (z_iIm (by decide)).trans (ey_5 h)
theorem ey_n {G : mj_G} {rd r2 : Nat} {x y z : Int32} : mj_n (mj_pI (mj_pR (ex_N (mj_pI G rd 4 x) y) (mj_n G) 4 r2) rd 4 z) = mj_n G + 1 := rfl
theorem ey_u {G : mj_G} {rd r2 : Nat} {x y z : Int32} : mj_u (mj_pI (mj_pR (ex_N (mj_pI G rd 4 x) y) (mj_n G) 4 r2) rd 4 z) = mj_u G + 6 := rfl
theorem ey_S {G : mj_G} {rd r2 : Nat} {x y z : Int32} (hS : cs_S G) : cs_S (mj_pI (mj_pR (ex_N (mj_pI G rd 4 x) y) (mj_n G) 4 r2) rd 4 z) := cs_pI (cs_pR (ex_S (cs_pI hS)) (ex_k (G := mj_pI G rd 4 x) (x := y)) rfl)
theorem ey_S0 {G : mj_G} {rd r2 : Nat} {x y : Int32} (hS : cs_S G) : cs_S (mj_pR (ex_N (mj_pI G rd 4 x) y) (mj_n G) 4 r2) := cs_pR (ex_S (cs_pI hS)) (ex_k (G := mj_pI G rd 4 x) (x := y)) rfl
theorem ey_F0 {G : mj_G} {rd r2 : Nat} {x y : Int32} : fe_F rd G (mj_pR (ex_N (mj_pI G rd 4 x) y) (mj_n G) 4 r2) := fe_nR (fe_trans (fe_pI (by decide)) ex_F) (Nat.le_refl _)
theorem ey_F {G : mj_G} {rd r2 : Nat} {x y z : Int32} : fe_F rd G (mj_pI (mj_pR (ex_N (mj_pI G rd 4 x) y) (mj_n G) 4 r2) rd 4 z) := fe_trans ey_F0 (fe_pI (by decide))
/-- the class's way at a filter -/
theorem je_fil {d rd dep r2 t p m c : Nat} {G0 G : mj_G} {K : Nat → mj_G → Prop} (hd : 16 ≤ d) (hS : cs_S G) (hR : rd_R G0 rd w n) (hF : fe_F rd G0 G) (hO : rd_O G rd m) (ht : t < m) (h124 : w m = 124) (hc : w (m + 1) = c) (hp : p < m)
    (h1 : je_pl c → Rd_readExpression_8 (d + 1) rd (nI dep) (mj_n G) (nI (t + 1)) (mj_pI (mj_pR (ex_N (mj_pI G rd 4 (nI (m + 1))) (nI c)) (mj_n G) 4 r2) rd 4 (nI (m + 2))) K)
    (h2 : c = 100 → Rd_readPrimary d rd (nI dep) (mj_pI (mj_pR (ex_N (mj_pI G rd 4 (nI (m + 1))) (nI c)) (mj_n G) 4 r2) rd 4 (nI (m + 2))) (fun v21 G20 => (mj_k G20 (mj_n G) = 1) ∧ ∀ G23, G23 = mj_pR G20 (mj_n G) 5 v21 → Rd_readExpression_8 (d + 1) rd (nI dep) (mj_n G) (nI (t + 1)) G23 K))
    (h3 : ¬ je_pl c → ¬ c = 100 → K r2 (mj_pI (mj_pR (ex_N (mj_pI G rd 4 (nI (m + 1))) (nI c)) (mj_n G) 4 r2) rd 5 (nI (m + 1)))) : Rd_readExpression_8 (d + 1) rd (nI dep) r2 (nI t) G K := by
  have hR0 := fe_R hR hF
  have hn := hR.1.1
  have hwm := tx_le hR.1 (m + 1)
  have hmn : m < n := tx_in hR.1 (by omega)
  have hne : rd ≠ mj_n G := by have := hR0.2.2.2.1; omega
  rw [hc] at hwm
  refine w_Rd_readExpression_8 hS ⟨hR0.2.1, ?_⟩
  refine z_bf (by rw [hR0.2.2.2.2.2.1, z_le (by omega) (by omega)]; omega) ?_
  refine c_failed hS hR0 hO (z_bf (by decide) ⟨hR0.2.1, ?_⟩)
  rw [hO.1]
  refine c_sign hS hR0 (by omega) ?_
  rw [h124]
  refine z_bt rfl ⟨hR0.2.1, ?_⟩
  rintro _ rfl
  rw [hO.1, z_add, z_iIs]
  have hF1 : fe_F rd G (mj_pI G rd 4 (nI (m + 1))) := fe_pI (by decide)
  have hS1 : cs_S (mj_pI G rd 4 (nI (m + 1))) := cs_pI hS
  refine c_sign hS1 (fe_R hR0 hF1) (by omega) ?_
  rw [hc]
  rintro _ rfl
  refine c_newEx hS1 ⟨ex_k, ?_⟩
  rintro _ rfl
  rw [show mj_n (mj_pI G rd 4 (nI (m + 1))) = mj_n G from rfl]
  have hS2 : cs_S (mj_pR (ex_N (mj_pI G rd 4 (nI (m + 1))) (nI c)) (mj_n G) 4 r2) := ey_S0 hS
  have hF2 : fe_F rd G (mj_pR (ex_N (mj_pI G rd 4 (nI (m + 1))) (nI c)) (mj_n G) 4 r2) := ey_F0
  have hR2 := fe_R hR0 hF2
  have i4 : mj_i (mj_pR (ex_N (mj_pI G rd 4 (nI (m + 1))) (nI c)) (mj_n G) 4 r2) rd 4 = nI (m + 1) := ey_4 hne
  have i5 : mj_i (mj_pR (ex_N (mj_pI G rd 4 (nI (m + 1))) (nI c)) (mj_n G) 4 r2) rd 5 = Int32.ofInt (-1) := (ey_5 hne).trans hO.2
  have pl : je_pl c → (mj_k (mj_pR (ex_N (mj_pI G rd 4 (nI (m + 1))) (nI c)) (mj_n G) 4 r2) rd = 8) ∧ ∀ G19, G19 = mj_pI (mj_pR (ex_N (mj_pI G rd 4 (nI (m + 1))) (nI c)) (mj_n G) 4 r2) rd 4 ((mj_i (mj_pR (ex_N (mj_pI G rd 4 (nI (m + 1))) (nI c)) (mj_n G) 4 r2) rd 4) + nI 1) → mm_br (nI c = nI 100) (Rd_readPrimary d rd (nI dep) G19 (fun v21 G20 => (mj_k G20 (mj_n G) = 1) ∧ ∀ G23, G23 = mj_pR G20 (mj_n G) 5 v21 → Rd_readExpression_8 (d + 1) rd (nI dep) (mj_n G) (nI t + nI 1) G23 K)) (Rd_readExpression_8 (d + 1) rd (nI dep) (mj_n G) (nI t + nI 1) G19 K) := fun hpl => by
    refine ⟨hR2.2.1, ?_⟩
    rintro _ rfl
    rw [i4, z_add, z_add, z_eq (by omega) (by omega)]
    refine z_bf ?_ (h1 hpl)
    unfold je_pl at hpl
    omega
  refine z_br (fun q => pl ?_) (fun n1 => z_br (fun q => pl ?_) (fun n2 => z_br (fun q => pl ?_) (fun n3 => z_br (fun q => pl ?_) (fun n4 => z_br (fun q => pl ?_) (fun n5 => z_br (fun q => ?_) (fun n6 => ?_))))))
  · rw [z_eq (by omega) (by omega)] at q
    unfold je_pl; omega
  · rw [z_eq (by omega) (by omega)] at q
    unfold je_pl; omega
  · rw [z_eq (by omega) (by omega)] at q
    unfold je_pl; omega
  · rw [z_eq (by omega) (by omega)] at q
    unfold je_pl; omega
  · rw [z_eq (by omega) (by omega)] at q
    unfold je_pl; omega
  · refine ⟨hR2.2.1, ?_⟩
    rintro _ rfl
    refine z_bt q ?_
    rw [z_eq (by omega) (by omega)] at q
    rw [i4, z_add, z_add]
    exact h2 q
  · rw [z_eq (by omega) (by omega)] at n1 n2 n3 n4 n5 n6
    exact ⟨hR2.2.1, c_reject hS2 hR2 ⟨i4, i5⟩ (h3 (by unfold je_pl; omega) n6)⟩
/-- the model's way at a filter -/
theorem je_filM {d m : Nat} {G : mj_G} {f : mm_F} {K : Bool → mm_F → Prop} (hd : 16 ≤ d) (hS : mm_S G) (hW : tx_W w n) (hT : pt_T f w n) (h124 : w m = 124)
    (h1 : je_pl (w (m + 1)) → m_takesExpression_5 G (d + 1) (nI 1) (pt_a f (m + 2)) K)
    (h2 : w (m + 1) = 100 → m_takesPrimary G d (pt_a f (m + 2)) (fun v17 f16 => mm_br (v17 = true) (m_takesExpression_5 G (d + 1) (nI 1) f16 K) (m_takesExpression_5 G (d + 1) (nI 0) f16 K)))
    (h3 : ¬ je_pl (w (m + 1)) → ¬ w (m + 1) = 100 → m_takesExpression_5 G (d + 1) (nI 0) (pt_a f (m + 1)) K) : m_takesExpression_5 G (d + 1) (nI 1) (pt_a f m) K := by
  have hn := hW.1
  have hmn : m < n := tx_in hW (by omega)
  have hwm := tx_le hW (m + 1)
  refine w_m_takesExpression_5 hS (z_bf (by decide) ?_)
  refine c_takes hS hW hT (by omega) (by omega) (by decide) (fun _ => z_bt rfl ?_) (fun q => absurd h124 q)
  refine c_next hS hW hT (by omega) ?_
  rw [tx_nxe hW (by decide), tx_nxe hW (by decide), tx_nxe hW (by decide), tx_nxe hW (by decide), tx_nxe hW (by decide), pt_a3]
  have pl : je_pl (w (m + 1)) → m_takesExpression_73 G (d + 1) (nI 1) (nI (m + 1)) (nI 1) (pt_a f (m + 1)) K := fun hpl => by
    refine w_m_takesExpression_73 hS (z_bf (by decide) ?_)
    rw [z_add, pt_aa]
    exact h1 hpl
  refine z_br (fun q => pl (Or.inl q)) (fun n1 => z_br (fun q => pl (Or.inr (Or.inl q))) (fun n2 => z_br (fun q => pl (Or.inr (Or.inr (Or.inl q)))) (fun n3 => z_br (fun q => pl (Or.inr (Or.inr (Or.inr (Or.inl q))))) (fun n4 => z_br (fun q => pl (Or.inr (Or.inr (Or.inr (Or.inr q))))) (fun n5 => ?_)))))
  refine w_m_takesExpression_73 hS (z_bt rfl ?_)
  rw [z_add, pt_aa, Nat.add_zero]
  exact c_takes hS hW hT (by omega) (by omega) (by decide) (fun q => z_bt rfl (h2 q)) (fun q => z_bf (by decide) (h3 (by unfold je_pl; omega) q))
theorem je_L_all (hW : tx_W w n) {k p : Nat} (hP : je_P w n k) (hk : n - p ≤ k) : ∀ (j m : Nat), n - m ≤ j → p < m → m ≤ n → je_L w n k p m := by
  intro j
  induction j with
  | zero =>
    intro m hj hpm hmn
    have hn := hW.1
    have hm : m = n := by omega
    have h124 : ¬ w m = 124 := by rw [hW.2.2 m (by omega)]; omega
    refine ⟨.inl m, ⟨Nat.le_refl _, hmn⟩, fun q hq => by injection hq with hq; rw [← hq]; exact h124, fun d G0 G rd dep K r2 t hd hS hR hF hO hdep ht hT hb1 hb2 hK => ?_, fun d G f K hd hS hT hK => ?_⟩
    · obtain ⟨d, rfl⟩ : ∃ e, d = e + 1 := ⟨d - 1, by omega⟩
      have hR0 := fe_R hR hF
      have hwm := tx_le hW m
      refine w_Rd_readExpression_8 hS ⟨hR0.2.1, ?_⟩
      refine z_bf (by rw [hR0.2.2.2.2.2.1, z_le (by omega) (by omega)]; omega) ?_
      refine c_failed hS hR0 hO (z_bf (by decide) ⟨hR0.2.1, ?_⟩)
      rw [hO.1]
      refine c_sign hS hR0 (by omega) (z_bf ?_ ?_)
      · rw [z_eq (by omega) (by omega)]; exact h124
      · exact hK _ _ hS ⟨hF, hO, hT, hb1, hb2⟩
    · obtain ⟨d, rfl⟩ : ∃ e, d = e + 1 := ⟨d - 1, by omega⟩
      refine w_m_takesExpression_5 hS (z_bf (by decide) ?_)
      exact c_takes hS hW hT (by omega) hmn (by decide) (fun q => absurd q h124) (fun _ => z_bf (by decide) ⟨true, rfl, hK⟩)
  | succ j ih =>
    intro m hj hpm hmn
    have hn := hW.1
    by_cases h124 : w m = 124
    case neg =>
      refine ⟨.inl m, ⟨Nat.le_refl _, hmn⟩, fun q hq => by injection hq with hq; rw [← hq]; exact h124, fun d G0 G rd dep K r2 t hd hS hR hF hO hdep ht hT hb1 hb2 hK => ?_, fun d G f K hd hS hT hK => ?_⟩
      · obtain ⟨d, rfl⟩ : ∃ e, d = e + 1 := ⟨d - 1, by omega⟩
        have hR0 := fe_R hR hF
        have hwm := tx_le hW m
        refine w_Rd_readExpression_8 hS ⟨hR0.2.1, ?_⟩
        by_cases htn : n ≤ t
        · exact z_bt (by rw [hR0.2.2.2.2.2.1, z_le (by omega) (by omega)]; exact htn) (hK _ _ hS ⟨hF, hO, hT, hb1, hb2⟩)
        refine z_bf (by rw [hR0.2.2.2.2.2.1, z_le (by omega) (by omega)]; omega) ?_
        refine c_failed hS hR0 hO (z_bf (by decide) ⟨hR0.2.1, ?_⟩)
        rw [hO.1]
        refine c_sign hS hR0 (by omega) (z_bf ?_ ?_)
        · rw [z_eq (by omega) (by omega)]; exact h124
        · exact hK _ _ hS ⟨hF, hO, hT, hb1, hb2⟩
      · obtain ⟨d, rfl⟩ : ∃ e, d = e + 1 := ⟨d - 1, by omega⟩
        refine w_m_takesExpression_5 hS (z_bf (by decide) ?_)
        exact c_takes hS hW hT (by omega) hmn (by decide) (fun q => absurd q h124) (fun _ => z_bf (by decide) ⟨true, rfl, hK⟩)
    case pos =>
      have hmn1 : m < n := tx_in hW (by omega)
      have hwm := tx_le hW (m + 1)
      by_cases hpl : je_pl (w (m + 1))
      · have hmn2 : m + 1 < n := tx_in hW (by unfold je_pl at hpl; omega)
        have h100 : ¬ w (m + 1) = 100 := by unfold je_pl at hpl; omega
        obtain ⟨res, r1, r2', r3, r4⟩ := ih (m + 2) (by omega) (by omega) (by omega)
        refine ⟨res, ⟨by have := r1.1; omega, r1.2⟩, r2', fun d G0 G rd dep K r2 t hd hS hR hF hO hdep ht hT hb1 hb2 hK => ?_, fun d G f K hd hS hT hK => ?_⟩
        · obtain ⟨d, rfl⟩ : ∃ e, d = e + 1 := ⟨d - 1, by omega⟩
          refine je_fil (by omega) hS hR hF hO ht h124 rfl hpm (fun _ => ?_) (fun q => absurd q h100) (fun q => absurd hpl q)
          have hrd := hR.2.2.2.1
          have hle := hF.1
          have hne : rd ≠ mj_n G := by omega
          have hF1 : fe_F rd G (mj_pI (mj_pR (ex_N (mj_pI G rd 4 (nI (m + 1))) (nI (w (m + 1)))) (mj_n G) 4 r2) rd 4 (nI (m + 2))) := ey_F
          have hS2 : cs_S (mj_pI (mj_pR (ex_N (mj_pI G rd 4 (nI (m + 1))) (nI (w (m + 1)))) (mj_n G) 4 r2) rd 4 (nI (m + 2))) := ey_S hS
          obtain ⟨l, hT⟩ := hT
          refine r3 (d + 1) G0 _ rd dep K (mj_n G) (t + 1) (by omega) hS2 hR (fe_trans hF hF1) ⟨z_iIs, (ey_f hne).trans hO.2⟩ hdep (by omega) ⟨l + 1, tx_E_s.mpr ⟨⟨hle, Nat.lt_succ_self _⟩, ?_, ey_k, Or.inr (Or.inr (Or.inr (Or.inr (Or.inr (Or.inr (Or.inl ⟨rfl, m, hpm, rfl, h124, hpl, ?_, ?_, ?_⟩))))))⟩⟩ ?_ ?_ hK
          · have := hS.1; omega
          · exact ey_0 hne
          · exact ey_r5
          · rw [ey_r4]
            exact tx_fe hT hF1 (fun a ha => ⟨ha.2, by have := ha.1; omega⟩) (fun a ha => ⟨ha.1, Nat.lt_succ_of_lt ha.2⟩) (Nat.le_refl _)
          · show mj_n G + 1 + 2 * p + 1 ≤ _
            omega
          · show mj_u G + 6 + 11 * mj_n G0 + p ≤ mj_u G0 + 11 * (mj_n G + 1) + (m + 2)
            omega
        · obtain ⟨d, rfl⟩ : ∃ e, d = e + 1 := ⟨d - 1, by omega⟩
          exact je_filM (by omega) hS hW hT h124 (fun _ => r4 (d + 1) G f K hd hS hT hK) (fun q => absurd q h100) (fun q => absurd hpl q)
      by_cases h100 : w (m + 1) = 100
      · have hmn2 : m + 1 < n := tx_in hW (by omega)
        obtain ⟨res1, p1, p2, p3⟩ := hP (m + 2) (by omega) (by omega)
        cases res1 with
        | inr e =>
          have pe1 := p1.1
          have pe2 := p1.2
          refine ⟨.inr e, ⟨by show m ≤ e; omega, p1.2⟩, fun q hq => by injection hq, fun d G0 G rd dep K r2 t hd hS hR hF hO hdep ht hT hb1 hb2 hK => ?_, fun d G f K hd hS hT hK => ?_⟩
          · obtain ⟨d, rfl⟩ : ∃ e, d = e + 1 := ⟨d - 1, by omega⟩
            refine je_fil (by omega) hS hR hF hO ht h124 rfl hpm (fun q => absurd q hpl) (fun _ => ?_) (fun _ q => absurd h100 q)
            have hrd := hR.2.2.2.1
            have hle := hF.1
            have hne : rd ≠ mj_n G := by omega
            have hF1 : fe_F rd G (mj_pI (mj_pR (ex_N (mj_pI G rd 4 (nI (m + 1))) (nI (w (m + 1)))) (mj_n G) 4 r2) rd 4 (nI (m + 2))) := ey_F
            have hS2 : cs_S (mj_pI (mj_pR (ex_N (mj_pI G rd 4 (nI (m + 1))) (nI (w (m + 1)))) (mj_n G) 4 r2) rd 4 (nI (m + 2))) := ey_S hS
            have hkk : mj_k (mj_pI (mj_pR (ex_N (mj_pI G rd 4 (nI (m + 1))) (nI (w (m + 1)))) (mj_n G) 4 r2) rd 4 (nI (m + 2))) (mj_n G) = 1 := ey_k
            refine p2 d _ rd dep _ (by omega) hS2 (fe_R (fe_R hR hF) hF1) ⟨z_iIs, (ey_f hne).trans hO.2⟩ (by omega) (fun r G2 hS3 hX => ?_)
            obtain ⟨y1, y2, y4, y5⟩ := hX
            have hn2 : mj_n (mj_pI (mj_pR (ex_N (mj_pI G rd 4 (nI (m + 1))) (nI (w (m + 1)))) (mj_n G) 4 r2) rd 4 (nI (m + 2))) = mj_n G + 1 := ey_n
            have hu2 : mj_u (mj_pI (mj_pR (ex_N (mj_pI G rd 4 (nI (m + 1))) (nI (w (m + 1)))) (mj_n G) 4 r2) rd 4 (nI (m + 2))) = mj_u G + 6 := ey_u
            have hle2 := y1.1
            rw [hn2] at hle2 y4 y5
            rw [hu2] at y5
            have hk2 : mj_k G2 (mj_n G) = 1 := (y1.2 (mj_n G) (by rw [hn2]; omega)).1.trans hkk
            refine ⟨hk2, ?_⟩
            rintro _ rfl
            have hF3 : fe_F rd G0 (mj_pR G2 (mj_n G) 5 r) := fe_nR (fe_trans hF (fe_trans hF1 y1)) hle
            refine w_Rd_readExpression_8 (cs_pR hS3 hk2 rfl) ⟨(fe_R hR hF3).2.1, ?_⟩
            have fin : K (mj_n G) (mj_pR G2 (mj_n G) 5 r) := by
              refine hK _ _ (cs_pR hS3 hk2 rfl) ⟨hF3, y2, ?_, ?_⟩
              · show mj_n G2 + 2 * p ≤ _
                omega
              · show mj_u G2 + 11 * mj_n G0 + p ≤ mj_u G0 + 11 * mj_n G2 + e
                omega
            exact z_br (fun _ => fin) (fun _ => c_failedF (cs_pR hS3 hk2 rfl) (fe_R hR hF3) y2 (by omega) (z_bt rfl fin))
          · obtain ⟨d, rfl⟩ : ∃ e, d = e + 1 := ⟨d - 1, by omega⟩
            refine je_filM (by omega) hS hW hT h124 (fun q => absurd q hpl) (fun _ => p3 d G f _ (by omega) hS hT (z_bf (fun h => nomatch h) ?_)) (fun _ q => absurd h100 q)
            exact w_m_takesExpression_5 hS (z_bt rfl ⟨false, rfl, hK⟩)
        | inl q =>
          have pe1 := p1.1
          have pe2 := p1.2
          obtain ⟨res, r1, r2', r3, r4⟩ := ih q (by omega) (by omega) (by omega)
          refine ⟨res, ⟨by have := r1.1; omega, r1.2⟩, r2', fun d G0 G rd dep K r2 t hd hS hR hF hO hdep ht hT hb1 hb2 hK => ?_, fun d G f K hd hS hT hK => ?_⟩
          · obtain ⟨d, rfl⟩ : ∃ e, d = e + 1 := ⟨d - 1, by omega⟩
            refine je_fil (by omega) hS hR hF hO ht h124 rfl hpm (fun x => absurd x hpl) (fun _ => ?_) (fun _ x => absurd h100 x)
            have hrd := hR.2.2.2.1
            have hle := hF.1
            have hne : rd ≠ mj_n G := by omega
            have hF1 : fe_F rd G (mj_pI (mj_pR (ex_N (mj_pI G rd 4 (nI (m + 1))) (nI (w (m + 1)))) (mj_n G) 4 r2) rd 4 (nI (m + 2))) := ey_F
            have hS2 : cs_S (mj_pI (mj_pR (ex_N (mj_pI G rd 4 (nI (m + 1))) (nI (w (m + 1)))) (mj_n G) 4 r2) rd 4 (nI (m + 2))) := ey_S hS
            have hkk : mj_k (mj_pI (mj_pR (ex_N (mj_pI G rd 4 (nI (m + 1))) (nI (w (m + 1)))) (mj_n G) 4 r2) rd 4 (nI (m + 2))) (mj_n G) = 1 := ey_k
            have hii : mj_i (mj_pI (mj_pR (ex_N (mj_pI G rd 4 (nI (m + 1))) (nI (w (m + 1)))) (mj_n G) 4 r2) rd 4 (nI (m + 2))) (mj_n G) 0 = nI 100 := (ey_0 hne).trans (by rw [h100])
            have hrr : mj_r (mj_pI (mj_pR (ex_N (mj_pI G rd 4 (nI (m + 1))) (nI (w (m + 1)))) (mj_n G) 4 r2) rd 4 (nI (m + 2))) (mj_n G) 4 = r2 := ey_r4
            refine p2 d _ rd dep _ (by omega) hS2 (fe_R (fe_R hR hF) hF1) ⟨z_iIs, (ey_f hne).trans hO.2⟩ (by omega) (fun r G2 hS3 hX => ?_)
            obtain ⟨y1, y2, ⟨l2, y3⟩, y4, y5⟩ := hX
            have hn2 : mj_n (mj_pI (mj_pR (ex_N (mj_pI G rd 4 (nI (m + 1))) (nI (w (m + 1)))) (mj_n G) 4 r2) rd 4 (nI (m + 2))) = mj_n G + 1 := ey_n
            have hu2 : mj_u (mj_pI (mj_pR (ex_N (mj_pI G rd 4 (nI (m + 1))) (nI (w (m + 1)))) (mj_n G) 4 r2) rd 4 (nI (m + 2))) = mj_u G + 6 := ey_u
            have hle2 := y1.1
            obtain ⟨a1, -, a3, a4, -⟩ := y1.2 (mj_n G) (by rw [hn2]; omega)
            rw [hn2] at hle2 y3 y4 y5
            rw [hu2] at y5
            have hk2 : mj_k G2 (mj_n G) = 1 := a1.trans hkk
            refine ⟨hk2, ?_⟩
            rintro _ rfl
            have hF3 : fe_F rd G0 (mj_pR G2 (mj_n G) 5 r) := fe_nR (fe_trans hF (fe_trans hF1 y1)) hle
            obtain ⟨l, hT⟩ := hT
            refine r3 (d + 1) G0 _ rd dep K (mj_n G) (t + 1) (by omega) (cs_pR hS3 hk2 rfl) hR hF3 ⟨y2.1, y2.2⟩ hdep (by omega) ⟨l + l2 + 1, tx_E_s.mpr ⟨⟨hle, ?_⟩, ?_, hk2, Or.inr (Or.inr (Or.inr (Or.inr (Or.inr (Or.inr (Or.inr ⟨rfl, m, hpm, by omega, h124, h100, ?_, ?_, ?_⟩))))))⟩⟩ ?_ ?_ hK
            · show mj_n G < mj_n G2
              omega
            · have := hS.1; omega
            · exact (a4 0 (fun x => hne x.1.symm)).trans hii
            · show tx_E (l + l2) _ _ (mj_r (mj_pR G2 (mj_n G) 5 r) (mj_n G) 4) w p m false
              rw [show mj_r (mj_pR G2 (mj_n G) 5 r) (mj_n G) 4 = r2 from (z_rRm (by decide)).trans ((a3 4).trans hrr)]
              refine tx_E_mono w (A := fe_I (mj_n G0) (mj_n G)) (G := G) (fun a ha => ⟨ha.1, ?_⟩) (fun a ha => ?_) (Nat.le_add_right l l2) hT
              · have hx := ha.1
                have hy := ha.2
                obtain ⟨b1, b2, b3, b4, -⟩ := (fe_trans hF1 y1).2 a hy
                exact ⟨b1, b2, fun j => (z_rRn (by omega)).trans (b3 j), fun j => b4 j (fun x => by omega)⟩
              · show a < mj_n G2
                have := ha.2; omega
            · show tx_E (l + l2) _ _ (mj_r (mj_pR G2 (mj_n G) 5 r) (mj_n G) 5) w (m + 2) q true
              rw [z_rRs]
              refine tx_E_mono w (fun a ha => ⟨by have := ha.1; omega, ha.2⟩) (fun a ha => ?_) (Nat.le_add_left l2 l) y3
              have hx := ha.1
              exact ⟨rfl, rfl, fun j => z_rRn (by omega), fun j => rfl⟩
            · show mj_n G2 + 2 * p + 1 ≤ _
              omega
            · show mj_u G2 + 11 * mj_n G0 + p ≤ mj_u G0 + 11 * mj_n G2 + q
              omega
          · obtain ⟨d, rfl⟩ : ∃ e, d = e + 1 := ⟨d - 1, by omega⟩
            exact je_filM (by omega) hS hW hT h124 (fun x => absurd x hpl) (fun _ => p3 d G f _ (by omega) hS hT (z_bt rfl (r4 (d + 1) G f K hd hS hT hK))) (fun _ x => absurd h100 x)
      · refine ⟨.inr (m + 1), ⟨Nat.le_succ _, by show m + 1 ≤ n; omega⟩, fun q hq => by injection hq, fun d G0 G rd dep K r2 t hd hS hR hF hO hdep ht hT hb1 hb2 hK => ?_, fun d G f K hd hS hT hK => ?_⟩
        · obtain ⟨d, rfl⟩ : ∃ e, d = e + 1 := ⟨d - 1, by omega⟩
          refine je_fil (by omega) hS hR hF hO ht h124 rfl hpm (fun q => absurd q hpl) (fun q => absurd q h100) (fun _ _ => ?_)
          have hrd := hR.2.2.2.1
          have hle := hF.1
          refine hK _ _ (cs_pI (ey_S0 hS)) ⟨fe_trans hF (fe_trans ey_F0 (fe_pI (by decide))), z_iIs, ?_, ?_⟩
          · show mj_n G + 1 + 2 * p ≤ _
            omega
          · show mj_u G + 6 + 11 * mj_n G0 + p ≤ mj_u G0 + 11 * (mj_n G + 1) + (m + 1)
            omega
        · obtain ⟨d, rfl⟩ : ∃ e, d = e + 1 := ⟨d - 1, by omega⟩
          refine je_filM (by omega) hS hW hT h124 (fun q => absurd q hpl) (fun q => absurd q h100) (fun _ _ => ?_)
          exact w_m_takesExpression_5 hS (z_bt rfl ⟨false, rfl, hK⟩)
theorem tx_E_pr {A : Nat → Prop} {G : mj_G} {k r p q : Nat} (h : tx_E k A G r w p q true) : tx_E k A G r w p q false := by
  cases k with
  | zero => exact h
  | succ k =>
    obtain ⟨h1, h2, h3, h⟩ := h
    refine ⟨h1, h2, h3, ?_⟩
    rcases h with h | h | h | h | h | h | h | h
    · exact Or.inl h
    · exact Or.inr (Or.inl h)
    · exact Or.inr (Or.inr (Or.inl h))
    · exact Or.inr (Or.inr (Or.inr (Or.inl h)))
    · exact Or.inr (Or.inr (Or.inr (Or.inr (Or.inl h))))
    · exact Or.inr (Or.inr (Or.inr (Or.inr (Or.inr (Or.inl h)))))
    · exact absurd h.1 (by decide)
    · exact absurd h.1 (by decide)
theorem je_E_step (hW : tx_W w n) (k : Nat) (hP : je_P w n k) : je_E w n k := by
  intro p hp hk
  have hn := hW.1
  obtain ⟨res1, p1, p2, p3⟩ := hP p hp hk
  cases res1 with
  | inr e =>
    have pe1 := p1.1
    have pe2 := p1.2
    refine ⟨.inr e, p1, fun q hq => by injection hq, fun d G rd dep K hd hS hR hO hdep hK => ?_, fun d G f K hd hS hT hK => ?_⟩
    · obtain ⟨d, rfl⟩ : ∃ e, d = e + 1 := ⟨d - 1, by omega⟩
      refine w_Rd_readExpression hS ⟨hR.2.1, p2 d G rd dep _ (by omega) hS hR hO hdep (fun r G1 hS1 hX => ?_)⟩
      have hF := hX.1
      have h5 := hX.2.1
      refine w_Rd_readExpression_8 hS1 ⟨(fe_R hR hF).2.1, ?_⟩
      have fin : K r G1 := hK _ _ hS1 hX
      exact z_br (fun _ => fin) (fun _ => c_failedF hS1 (fe_R hR hF) h5 (by omega) (z_bt rfl fin))
    · obtain ⟨d, rfl⟩ : ∃ e, d = e + 1 := ⟨d - 1, by omega⟩
      refine w_m_takesExpression hS (p3 d G f _ (by omega) hS hT ?_)
      exact w_m_takesExpression_5 hS (z_bt rfl ⟨false, rfl, hK⟩)
  | inl m =>
    have pe1 := p1.1
    have pe2 := p1.2
    obtain ⟨res, r1, r2', r3, r4⟩ := je_L_all hW hP hk (n - m) m (Nat.le_refl _) pe1 pe2
    refine ⟨res, ?_, r2', fun d G rd dep K hd hS hR hO hdep hK => ?_, fun d G f K hd hS hT hK => ?_⟩
    · have s1 := r1.1
      have s2 := r1.2
      cases res with
      | inl q => exact ⟨Nat.lt_of_lt_of_le pe1 s1, s2⟩
      | inr e => exact ⟨Nat.le_trans (Nat.le_of_lt pe1) s1, s2⟩
    · obtain ⟨d, rfl⟩ : ∃ e, d = e + 1 := ⟨d - 1, by omega⟩
      refine w_Rd_readExpression hS ⟨hR.2.1, p2 d G rd dep _ (by omega) hS hR hO hdep (fun r G1 hS1 hX => ?_)⟩
      obtain ⟨x1, x2, ⟨l, x3⟩, x4, x5⟩ := hX
      exact r3 (d + 1) G G1 rd dep K r 0 (by omega) hS1 hR x1 x2 hdep (by omega) ⟨l, tx_E_pr x3⟩ x4 x5 hK
    · obtain ⟨d, rfl⟩ : ∃ e, d = e + 1 := ⟨d - 1, by omega⟩
      exact w_m_takesExpression hS (p3 d G f _ (by omega) hS hT (r4 (d + 1) G f K (by omega) hS hT hK))
theorem je_all (hW : tx_W w n) : ∀ k, je_P w n k ∧ je_E w n k
  | 0 => by
    have h := je_P_step hW 0 (fun j hj => absurd hj (by omega))
    exact ⟨h, je_E_step hW 0 h⟩
  | k + 1 => by
    have h := je_P_step hW (k + 1) (fun j hj => by
      have : j = k := by omega
      rw [this]
      exact (je_all hW k).2)
    exact ⟨h, je_E_step hW (k + 1) h⟩
end EL
