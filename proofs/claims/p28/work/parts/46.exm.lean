/-! EXPRESSIONS ARE READ: all of them, by both sides alike -/
/-- reads past a write of the other kind, one place at a time -/
theorem z_iRa {G : mj_G} {a k v b j : Nat} : mj_i (mj_pR G a k v) b j = mj_i G b j := rfl
theorem z_kRa {G : mj_G} {a k v b : Nat} : mj_k (mj_pR G a k v) b = mj_k G b := rfl
theorem z_kIa {G : mj_G} {a k : Nat} {x : Int32} {b : Nat} : mj_k (mj_pI G a k x) b = mj_k G b := rfl
theorem z_rIa {G : mj_G} {a k : Nat} {x : Int32} {b j : Nat} : mj_r (mj_pI G a k x) b j = mj_r G b j := rfl
theorem ex_move {G : mj_G} {rd r : Nat} {x y : Int32} (h : rd ≠ mj_n G) : mj_pR (mj_pI (mj_pR (mj_pI (mj_al G 1 6 (fun _ => 0)) rd 4 x) (mj_n G) 3 2) (mj_n G) 0 y) (mj_n G) 4 r = mj_pI (mj_pR (ex_N G y) (mj_n G) 4 r) rd 4 x := by
  have h1 : mj_pR (mj_pI (mj_al G 1 6 (fun _ => 0)) rd 4 x) (mj_n G) 3 2 = mj_pI (mj_pR (mj_al G 1 6 (fun _ => 0)) (mj_n G) 3 2) rd 4 x := z_pRI
  rw [h1, z_pIc (fun q => h q.1)]
  exact z_pRI
/-- a tree out of its parts -/
theorem tx_E_s {l : Nat} {A : Nat → Prop} {G : mj_G} {r : Nat} {w : Nat → Nat} {p q : Nat} {pr : Bool} : tx_E (l + 1) A G r w p q pr ↔ (A r ∧ r ≠ 0 ∧ mj_k G r = 1 ∧ (
      (∃ m, 1 ≤ m ∧ m ≤ 4 ∧ q = p + m ∧ (∀ j, p ≤ j → j < q → tx_D (w j)) ∧ (m < 4 → ¬ tx_D (w q)) ∧ mj_i G r 0 = nI 1 ∧ mj_i G r 1 = nI (tx_num w p m)) ∨
      (tx_L (w p) ∧ q = p + 1 ∧ ¬ w q = 46 ∧ mj_i G r 0 = nI 3 ∧ mj_i G r 1 = nI (w p - 97)) ∨
      (tx_L (w p) ∧ w (p + 1) = 46 ∧ tx_D (w (p + 2)) ∧ q = p + 3 ∧ mj_i G r 0 = nI 4 ∧ mj_i G r 1 = nI (w p - 97) ∧ mj_i G r 2 = nI (w (p + 2) - 48)) ∨
      (w p = 39 ∧ p + 2 ≤ q ∧ w (q - 1) = 39 ∧ (∀ j, p < j → j < q - 1 → tx_Q (w j)) ∧ mj_i G r 0 = nI 2 ∧ A (mj_r G r 3) ∧ mj_k G (mj_r G r 3) = 22 ∧ mj_l G (mj_r G r 3) = q - p - 2 ∧ ∀ j, j < q - p - 2 → mj_i G (mj_r G r 3) j = nI (w (p + 1 + j))) ∨
      (w p = 33 ∧ ¬ w q = 124 ∧ mj_i G r 0 = nI 33 ∧ mj_r G r 5 = 0 ∧ tx_E l A G (mj_r G r 4) w (p + 1) q false) ∨
      (w p = 40 ∧ ∃ m, m + 2 < q ∧ p + 1 < m ∧ tx_O (w m) ∧ w (q - 1) = 41 ∧ mj_i G r 0 = nI (w m) ∧ tx_E l A G (mj_r G r 4) w (p + 1) m false ∧ tx_E l A G (mj_r G r 5) w (m + 1) (q - 1) false) ∨
      (pr = false ∧ ∃ m, p < m ∧ m + 2 = q ∧ w m = 124 ∧ (w (m + 1) = 117 ∨ w (m + 1) = 108 ∨ w (m + 1) = 114 ∨ w (m + 1) = 106 ∨ w (m + 1) = 110) ∧ mj_i G r 0 = nI (w (m + 1)) ∧ mj_r G r 5 = 0 ∧ tx_E l A G (mj_r G r 4) w p m false) ∨
      (pr = false ∧ ∃ m, p < m ∧ m + 2 < q ∧ w m = 124 ∧ w (m + 1) = 100 ∧ mj_i G r 0 = nI 100 ∧ tx_E l A G (mj_r G r 4) w p m false ∧ tx_E l A G (mj_r G r 5) w (m + 2) q true))) := Iff.rfl
section EM
variable {w : Nat → Nat} {n : Nat}
/-- what a primary one at p comes to -/
def je_P1 (w : Nat → Nat) (n k p : Nat) : Prop := ∃ res, rd_ok n p res ∧
  (∀ d G rd dep K, 4 * k + 40 ≤ d → cs_S G → rd_R G rd w n → rd_O G rd p → dep ≤ p → (∀ r G', cs_S G' → rd_X rd w p true G res r G' → K r G') → Rd_readPrimary d rd (nI dep) G K) ∧
  (∀ d G f K, 4 * k + 40 ≤ d → mm_S G → pt_T f w n → K res.isLeft (pt_a f (rd_q res)) → m_takesPrimary G d (pt_a f p) K)
theorem je_P_c1 (hW : tx_W w n) {k p : Nat} (hp : p ≤ n) (hk : n - p ≤ k)  (c1 : tx_D (w p)) : je_P1 w n k p := by
  have hn := hW.1
  have hw := tx_le hW p
  obtain ⟨M, m1, m2, m3, m4, m5⟩ := tx_digits hW c1
  have n1 : ¬ tx_L (w p) := fun q => by have := q.1; have := c1.2; omega
  refine ⟨.inl (p + M), ⟨by omega, m3⟩, fun d G rd dep K hd hS hR hO hdep hK => ?_, fun d G f K hd hS hT hK => ?_⟩
  · obtain ⟨d, rfl⟩ : ∃ e, d = e + 1 := ⟨d - 1, by omega⟩
    refine je_cls hS hR hO (by omega) hp hdep (fun _ => je_numeral hS hR hO (by omega) m1 m2 m3 m4 m5 hK) (fun q => absurd q n1) (fun q => ?_) (fun q => ?_) (fun q => ?_) (fun q => absurd c1 q)
    all_goals (have := c1.1; omega)
  · obtain ⟨d, rfl⟩ : ∃ e, d = e + 1 := ⟨d - 1, by omega⟩
    refine je_mod hS hW hT (by omega) hp (fun _ => c_digits hS hW hT (by omega) (m := M) (i := 0) rfl m3 (by omega) m4 (fun h => m5 (by omega)) hK) (fun q => absurd q n1) (fun q => ?_) (fun q => ?_) (fun q => ?_) (fun q => absurd c1 q)
    all_goals (have := c1.1; omega)
theorem je_P_c2 (hW : tx_W w n) {k p : Nat} (hp : p ≤ n) (hk : n - p ≤ k) (c1 : ¬ tx_D (w p)) (c2 : tx_L (w p)) : je_P1 w n k p := by
  have hn := hW.1
  have hw := tx_le hW p
  have hpn : p < n := tx_in hW (by have := c2.1; omega)
  have o1 : ¬ w p = 39 := by have := c2.1; omega
  have o2 : ¬ w p = 33 := by have := c2.1; omega
  have o3 : ¬ w p = 40 := by have := c2.1; omega
  by_cases h46 : w (p + 1) = 46
  · have hpn1 : p + 1 < n := tx_in hW (by omega)
    by_cases hD : tx_D (w (p + 2))
    · have hpn2 : p + 2 < n := tx_in hW (by have := hD.1; omega)
      refine ⟨.inl (p + 3), ⟨by omega, by omega⟩, fun d G rd dep K hd hS hR hO hdep hK => ?_, fun d G f K hd hS hT hK => ?_⟩
      · obtain ⟨d, rfl⟩ : ∃ e, d = e + 1 := ⟨d - 1, by omega⟩
        exact je_cls hS hR hO (by omega) hp hdep (fun q => absurd q c1) (fun _ => je_item hS hR hO (by omega) hpn1 c2 h46 (fun _ => hK) (fun q => absurd hD q)) (fun q => absurd q o1) (fun q => absurd q o2) (fun q => absurd q o3) (fun _ q => absurd c2 q)
      · obtain ⟨d, rfl⟩ : ∃ e, d = e + 1 := ⟨d - 1, by omega⟩
        refine je_mod hS hW hT (by omega) hp (fun q => absurd q c1) (fun _ => ?_) (fun q => absurd q o1) (fun q => absurd q o2) (fun q => absurd q o3) (fun _ q => absurd c2 q)
        refine c_takes hS hW hT (by omega) (by omega) (by decide) (fun _ => z_bt rfl ?_) (fun q => absurd h46 q)
        exact c_takesDigit hS hW hT (by omega) (by omega) (fun _ => z_bt rfl hK) (fun q => absurd hD q)
    · refine ⟨.inr (p + 2), ⟨by omega, by omega⟩, fun d G rd dep K hd hS hR hO hdep hK => ?_, fun d G f K hd hS hT hK => ?_⟩
      · obtain ⟨d, rfl⟩ : ∃ e, d = e + 1 := ⟨d - 1, by omega⟩
        exact je_cls hS hR hO (by omega) hp hdep (fun q => absurd q c1) (fun _ => je_item hS hR hO (by omega) hpn1 c2 h46 (fun q => absurd q hD) (fun _ => hK)) (fun q => absurd q o1) (fun q => absurd q o2) (fun q => absurd q o3) (fun _ q => absurd c2 q)
      · obtain ⟨d, rfl⟩ : ∃ e, d = e + 1 := ⟨d - 1, by omega⟩
        refine je_mod hS hW hT (by omega) hp (fun q => absurd q c1) (fun _ => ?_) (fun q => absurd q o1) (fun q => absurd q o2) (fun q => absurd q o3) (fun _ q => absurd c2 q)
        refine c_takes hS hW hT (by omega) (by omega) (by decide) (fun _ => z_bt rfl ?_) (fun q => absurd h46 q)
        exact c_takesDigit hS hW hT (by omega) (by omega) (fun q => absurd q hD) (fun _ => z_bf (by decide) hK)
  · refine ⟨.inl (p + 1), ⟨by omega, by omega⟩, fun d G rd dep K hd hS hR hO hdep hK => ?_, fun d G f K hd hS hT hK => ?_⟩
    · obtain ⟨d, rfl⟩ : ∃ e, d = e + 1 := ⟨d - 1, by omega⟩
      exact je_cls hS hR hO (by omega) hp hdep (fun q => absurd q c1) (fun _ => je_variable hS hR hO (by omega) hp c2 h46 hK) (fun q => absurd q o1) (fun q => absurd q o2) (fun q => absurd q o3) (fun _ q => absurd c2 q)
    · obtain ⟨d, rfl⟩ : ∃ e, d = e + 1 := ⟨d - 1, by omega⟩
      refine je_mod hS hW hT (by omega) hp (fun q => absurd q c1) (fun _ => ?_) (fun q => absurd q o1) (fun q => absurd q o2) (fun q => absurd q o3) (fun _ q => absurd c2 q)
      exact c_takes hS hW hT (by omega) (by omega) (by decide) (fun q => absurd q h46) (fun _ => z_bf (by decide) hK)
theorem je_P_c3 (hW : tx_W w n) {k p : Nat} (hp : p ≤ n) (hk : n - p ≤ k) (c1 : ¬ tx_D (w p)) (c2 : ¬ tx_L (w p)) (c3 : w p = 39) : je_P1 w n k p := by
  have hn := hW.1
  have hw := tx_le hW p
  have hpn : p < n := tx_in hW (by omega)
  have o2 : ¬ w p = 33 := by omega
  have o3 : ¬ w p = 40 := by omega
  obtain ⟨e, e1, e2, e3, e4⟩ := tx_quote hW (m := n - (p + 1)) (p := p + 1) (by omega)
  by_cases h39 : w e = 39
  · have hen : e < n := tx_in hW (by omega)
    refine ⟨.inl (e + 1), ⟨by omega, by omega⟩, fun d G rd dep K hd hS hR hO hdep hK => ?_, fun d G f K hd hS hT hK => ?_⟩
    · obtain ⟨d, rfl⟩ : ∃ e, d = e + 1 := ⟨d - 1, by omega⟩
      exact je_cls hS hR hO (by omega) hp hdep (fun q => absurd q c1) (fun q => absurd q c2) (fun _ => je_quote hS hR hO (by omega) c3 e1 e2 e3 e4 (fun _ => hK) (fun q => absurd h39 q)) (fun q => absurd q o2) (fun q => absurd q o3) (fun _ _ q => absurd c3 q)
    · obtain ⟨d, rfl⟩ : ∃ e, d = e + 1 := ⟨d - 1, by omega⟩
      exact je_mod hS hW hT (by omega) hp (fun q => absurd q c1) (fun q => absurd q c2) (fun _ => c_takesText hS hW hT (by omega) (m := e - (p + 1)) (e := e) (by omega) e2 e3 e4 (fun _ => hK) (fun q => absurd h39 q)) (fun q => absurd q o2) (fun q => absurd q o3) (fun _ _ q => absurd c3 q)
  · refine ⟨.inr e, ⟨by omega, by omega⟩, fun d G rd dep K hd hS hR hO hdep hK => ?_, fun d G f K hd hS hT hK => ?_⟩
    · obtain ⟨d, rfl⟩ : ∃ e, d = e + 1 := ⟨d - 1, by omega⟩
      exact je_cls hS hR hO (by omega) hp hdep (fun q => absurd q c1) (fun q => absurd q c2) (fun _ => je_quote hS hR hO (by omega) c3 e1 e2 e3 e4 (fun q => absurd q h39) (fun _ => hK)) (fun q => absurd q o2) (fun q => absurd q o3) (fun _ _ q => absurd c3 q)
    · obtain ⟨d, rfl⟩ : ∃ e, d = e + 1 := ⟨d - 1, by omega⟩
      exact je_mod hS hW hT (by omega) hp (fun q => absurd q c1) (fun q => absurd q c2) (fun _ => c_takesText hS hW hT (by omega) (m := e - (p + 1)) (e := e) (by omega) e2 e3 e4 (fun q => absurd q h39) (fun _ => hK)) (fun q => absurd q o2) (fun q => absurd q o3) (fun _ _ q => absurd c3 q)
theorem je_P_c4 (hW : tx_W w n) {k p : Nat} (ih : ∀ j, j + 1 = k → je_E w n j) (hp : p ≤ n) (hk : n - p ≤ k) (c1 : ¬ tx_D (w p)) (c2 : ¬ tx_L (w p)) (c3 : ¬ w p = 39) (c4 : w p = 33) : je_P1 w n k p := by
  have hn := hW.1
  have hw := tx_le hW p
  have hpn : p < n := tx_in hW (by omega)
  obtain ⟨k, rfl⟩ : ∃ j, k = j + 1 := ⟨k - 1, by omega⟩
  obtain ⟨res, r1, r2, r3, r4⟩ := ih k rfl (p + 1) (by omega) (by omega)
  refine ⟨res, ?_, fun d G rd dep K hd hS hR hO hdep hK => ?_, fun d G f K hd hS hT hK => ?_⟩
  · cases res with
    | inl q => exact ⟨by have := r1.1; omega, r1.2⟩
    | inr e => exact ⟨by have := r1.1; omega, r1.2⟩
  · obtain ⟨d, rfl⟩ : ∃ e, d = e + 1 := ⟨d - 1, by omega⟩
    refine je_cls hS hR hO (by omega) hp hdep (fun q => absurd q c1) (fun q => absurd q c2) (fun q => absurd q c3) (fun _ => ?_) (fun q => absurd q (by omega)) (fun _ _ _ q => absurd c4 q)
    have hF0 : fe_F rd G (mj_pI G rd 4 (nI (p + 1))) := fe_pI (by decide)
    have hrd := hR.2.2.2.1
    refine r3 d _ rd (dep + 1) _ (by omega) (cs_pI hS) (fe_R hR hF0) (rd_O4 hO) (by omega) (fun r G1 hS1 hX => je_117N hS1 (hK _ _ (cs_pR (ex_S hS1) ex_k rfl) ?_))
    cases res with
    | inl q =>
      obtain ⟨x1, x2, ⟨l, x3⟩, x4, x5⟩ := hX
      have g0 : mj_n (mj_pI G rd 4 (nI (p + 1))) = mj_n G := rfl
      have g1 : mj_u (mj_pI G rd 4 (nI (p + 1))) = mj_u G := rfl
      have hle := x1.1
      rw [g0] at x3 x4 x5 hle
      rw [g1] at x5
      have hne : rd ≠ mj_n G1 := by omega
      have hF1 : fe_F rd G1 (mj_pR (ex_N G1 (nI 33)) (mj_n G1) 4 r) := fe_nR ex_F (Nat.le_refl _)
      refine ⟨fe_trans hF0 (fe_trans x1 hF1), ⟨z_iRa.trans ((ex_in hne).trans x2.1), z_iRa.trans ((ex_in hne).trans x2.2)⟩, ⟨l + 1, tx_E_s.mpr ⟨⟨hle, Nat.lt_succ_self _⟩, ?_, z_kRa.trans (ex_k (x := nI 33)), Or.inr (Or.inr (Or.inr (Or.inr (Or.inl ⟨c4, r2 q rfl, z_iRa.trans ex_i0, ?_, ?_⟩))))⟩⟩, ?_, ?_⟩
      · have := hS.1; omega
      · exact (z_rRm (by decide)).trans (ex_r (by decide))
      · rw [z_rRs]
        exact tx_fe x3 hF1 (fun a ha => ⟨ha.2, by have := ha.1; omega⟩) (fun a ha => ⟨ha.1, Nat.lt_succ_of_lt ha.2⟩) (Nat.le_refl _)
      · show mj_n G1 + 1 + 2 * p + 1 ≤ _
        omega
      · show mj_u G1 + 6 + 11 * mj_n G + p ≤ mj_u G + 11 * (mj_n G1 + 1) + q
        omega
    | inr e =>
      obtain ⟨x1, x2, x4, x5⟩ := hX
      have g0 : mj_n (mj_pI G rd 4 (nI (p + 1))) = mj_n G := rfl
      have g1 : mj_u (mj_pI G rd 4 (nI (p + 1))) = mj_u G := rfl
      have hle := x1.1
      rw [g0] at x4 x5 hle
      rw [g1] at x5
      have hne : rd ≠ mj_n G1 := by omega
      refine ⟨fe_trans hF0 (fe_trans x1 (fe_nR ex_F (Nat.le_refl _))), z_iRa.trans ((ex_in hne).trans x2), ?_, ?_⟩
      · show mj_n G1 + 1 + 2 * p ≤ _
        omega
      · show mj_u G1 + 6 + 11 * mj_n G + p ≤ mj_u G + 11 * (mj_n G1 + 1) + e
        omega
  · obtain ⟨d, rfl⟩ : ∃ e, d = e + 1 := ⟨d - 1, by omega⟩
    exact je_mod hS hW hT (by omega) hp (fun q => absurd q c1) (fun q => absurd q c2) (fun q => absurd q c3) (fun _ => r4 d G f _ (by omega) hS hT hK) (fun q => absurd q (by omega)) (fun _ _ _ q => absurd c4 q)
/-- what one expression at p comes to, on the class's side -/
def je_r3 (w : Nat → Nat) (n k p : Nat) (res : Nat ⊕ Nat) : Prop := ∀ d G rd dep K, 4 * k + 42 ≤ d → cs_S G → rd_R G rd w n → rd_O G rd p → dep ≤ p → (∀ r G', cs_S G' → rd_X rd w p false G res r G' → K r G') → Rd_readExpression d rd (nI dep) G K
theorem je_40e (hW : tx_W w n) {k p : Nat} (hp : p ≤ n) (hpn : p < n) (hk : n - p ≤ k + 1) (c1 : ¬ tx_D (w p)) (c2 : ¬ tx_L (w p)) (c3 : ¬ w p = 39) (c4 : ¬ w p = 33) (c5 : w p = 40) {e : Nat} (re1 : p + 1 ≤ e) (re2 : e ≤ n) (r3 : je_r3 w n k (p + 1) (.inr e)) {d : Nat} {G : mj_G} {rd dep : Nat} {K : Nat → mj_G → Prop} (hd : 4 * (k + 1) + 40 ≤ d) (hS : cs_S G) (hR : rd_R G rd w n) (hO : rd_O G rd p) (hdep : dep ≤ p) (hK : ∀ r G', cs_S G' → rd_X rd w p true G (.inr e) r G' → K r G') : Rd_readPrimary d rd (nI dep) G K := by
  have hn := hW.1
  obtain ⟨d, rfl⟩ : ∃ e, d = e + 1 := ⟨d - 1, by omega⟩
  refine je_cls hS hR hO (by omega) hp hdep (fun q => absurd q c1) (fun q => absurd q c2) (fun q => absurd q c3) (fun q => absurd q c4) (fun _ => ?_) (fun _ _ _ _ q => absurd c5 q)
  have hF0 : fe_F rd G (mj_pI G rd 4 (nI (p + 1))) := fe_pI (by decide)
  have hrd := hR.2.2.2.1
  refine r3 d _ rd (dep + 1) _ (by omega) (cs_pI hS) (fe_R hR hF0) (rd_O4 hO) (by omega) (fun r G1 hS1 hX => ?_)
  obtain ⟨x1, x2, x4, x5⟩ := hX
  have g0 : mj_n (mj_pI G rd 4 (nI (p + 1))) = mj_n G := rfl
  have g1 : mj_u (mj_pI G rd 4 (nI (p + 1))) = mj_u G := rfl
  have hle := x1.1
  rw [g0] at x4 x5 hle
  rw [g1] at x5
  have hne : rd ≠ mj_n G1 := by omega
  have hR1 : rd_R (mj_al G1 1 6 (fun _ => 0)) rd w n := fe_R hR (fe_trans hF0 (fe_trans x1 fe_al))
  refine ⟨hR1.2.1, c_readOperatorF (cs_al hS1) hR1 ((z_iAn hne).trans x2) (by omega) (by omega) (fun v x hv => ?_)⟩
  refine je_117F (cs_pI (cs_al hS1)) (fe_R hR1 (fe_pI (by decide))) (by simp only [z_kI, z_kR, z_kAs]) (Ne.symm hne) ((z_iIm (by decide)).trans ((z_iAn hne).trans x2)) (by omega) ?_
  refine hK _ _ (cs_pR (K := 1) (cs_pI (cs_pR (K := 1) (cs_pI (cs_al hS1)) (by simp only [z_kI, z_kR, z_kAs]) rfl)) (by simp only [z_kI, z_kR, z_kAs]) rfl) ⟨fe_trans hF0 (fe_trans x1 (fe_nR (fe_nI (fe_nR (fe_trans fe_al (fe_pI (by decide))) (Nat.le_refl _)) (Nat.le_refl _)) (Nat.le_refl _))), ?_, ?_, ?_⟩
  · refine z_iRa.trans ?_
    rw [z_iIn hne]
    exact z_iRa.trans ((z_iIm (by decide)).trans ((z_iAn hne).trans x2))
  · show mj_n G1 + 1 + 2 * p ≤ _
    omega
  · show mj_u G1 + 6 + 11 * mj_n G + p ≤ mj_u G + 11 * (mj_n G1 + 1) + e
    omega
theorem je_40 (hW : tx_W w n) {k p : Nat} (hp : p ≤ n) (hpn : p < n) (hk : n - p ≤ k + 1) (c1 : ¬ tx_D (w p)) (c2 : ¬ tx_L (w p)) (c3 : ¬ w p = 39) (c4 : ¬ w p = 33) (c5 : w p = 40) {m : Nat} {res2 : Nat ⊕ Nat} (re1 : p + 1 < m) (re2 : m ≤ n) (hmn : m < n) (hwm : w m ≤ 126) (hop : tx_O (w m)) (r2 : ¬ w m = 124) (r3 : je_r3 w n k (p + 1) (.inl m)) (s3 : je_r3 w n k (m + 1) res2) : ∀ d G rd dep K, 4 * (k + 1) + 40 ≤ d + 1 → cs_S G → rd_R G rd w n → rd_O G rd p → dep ≤ p → (∀ r2 r G1 G2 E, cs_S G2 → mj_n G ≤ E → E ≠ rd → fe_F rd G G1 → mj_n G1 = E + 1 → mj_k G1 E = 1 → mj_i G1 E 0 = nI (w m) → mj_r G1 E 4 = r → (∃ l, tx_E l (fe_I (mj_n G) E) G1 r w (p + 1) m false) → E + 2 * (p + 1) + 1 ≤ mj_n G + 2 * m → mj_u G1 + 11 * mj_n G + (p + 1) ≤ mj_u G + 11 * (E + 1) + m → rd_X rd w (m + 1) false G1 res2 r2 G2 →
          (mj_k G2 E = 1) ∧ ∀ G49, G49 = mj_pR G2 E 5 r2 → (mj_k G49 rd = 8) ∧ Rd_pass d rd (nI 41) G49 (fun G51 => K E G51)) → Rd_readPrimary (d + 1) rd (nI dep) G K  := by
  have hn := hW.1
  have hw := tx_le hW p
  intro d G rd dep K hd hS hR hO hdep hK
  refine je_cls hS hR hO (by omega) hp hdep (fun q => absurd q c1) (fun q => absurd q c2) (fun q => absurd q c3) (fun q => absurd q c4) (fun _ => ?_) (fun _ _ _ _ q => absurd c5 q)
  have hF0 : fe_F rd G (mj_pI G rd 4 (nI (p + 1))) := fe_pI (by decide)
  have hrd := hR.2.2.2.1
  refine r3 d _ rd (dep + 1) _ (by omega) (cs_pI hS) (fe_R hR hF0) (rd_O4 hO) (by omega) (fun r G1 hS1 hX => ?_)
  obtain ⟨x1, x2, ⟨l, x3⟩, x4, x5⟩ := hX
  have g0 : mj_n (mj_pI G rd 4 (nI (p + 1))) = mj_n G := rfl
  have g1 : mj_u (mj_pI G rd 4 (nI (p + 1))) = mj_u G := rfl
  have hle := x1.1
  rw [g0] at x3 x4 x5 hle
  rw [g1] at x5
  have hne : rd ≠ mj_n G1 := by omega
  have hR1 : rd_R (mj_al G1 1 6 (fun _ => 0)) rd w n := fe_R hR (fe_trans hF0 (fe_trans x1 fe_al))
  have hO1 : rd_O (mj_al G1 1 6 (fun _ => 0)) rd m := ⟨(z_iAn hne).trans x2.1, (z_iAn hne).trans x2.2⟩
  refine ⟨hR1.2.1, c_readOperator (cs_al hS1) hR1 hO1 (by omega) (by omega) (fun _ => ?_) (fun q => absurd hop q)⟩
  refine w_Rd_readPrimary_117 (cs_pI (cs_al hS1)) ⟨(by simp only [z_kI, z_kR, z_kAs]), c_Ex_init (cs_pI (cs_al hS1)) (by simp only [z_kI, z_kR, z_kAs]) ⟨(by simp only [z_kI, z_kR, z_kAs]), ?_⟩⟩
  rintro _ rfl
  rw [ex_move hne]
  have hF1 : fe_F rd G1 (mj_pI (mj_pR (ex_N G1 (nI (w m))) (mj_n G1) 4 r) rd 4 (nI (m + 1))) := fe_trans (fe_nR ex_F (Nat.le_refl _)) (fe_pI (by decide))
  have hR2 := fe_R hR (fe_trans hF0 (fe_trans x1 hF1))
  have hS2 : cs_S (mj_pI (mj_pR (ex_N G1 (nI (w m))) (mj_n G1) 4 r) rd 4 (nI (m + 1))) := cs_pI (cs_pR (ex_S hS1) ex_k rfl)
  have hO2 : rd_O (mj_pI (mj_pR (ex_N G1 (nI (w m))) (mj_n G1) 4 r) rd 4 (nI (m + 1))) rd (m + 1) := ⟨z_iIs, (z_iIm (by decide)).trans (z_iRa.trans ((ex_in hne).trans x2.2))⟩
  refine z_bt rfl ⟨hR2.2.1, c_failed hS2 hR2 hO2 (z_bf (by decide) ⟨hR2.2.1, ?_⟩)⟩
  rw [z_add]
  refine s3 d _ rd (dep + 1) _ (by omega) hS2 hR2 hO2 (by omega) (fun r2 G2 hS3 hX2 => hK r2 r _ G2 (mj_n G1) hS3 hle (Ne.symm hne) (fe_trans hF0 (fe_trans x1 hF1)) rfl (z_kIa.trans (z_kRa.trans (ex_k (x := nI (w m))))) ?_ (z_rIa.trans z_rRs) ⟨l, tx_fe x3 hF1 (fun a ha => ⟨ha.2, by have := ha.1; omega⟩) (fun a ha => ha) (Nat.le_refl _)⟩ (by omega) ?_ hX2)
  · rw [z_iIn (Ne.symm hne)]
    exact z_iRa.trans ex_i0
  · show mj_u G1 + 6 + 11 * mj_n G + (p + 1) ≤ mj_u G + 11 * (mj_n G1 + 1) + m
    omega
theorem je_P_c5 (hW : tx_W w n) {k p : Nat} (ih : ∀ j, j + 1 = k → je_E w n j) (hp : p ≤ n) (hk : n - p ≤ k) (c1 : ¬ tx_D (w p)) (c2 : ¬ tx_L (w p)) (c3 : ¬ w p = 39) (c4 : ¬ w p = 33) (c5 : w p = 40) : je_P1 w n k p := by
  have hn := hW.1
  have hw := tx_le hW p
  have hpn : p < n := tx_in hW (by omega)
  obtain ⟨k, rfl⟩ : ∃ j, k = j + 1 := ⟨k - 1, by omega⟩
  obtain ⟨res, r1, r2, r3, r4⟩ := ih k rfl (p + 1) (by omega) (by omega)
  cases res with
  | inr e =>
    have re1 := r1.1
    have re2 := r1.2
    refine ⟨.inr e, ⟨by omega, r1.2⟩, fun d G rd dep K hd hS hR hO hdep hK => ?_, fun d G f K hd hS hT hK => ?_⟩
    · exact je_40e hW hp hpn hk c1 c2 c3 c4 c5 re1 re2 r3 hd hS hR hO hdep hK
    · obtain ⟨d, rfl⟩ : ∃ e, d = e + 1 := ⟨d - 1, by omega⟩
      exact je_mod hS hW hT (by omega) hp (fun q => absurd q c1) (fun q => absurd q c2) (fun q => absurd q c3) (fun q => absurd q c4) (fun _ => r4 d G f _ (by omega) hS hT (z_bf (fun h => nomatch h) hK)) (fun _ _ _ _ q => absurd c5 q)
  | inl m =>
    have re1 := r1.1
    have re2 := r1.2
    have hwm := tx_le hW m
    by_cases hop : tx_O (w m)
    · have hmn : m < n := tx_in hW (by unfold tx_O at hop; omega)
      obtain ⟨res2, s1, s2, s3, s4⟩ := ih k rfl (m + 1) (by omega) (by omega)
      -- up to the second expression
      have cls := je_40 hW hp hpn hk c1 c2 c3 c4 c5 re1 re2 hmn hwm hop (r2 m rfl) r3 s3
      have mod : ∀ d G f K, 4 * (k + 1) + 40 ≤ d + 1 → mm_S G → pt_T f w n → mm_br (res2.isLeft = true) (m_takes G d (nI 41) (pt_a f (rd_q res2)) (fun v18 f17 => mm_br (v18 = true) (K true f17) (K false f17))) (K false (pt_a f (rd_q res2))) → m_takesPrimary G (d + 1) (pt_a f p) K := by
        intro d G f K hd hS hT hK
        refine je_mod hS hW hT (by omega) hp (fun q => absurd q c1) (fun q => absurd q c2) (fun q => absurd q c3) (fun q => absurd q c4) (fun _ => r4 d G f _ (by omega) hS hT (z_bt rfl ?_)) (fun _ _ _ _ q => absurd c5 q)
        refine c_next (p := m) hS hW hT (by omega) ?_
        rw [tx_nxO hW]
        refine z_bt hop ?_
        show m_takesExpression G d (mj_u2 (pt_a f m) 1714 3 (pt_a f m 1714 3 + nI 1)) _
        rw [pt_a3, z_add, pt_aa]
        exact s4 d G f _ (by omega) hS hT hK
      cases res2 with
      | inr e =>
        have se1 := s1.1
        have se2 := s1.2
        refine ⟨.inr e, ⟨by omega, by omega⟩, fun d G rd dep K hd hS hR hO hdep hK => ?_, fun d G f K hd hS hT hK => ?_⟩
        · obtain ⟨d, rfl⟩ : ∃ e, d = e + 1 := ⟨d - 1, by omega⟩
          refine cls d G rd dep K hd hS hR hO hdep (fun r2 r G1 G2 E hS2 hE hEr hF1 hn1 hk1 hi1 hr1 ht1 hb1 hb2 hX2 => ?_)
          obtain ⟨y1, y2, y4, y5⟩ := hX2
          have hk2 : mj_k G2 E = 1 := (y1.2 E (by omega)).1.trans hk1
          refine ⟨hk2, ?_⟩
          rintro _ rfl
          have hF2 : fe_F rd G (mj_pR G2 E 5 r2) := fe_nR (fe_trans hF1 y1) hE
          refine ⟨(fe_R hR hF2).2.1, c_passF (cs_pR hS2 hk2 rfl) (fe_R hR hF2) y2 (by omega) (by omega) (hK _ _ (cs_pR hS2 hk2 rfl) ⟨hF2, y2, ?_, ?_⟩)⟩
          · show mj_n G2 + 2 * p ≤ _
            omega
          · show mj_u G2 + 11 * mj_n G + p ≤ mj_u G + 11 * mj_n G2 + e
            omega
        · obtain ⟨d, rfl⟩ : ∃ e, d = e + 1 := ⟨d - 1, by omega⟩
          exact mod d G f K hd hS hT (z_bf (fun h => nomatch h) hK)
      | inl q =>
        have se1 := s1.1
        have se2 := s1.2
        by_cases h41 : w q = 41
        · have hqn : q < n := tx_in hW (by omega)
          refine ⟨.inl (q + 1), ⟨by omega, by omega⟩, fun d G rd dep K hd hS hR hO hdep hK => ?_, fun d G f K hd hS hT hK => ?_⟩
          · obtain ⟨d, rfl⟩ : ∃ e, d = e + 1 := ⟨d - 1, by omega⟩
            refine cls d G rd dep K hd hS hR hO hdep (fun r2 r G1 G2 E hS2 hE hEr hF1 hn1 hk1 hi1 hr1 ht1 hb1 hb2 hX2 => ?_)
            obtain ⟨y1, y2, ⟨l2, y3⟩, y4, y5⟩ := hX2
            obtain ⟨l1, ht1⟩ := ht1
            obtain ⟨z1, z2, z3, z4, z5⟩ := y1.2 E (by omega)
            have hk2 : mj_k G2 E = 1 := z1.trans hk1
            have hle2 := y1.1
            have hrd := hR.2.2.2.1
            refine ⟨hk2, ?_⟩
            rintro _ rfl
            have hF2 : fe_F rd G (mj_pR G2 E 5 r2) := fe_nR (fe_trans hF1 y1) hE
            refine ⟨(fe_R hR hF2).2.1, c_pass (cs_pR hS2 hk2 rfl) (fe_R hR hF2) ⟨y2.1, y2.2⟩ (by omega) (by omega) (by decide) (fun _ => ?_) (fun x => absurd h41 x)⟩
            refine hK _ _ (cs_pI (cs_pR hS2 hk2 rfl)) ⟨fe_trans hF2 (fe_pI (by decide)), ⟨z_iIs, (z_iIm (by decide)).trans y2.2⟩, ⟨l1 + l2 + 1, tx_E_s.mpr ⟨⟨hE, ?_⟩, ?_, hk2, Or.inr (Or.inr (Or.inr (Or.inr (Or.inr (Or.inl ⟨c5, m, by omega, by omega, hop, h41, ?_, ?_, ?_⟩)))))⟩⟩, ?_, ?_⟩
            · show E < mj_n G2
              omega
            · have := hS.1; omega
            · rw [z_iIn hEr]
              exact (z4 0 (fun x => hEr x.1)).trans hi1
            · show tx_E (l1 + l2) _ _ (mj_r (mj_pR G2 E 5 r2) E 4) w (p + 1) m false
              rw [show mj_r (mj_pR G2 E 5 r2) E 4 = r from (z_rRm (by decide)).trans ((z3 4).trans hr1)]
              refine tx_E_mono w (fun a ha => ⟨ha.1, ?_⟩) (fun a ha => ?_) (Nat.le_add_right l1 l2) ht1
              · have hx := ha.1
                have hy := ha.2
                obtain ⟨a1, a2, a3, a4, -⟩ := y1.2 a (by omega)
                refine ⟨a1, a2, fun j => ?_, fun j => ?_⟩
                · exact (z_rRn (by omega)).trans (a3 j)
                · exact (z_iIn (by omega)).trans (a4 j (fun x => by omega))
              · show a < mj_n G2
                have := ha.2; omega
            · show tx_E (l1 + l2) _ _ (mj_r (mj_pR G2 E 5 r2) E 5) w (m + 1) q false
              rw [z_rRs]
              refine tx_E_mono w (fun a ha => ⟨by have := ha.1; omega, ha.2⟩) (fun a ha => ?_) (Nat.le_add_left l2 l1) y3
              have hx := ha.1
              exact ⟨rfl, rfl, fun j => z_rRn (by omega), fun j => z_iIn (by omega)⟩
            · show mj_n G2 + 2 * p + 1 ≤ _
              omega
            · show mj_u G2 + 11 * mj_n G + p ≤ mj_u G + 11 * mj_n G2 + (q + 1)
              omega
          · obtain ⟨d, rfl⟩ : ∃ e, d = e + 1 := ⟨d - 1, by omega⟩
            exact mod d G f K hd hS hT (z_bt rfl (c_takes hS hW hT (by omega) se2 (by decide) (fun _ => z_bt rfl hK) (fun x => absurd h41 x)))
        · refine ⟨.inr q, ⟨by omega, by omega⟩, fun d G rd dep K hd hS hR hO hdep hK => ?_, fun d G f K hd hS hT hK => ?_⟩
          · obtain ⟨d, rfl⟩ : ∃ e, d = e + 1 := ⟨d - 1, by omega⟩
            refine cls d G rd dep K hd hS hR hO hdep (fun r2 r G1 G2 E hS2 hE hEr hF1 hn1 hk1 hi1 hr1 ht1 hb1 hb2 hX2 => ?_)
            obtain ⟨y1, y2, ⟨l2, y3⟩, y4, y5⟩ := hX2
            have hk2 : mj_k G2 E = 1 := (y1.2 E (by omega)).1.trans hk1
            refine ⟨hk2, ?_⟩
            rintro _ rfl
            have hF2 : fe_F rd G (mj_pR G2 E 5 r2) := fe_nR (fe_trans hF1 y1) hE
            refine ⟨(fe_R hR hF2).2.1, c_pass (cs_pR hS2 hk2 rfl) (fe_R hR hF2) ⟨y2.1, y2.2⟩ (by omega) (by omega) (by decide) (fun x => absurd x h41) (fun _ => ?_)⟩
            refine hK _ _ (cs_pI (cs_pR hS2 hk2 rfl)) ⟨fe_trans hF2 (fe_pI (by decide)), z_iIs, ?_, ?_⟩
            · show mj_n G2 + 2 * p ≤ _
              omega
            · show mj_u G2 + 11 * mj_n G + p ≤ mj_u G + 11 * mj_n G2 + q
              omega
          · obtain ⟨d, rfl⟩ : ∃ e, d = e + 1 := ⟨d - 1, by omega⟩
            exact mod d G f K hd hS hT (z_bt rfl (c_takes hS hW hT (by omega) se2 (by decide) (fun x => absurd x h41) (fun _ => z_bf (by decide) hK)))
    · refine ⟨.inr m, ⟨by omega, by omega⟩, fun d G rd dep K hd hS hR hO hdep hK => ?_, fun d G f K hd hS hT hK => ?_⟩
      · obtain ⟨d, rfl⟩ : ∃ e, d = e + 1 := ⟨d - 1, by omega⟩
        refine je_cls hS hR hO (by omega) hp hdep (fun q => absurd q c1) (fun q => absurd q c2) (fun q => absurd q c3) (fun q => absurd q c4) (fun _ => ?_) (fun _ _ _ _ q => absurd c5 q)
        have hF0 : fe_F rd G (mj_pI G rd 4 (nI (p + 1))) := fe_pI (by decide)
        have hrd := hR.2.2.2.1
        refine r3 d _ rd (dep + 1) _ (by omega) (cs_pI hS) (fe_R hR hF0) (rd_O4 hO) (by omega) (fun r G1 hS1 hX => ?_)
        obtain ⟨x1, x2, ⟨l, x3⟩, x4, x5⟩ := hX
        have g0 : mj_n (mj_pI G rd 4 (nI (p + 1))) = mj_n G := rfl
        have g1 : mj_u (mj_pI G rd 4 (nI (p + 1))) = mj_u G := rfl
        have hle := x1.1
        rw [g0] at x4 x5 hle
        rw [g1] at x5
        have hne : rd ≠ mj_n G1 := by omega
        have hR1 : rd_R (mj_al G1 1 6 (fun _ => 0)) rd w n := fe_R hR (fe_trans hF0 (fe_trans x1 fe_al))
        have hO1 : rd_O (mj_al G1 1 6 (fun _ => 0)) rd m := ⟨(z_iAn hne).trans x2.1, (z_iAn hne).trans x2.2⟩
        refine ⟨hR1.2.1, c_readOperator (cs_al hS1) hR1 hO1 (by omega) (by omega) (fun q => absurd q hop) (fun _ => ?_)⟩
        refine je_117F (cs_pI (cs_al hS1)) (fe_R hR1 (fe_pI (by decide))) (by simp only [z_kI, z_kR, z_kAs]) (Ne.symm hne) z_iIs (by omega) ?_
        refine hK _ _ (cs_pR (K := 1) (cs_pI (cs_pR (K := 1) (cs_pI (cs_al hS1)) (by simp only [z_kI, z_kR, z_kAs]) rfl)) (by simp only [z_kI, z_kR, z_kAs]) rfl) ⟨fe_trans hF0 (fe_trans x1 (fe_nR (fe_nI (fe_nR (fe_trans fe_al (fe_pI (by decide))) (Nat.le_refl _)) (Nat.le_refl _)) (Nat.le_refl _))), ?_, ?_, ?_⟩
        · refine z_iRa.trans ?_
          rw [z_iIn hne]
          exact z_iRa.trans (z_iIs)
        · show mj_n G1 + 1 + 2 * p ≤ _
          omega
        · show mj_u G1 + 6 + 11 * mj_n G + p ≤ mj_u G + 11 * (mj_n G1 + 1) + m
          omega
      · obtain ⟨d, rfl⟩ : ∃ e, d = e + 1 := ⟨d - 1, by omega⟩
        refine je_mod hS hW hT (by omega) hp (fun q => absurd q c1) (fun q => absurd q c2) (fun q => absurd q c3) (fun q => absurd q c4) (fun _ => r4 d G f _ (by omega) hS hT (z_bt rfl ?_)) (fun _ _ _ _ q => absurd c5 q)
        refine c_next (p := m) hS hW hT (by omega) ?_
        rw [tx_nxO hW]
        exact z_bf hop hK
theorem je_P_c6 (hW : tx_W w n) {k p : Nat} (hp : p ≤ n) (hk : n - p ≤ k) (c1 : ¬ tx_D (w p)) (c2 : ¬ tx_L (w p)) (c3 : ¬ w p = 39) (c4 : ¬ w p = 33) (c5 : ¬ w p = 40) : je_P1 w n k p := by
  have hn := hW.1
  have hw := tx_le hW p
  refine ⟨.inr p, ⟨Nat.le_refl _, hp⟩, fun d G rd dep K hd hS hR hO hdep hK => ?_, fun d G f K hd hS hT hK => ?_⟩
  · obtain ⟨d, rfl⟩ : ∃ e, d = e + 1 := ⟨d - 1, by omega⟩
    refine je_cls hS hR hO (by omega) hp hdep (fun q => absurd q c1) (fun q => absurd q c2) (fun q => absurd q c3) (fun q => absurd q c4) (fun q => absurd q c5) (fun _ _ _ _ _ => hK _ _ (cs_pI hS) ⟨fe_pI (by decide), z_iIs, ?_, ?_⟩)
    · rw [z_nI]; omega
    · rw [z_nI, z_uI]; omega
  · obtain ⟨d, rfl⟩ : ∃ e, d = e + 1 := ⟨d - 1, by omega⟩
    exact je_mod hS hW hT (by omega) hp (fun q => absurd q c1) (fun q => absurd q c2) (fun q => absurd q c3) (fun q => absurd q c4) (fun q => absurd q c5) (fun _ _ _ _ _ => hK)
theorem je_P_step (hW : tx_W w n) (k : Nat) (ih : ∀ j, j + 1 = k → je_E w n j) : je_P w n k := by
  intro p hp hk
  by_cases c1 : tx_D (w p)
  · exact je_P_c1 hW hp hk c1
  by_cases c2 : tx_L (w p)
  · exact je_P_c2 hW hp hk c1 c2
  by_cases c3 : w p = 39
  · exact je_P_c3 hW hp hk c1 c2 c3
  by_cases c4 : w p = 33
  · exact je_P_c4 hW ih hp hk c1 c2 c3 c4
  by_cases c5 : w p = 40
  · exact je_P_c5 hW ih hp hk c1 c2 c3 c4 c5
  exact je_P_c6 hW hp hk c1 c2 c3 c4 c5
end EM
