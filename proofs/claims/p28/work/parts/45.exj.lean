/-! EXPRESSIONS ARE READ, by both sides alike -/
theorem z_pRI {G : mj_G} {a k b j v : Nat} {x : Int32} : mj_pR (mj_pI G a k x) b j v = mj_pI (mj_pR G b j v) a k x := rfl
theorem tx_fe {A B : Nat → Prop} {rd : Nat} {G G' : mj_G} {w : Nat → Nat} {k r p q : Nat} {pr : Bool} (h : tx_E k A G r w p q pr) (hF : fe_F rd G G') (hA : ∀ a, A a → a < mj_n G ∧ a ≠ rd) (hAB : ∀ a, A a → B a) : ∀ {l}, k ≤ l → tx_E l B G' r w p q pr := fun hl =>
  tx_E_mono w hAB (fun a ha => by
    obtain ⟨h1, h2⟩ := hA a ha
    obtain ⟨a1, a2, a3, a4, -⟩ := hF.2 a h1
    exact ⟨a1, a2, a3, fun j => a4 j (fun q => h2 q.1)⟩) hl h
/-- a primary one, read where there are at most k characters left -/
def je_P (w : Nat → Nat) (n k : Nat) : Prop := ∀ p, p ≤ n → n - p ≤ k → ∃ res, rd_ok n p res ∧
  (∀ d G rd dep K, 4 * k + 40 ≤ d → cs_S G → rd_R G rd w n → rd_O G rd p → dep ≤ p → (∀ r G', cs_S G' → rd_X rd w p true G res r G' → K r G') → Rd_readPrimary d rd (nI dep) G K) ∧
  (∀ d G f K, 4 * k + 40 ≤ d → mm_S G → pt_T f w n → K res.isLeft (pt_a f (rd_q res)) → m_takesPrimary G d (pt_a f p) K)
def je_E (w : Nat → Nat) (n k : Nat) : Prop := ∀ p, p ≤ n → n - p ≤ k → ∃ res, rd_ok n p res ∧ (∀ q, res = .inl q → ¬ w q = 124) ∧
  (∀ d G rd dep K, 4 * k + 42 ≤ d → cs_S G → rd_R G rd w n → rd_O G rd p → dep ≤ p → (∀ r G', cs_S G' → rd_X rd w p false G res r G' → K r G') → Rd_readExpression d rd (nI dep) G K) ∧
  (∀ d G f K, 4 * k + 42 ≤ d → mm_S G → pt_T f w n → K res.isLeft (pt_a f (rd_q res)) → m_takesExpression G d (pt_a f p) K)
section EJ
variable {w : Nat → Nat} {n p : Nat}
/-- the class's way up to the cases -/
theorem je_cls {d dep rd : Nat} {G : mj_G} {K : Nat → mj_G → Prop} (hS : cs_S G) (hR : rd_R G rd w n) (hO : rd_O G rd p) (hd : 16 ≤ d) (hp : p ≤ n) (hdep : dep ≤ p)
    (h1 : tx_D (w p) → Rd_readNumeral d rd G (fun v35 G34 => K v35 G34)) (h2 : tx_L (w p) → Rd_readVariable d rd G (fun v32 G31 => K v32 G31)) (h3 : w p = 39 → Rd_readQuote d rd G (fun v29 G28 => K v29 G28))
    (h4 : w p = 33 → Rd_readExpression d rd (nI (dep + 1)) (mj_pI G rd 4 (nI (p + 1))) (fun v12 G11 => Rd_readPrimary_117 (d + 1) rd (nI dep) (nI 33) v12 (mj_n G11) (mj_n G11) (nI 33) (mj_al G11 1 6 (fun _ => 0)) K))
    (h5 : w p = 40 → Rd_readExpression d rd (nI (dep + 1)) (mj_pI G rd 4 (nI (p + 1))) (fun v20 G19 => (mj_k (mj_al G19 1 6 (fun _ => 0)) rd = 8) ∧ Rd_readOperator d rd (mj_al G19 1 6 (fun _ => 0)) (fun v24 G23 => Rd_readPrimary_117 (d + 1) rd (nI dep) (nI 40) v20 (mj_n G19) (mj_n G19) v24 G23 K)))
    (h6 : ¬ tx_D (w p) → ¬ tx_L (w p) → ¬ w p = 39 → ¬ w p = 33 → ¬ w p = 40 → K 0 (mj_pI G rd 5 (nI p))) : Rd_readPrimary (d + 1) rd (nI dep) G K := by
  have hn := hR.1.1
  have hw := tx_le hR.1 p
  refine w_Rd_readPrimary hS (by omega) ⟨hR.2.1, ?_⟩
  rw [hO.1]
  refine c_sign hS hR (by omega) ⟨hR.2.1, c_failed hS hR hO (z_bf (by decide) ?_)⟩
  refine z_bt (by rw [z_lt (by omega) (by omega)]; omega) ?_
  refine z_br (fun hc => ⟨hR.2.1, ?_⟩) (fun c1 => z_br (fun hc => ⟨hR.2.1, ?_⟩) (fun c2 => z_br (fun hc => ⟨hR.2.1, ?_⟩) (fun c3 => z_br (fun hc => ⟨hR.2.1, ?_⟩) (fun c4 => z_br (fun hc => ⟨hR.2.1, ?_⟩) (fun c5 => ⟨hR.2.1, ?_⟩)))))
  · rw [z_12030 (by omega)] at hc
    exact h1 hc
  · rw [z_12029 (by omega)] at hc
    exact h2 hc
  · rw [z_eq (by omega) (by omega)] at hc
    exact h3 hc
  · rw [z_eq (by omega) (by omega)] at hc
    rintro _ rfl
    rw [z_add, hO.1, z_add]
    have h4' := h4 hc
    refine mj_X_mono h4' ?_
    rintro o G1 ⟨v, e1, hS1, h⟩
    refine ⟨v, e1, hS1, ?_⟩
    rintro _ rfl
    rw [hc]
    exact z_bt rfl h
  · rw [z_eq (by omega) (by omega)] at hc
    rintro _ rfl
    rw [z_add, hO.1, z_add]
    have h5' := h5 hc
    refine mj_X_mono h5' ?_
    rintro o G1 ⟨v, e1, hS1, h⟩
    refine ⟨v, e1, hS1, ?_⟩
    rintro _ rfl
    rw [hc]
    exact z_bf (by decide) h
  · rw [z_12030 (by omega)] at c1
    rw [z_12029 (by omega)] at c2
    rw [z_eq (by omega) (by omega)] at c3 c4 c5
    exact c_reject hS hR hO (h6 c1 c2 c3 c4 c5)
/-- the model's way up to the cases -/
theorem je_mod {d : Nat} {G : mj_G} {f : mm_F} {K : Bool → mm_F → Prop} (hS : mm_S G) (hW : tx_W w n) (hT : pt_T f w n) (hd : 17 ≤ d) (hp : p ≤ n)
    (h1 : tx_D (w p) → m_takesPrimary_14 G (d + 1) (nI 0) (pt_a f p) K)
    (h2 : tx_L (w p) → m_takes G d (nI 46) (pt_a f (p + 1)) (fun v31 f30 => mm_br (v31 = true) (m_takesDigit G d f30 (fun v33 f32 => mm_br (v33 = true) (K true f32) (K false f32))) (K true f30)))
    (h3 : w p = 39 → m_takesText G d (pt_a f (p + 1)) (fun v28 f27 => K v28 f27))
    (h4 : w p = 33 → m_takesExpression G d (pt_a f (p + 1)) (fun v25 f24 => K v25 f24))
    (h5 : w p = 40 → m_takesExpression G d (pt_a f (p + 1)) (fun v12 f11 => mm_br (v12 = true) (m_next G d f11 (fun v14 f13 => mm_br (qb (q_13012 v14) = true) (m_takesExpression G d (mj_u2 f13 1714 3 ((f13 1714 3) + (nI 1))) (fun v16 f15 => mm_br (v16 = true) (m_takes G d (nI 41) f15 (fun v18 f17 => mm_br (v18 = true) (K true f17) (K false f17))) (K false f15))) (K false f13))) (K false f11)))
    (h6 : ¬ tx_D (w p) → ¬ tx_L (w p) → ¬ w p = 39 → ¬ w p = 33 → ¬ w p = 40 → K false (pt_a f p)) : m_takesPrimary G (d + 1) (pt_a f p) K := by
  refine w_m_takesPrimary hS (by omega) (c_next hS hW hT hp ?_)
  rw [tx_nxD hW]
  refine z_br h1 (fun c1 => ?_)
  refine c_takesLetter hS hW hT (by omega) hp (fun hc => z_bt rfl (h2 hc)) (fun c2 => z_bf (by decide) ?_)
  refine c_takes hS hW hT (by omega) hp (by decide) (fun hc => z_bt rfl (h3 hc)) (fun c3 => z_bf (by decide) ?_)
  refine c_takes hS hW hT (by omega) hp (by decide) (fun hc => z_bt rfl (h4 hc)) (fun c4 => z_bf (by decide) ?_)
  exact c_takes hS hW hT (by omega) hp (by decide) (fun hc => z_bt rfl (h5 hc)) (fun c5 => z_bf (by decide) (h6 c1 c2 c3 c4 c5))
/-- the end of a primary one that failed -/
theorem je_117F {d rd e first g : Nat} {x1 x2 s2 : Int32} {G : mj_G} {K : Nat → mj_G → Prop} (hS : cs_S G) (hR : rd_R G rd w n) (hk : mj_k G e = 1) (hne : e ≠ rd) (h5 : mj_i G rd 5 = nI g) (hg : g ≤ 80) (h : K e (mj_pR (mj_pI (mj_pR G e 3 2) e 0 s2) e 4 first)) : Rd_readPrimary_117 (d + 1) rd x1 x2 first e e s2 G K := by
  refine w_Rd_readPrimary_117 hS ⟨hk, c_Ex_init hS hk ⟨hk, ?_⟩⟩
  rintro _ rfl
  have h5' : mj_i (mj_pR (mj_pI (mj_pR G e 3 2) e 0 s2) e 4 first) rd 5 = nI g := (z_iIn (Ne.symm hne)).trans h5
  have hS' : cs_S (mj_pR (mj_pI (mj_pR G e 3 2) e 0 s2) e 4 first) := cs_pR (cs_pI (cs_pR hS hk rfl)) hk rfl
  refine z_br (fun _ => ⟨hR.2.1, ?_⟩) (fun _ => h)
  refine w_Rd_failed hS' ⟨hR.2.1, z_bf (by rw [h5']; exact z_m1n (by omega)) (z_bt rfl h)⟩
theorem je_117N {d rd first : Nat} {x1 : Int32} {G : mj_G} {K : Nat → mj_G → Prop} (hS : cs_S G) (h : K (mj_n G) (mj_pR (ex_N G (nI 33)) (mj_n G) 4 first)) : Rd_readPrimary_117 (d + 1) rd x1 (nI 33) first (mj_n G) (mj_n G) (nI 33) (mj_al G 1 6 (fun _ => 0)) K := by
  refine w_Rd_readPrimary_117 (cs_al hS) ⟨if_pos rfl, c_newEx hS ⟨ex_k, ?_⟩⟩
  rintro _ rfl
  exact z_bf (by decide) h
end EJ
