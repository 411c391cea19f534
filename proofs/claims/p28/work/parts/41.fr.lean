/-! FRAMES of the class's reader; expressions as trees over the text -/
/-- G' is G, but for the reader's place and fault, and what is new -/
def fe_F (rd : Nat) (G G' : mj_G) : Prop := mj_n G ≤ mj_n G' ∧ ∀ a, a < mj_n G → mj_k G' a = mj_k G a ∧ mj_l G' a = mj_l G a ∧ (∀ j, mj_r G' a j = mj_r G a j) ∧ (∀ j, ¬ (a = rd ∧ 4 ≤ j) → mj_i G' a j = mj_i G a j) ∧ ∀ j, mj_j G' a j = mj_j G a j
theorem fe_rfl {rd : Nat} {G : mj_G} : fe_F rd G G := ⟨Nat.le_refl _, fun _ _ => ⟨rfl, rfl, fun _ => rfl, fun _ _ => rfl, fun _ => rfl⟩⟩
theorem fe_trans {rd : Nat} {G G1 G2 : mj_G} (h1 : fe_F rd G G1) (h2 : fe_F rd G1 G2) : fe_F rd G G2 := by
  refine ⟨Nat.le_trans h1.1 h2.1, fun a ha => ?_⟩
  obtain ⟨a1, a2, a3, a4, a5⟩ := h1.2 a ha
  obtain ⟨b1, b2, b3, b4, b5⟩ := h2.2 a (Nat.lt_of_lt_of_le ha h1.1)
  exact ⟨b1.trans a1, b2.trans a2, fun j => (b3 j).trans (a3 j), fun j hj => (b4 j hj).trans (a4 j hj), fun j => (b5 j).trans (a5 j)⟩
theorem fe_pI {rd k : Nat} {x : Int32} {G : mj_G} (h : 4 ≤ k) : fe_F rd G (mj_pI G rd k x) :=
  ⟨Nat.le_refl _, fun a _ => ⟨rfl, rfl, fun _ => rfl, fun j hj => if_neg (fun q => hj ⟨q.1, by omega⟩), fun _ => rfl⟩⟩
theorem fe_al {rd kd len : Nat} {row : Nat → Int32} {G : mj_G} : fe_F rd G (mj_al G kd len row) := by
  refine ⟨Nat.le_succ _, fun a ha => ?_⟩
  have hne : a ≠ mj_n G := by omega
  exact ⟨if_neg hne, if_neg hne, fun _ => if_neg hne, fun _ _ => if_neg hne, fun _ => if_neg hne⟩
/-- a write to what is new -/
theorem fe_nI {rd a k : Nat} {x : Int32} {G G1 : mj_G} (h : fe_F rd G G1) (ha : mj_n G ≤ a) : fe_F rd G (mj_pI G1 a k x) := by
  refine ⟨h.1, fun b hb => ?_⟩
  obtain ⟨a1, a2, a3, a4, a5⟩ := h.2 b hb
  exact ⟨a1, a2, a3, fun j hj => (if_neg (fun q => by have := q.1; omega)).trans (a4 j hj), a5⟩
theorem fe_nR {rd a k v : Nat} {G G1 : mj_G} (h : fe_F rd G G1) (ha : mj_n G ≤ a) : fe_F rd G (mj_pR G1 a k v) := by
  refine ⟨h.1, fun b hb => ?_⟩
  obtain ⟨a1, a2, a3, a4, a5⟩ := h.2 b hb
  exact ⟨a1, a2, fun j => (if_neg (fun q => by have := q.1; omega)).trans (a3 j), a4, a5⟩
theorem fe_R {G G' : mj_G} {rd n : Nat} {w : Nat → Nat} (hR : rd_R G rd w n) (h : fe_F rd G G') : rd_R G' rd w n := by
  obtain ⟨hW, r1, r2, r3, r4, r5, r6⟩ := hR
  obtain ⟨a1, a2, a3, a4, a5⟩ := h.2 rd r3
  obtain ⟨b1, b2, b3, b4, b5⟩ := h.2 4 (by omega)
  exact ⟨hW, a1.trans r1, r2, Nat.lt_of_lt_of_le r3 h.1, (a3 0).trans r4, (a4 1 (by omega)).trans r5, fun k hk => (b4 k (by omega)).trans (r6 k hk)⟩
theorem rd_O4 {G : mj_G} {rd p q : Nat} (hO : rd_O G rd p) : rd_O (mj_pI G rd 4 (nI q)) rd q := ⟨z_iIs, (z_iIm (by decide)).trans hO.2⟩
theorem rd_OF {G G' : mj_G} {rd p : Nat} (hO : rd_O G rd p) (h4 : mj_i G' rd 4 = mj_i G rd 4) (h5 : mj_i G' rd 5 = mj_i G rd 5) : rd_O G' rd p := ⟨h4.trans hO.1, h5.trans hO.2⟩
/-- what a numeral of m digits is -/
def tx_num (w : Nat → Nat) (p : Nat) : Nat → Nat
  | 0 => 0
  | m + 1 => 10 * tx_num w p m + (w (p + m) - 48)
/-- r is the tree of the expression from p to q (pr: a primary one), in cells of A -/
def tx_E : Nat → (Nat → Prop) → mj_G → Nat → (Nat → Nat) → Nat → Nat → Bool → Prop
  | 0, _, _, _, _, _, _, _ => False
  | k + 1, A, G, r, w, p, q, pr => A r ∧ r ≠ 0 ∧ mj_k G r = 1 ∧ (
      (∃ m, 1 ≤ m ∧ m ≤ 4 ∧ q = p + m ∧ (∀ j, p ≤ j → j < q → tx_D (w j)) ∧ (m < 4 → ¬ tx_D (w q)) ∧ mj_i G r 0 = nI 1 ∧ mj_i G r 1 = nI (tx_num w p m)) ∨
      (tx_L (w p) ∧ q = p + 1 ∧ ¬ w q = 46 ∧ mj_i G r 0 = nI 3 ∧ mj_i G r 1 = nI (w p - 97)) ∨
      (tx_L (w p) ∧ w (p + 1) = 46 ∧ tx_D (w (p + 2)) ∧ q = p + 3 ∧ mj_i G r 0 = nI 4 ∧ mj_i G r 1 = nI (w p - 97) ∧ mj_i G r 2 = nI (w (p + 2) - 48)) ∨
      (w p = 39 ∧ p + 2 ≤ q ∧ w (q - 1) = 39 ∧ (∀ j, p < j → j < q - 1 → tx_Q (w j)) ∧ mj_i G r 0 = nI 2 ∧ A (mj_r G r 3) ∧ mj_k G (mj_r G r 3) = 22 ∧ mj_l G (mj_r G r 3) = q - p - 2 ∧ ∀ j, j < q - p - 2 → mj_i G (mj_r G r 3) j = nI (w (p + 1 + j))) ∨
      (w p = 33 ∧ ¬ w q = 124 ∧ mj_i G r 0 = nI 33 ∧ mj_r G r 5 = 0 ∧ tx_E k A G (mj_r G r 4) w (p + 1) q false) ∨
      (w p = 40 ∧ ∃ m, m + 2 < q ∧ p + 1 < m ∧ tx_O (w m) ∧ w (q - 1) = 41 ∧ mj_i G r 0 = nI (w m) ∧ tx_E k A G (mj_r G r 4) w (p + 1) m false ∧ tx_E k A G (mj_r G r 5) w (m + 1) (q - 1) false) ∨
      (pr = false ∧ ∃ m, p < m ∧ m + 2 = q ∧ w m = 124 ∧ (w (m + 1) = 117 ∨ w (m + 1) = 108 ∨ w (m + 1) = 114 ∨ w (m + 1) = 106 ∨ w (m + 1) = 110) ∧ mj_i G r 0 = nI (w (m + 1)) ∧ mj_r G r 5 = 0 ∧ tx_E k A G (mj_r G r 4) w p m false) ∨
      (pr = false ∧ ∃ m, p < m ∧ m + 2 < q ∧ w m = 124 ∧ w (m + 1) = 100 ∧ mj_i G r 0 = nI 100 ∧ tx_E k A G (mj_r G r 4) w p m false ∧ tx_E k A G (mj_r G r 5) w (m + 2) q true))
theorem tx_E_mono {A B : Nat → Prop} {G G' : mj_G} (w : Nat → Nat) (hAB : ∀ a, A a → B a) (hG : ∀ a, A a → mj_k G' a = mj_k G a ∧ mj_l G' a = mj_l G a ∧ (∀ j, mj_r G' a j = mj_r G a j) ∧ ∀ j, mj_i G' a j = mj_i G a j) :
    ∀ {k l r p q pr}, k ≤ l → tx_E k A G r w p q pr → tx_E l B G' r w p q pr
  | 0, _, _, _, _, _, _, h => h.elim
  | k + 1, 0, _, _, _, _, hl, _ => absurd hl (by omega)
  | k + 1, l + 1, r, p, q, pr, hl, h => by
    have ih : ∀ {r p q pr}, tx_E k A G r w p q pr → tx_E l B G' r w p q pr := fun h => tx_E_mono w hAB hG (by omega) h
    obtain ⟨hA, h0, hk, h⟩ := h
    obtain ⟨g1, g2, g3, g4⟩ := hG r hA
    refine ⟨hAB r hA, h0, g1.trans hk, ?_⟩
    simp only [g3, g4]
    rcases h with h | h | h | ⟨a1, a2, a3, a4, a5, a6, a7, a8, a9⟩ | ⟨a1, a2, a3, a4, a5⟩ | ⟨a1, m, a2, a3, a4, a5, a6, a7, a8⟩ | ⟨a1, m, a2, a3, a4, a5, a6, a7, a8⟩ | ⟨a1, m, a2, a3, a4, a5, a6, a7, a8⟩
    · exact Or.inl h
    · exact Or.inr (Or.inl h)
    · exact Or.inr (Or.inr (Or.inl h))
    · obtain ⟨c1, c2, c3, c4⟩ := hG _ a6
      exact Or.inr (Or.inr (Or.inr (Or.inl ⟨a1, a2, a3, a4, a5, hAB _ a6, c1.trans a7, c2.trans a8, fun j hj => (c4 j).trans (a9 j hj)⟩)))
    · exact Or.inr (Or.inr (Or.inr (Or.inr (Or.inl ⟨a1, a2, a3, a4, ih a5⟩))))
    · exact Or.inr (Or.inr (Or.inr (Or.inr (Or.inr (Or.inl ⟨a1, m, a2, a3, a4, a5, a6, ih a7, ih a8⟩)))))
    · exact Or.inr (Or.inr (Or.inr (Or.inr (Or.inr (Or.inr (Or.inl ⟨a1, m, a2, a3, a4, a5, a6, a7, ih a8⟩))))))
    · exact Or.inr (Or.inr (Or.inr (Or.inr (Or.inr (Or.inr (Or.inr ⟨a1, m, a2, a3, a4, a5, a6, ih a7, ih a8⟩))))))
/-- cells from b on, up to c -/
def fe_I (b c : Nat) : Nat → Prop := fun a => b ≤ a ∧ a < c
/-- how a reading of an expression from p ends: at q, or with a fault at e; 2 cells a character -/
def rd_X (rd : Nat) (w : Nat → Nat) (p : Nat) (pr : Bool) (G : mj_G) : Nat ⊕ Nat → Nat → mj_G → Prop
  | .inl q, r, G' => fe_F rd G G' ∧ rd_O G' rd q ∧ (∃ k, tx_E k (fe_I (mj_n G) (mj_n G')) G' r w p q pr) ∧ mj_n G' + 2 * p + 1 ≤ mj_n G + 2 * q ∧ mj_u G' + 11 * mj_n G + p ≤ mj_u G + 11 * mj_n G' + q
  | .inr e, _, G' => fe_F rd G G' ∧ mj_i G' rd 5 = nI e ∧ mj_n G' + 2 * p ≤ mj_n G + 2 * e + 1 ∧ mj_u G' + 11 * mj_n G + p ≤ mj_u G + 11 * mj_n G' + e
def rd_q : Nat ⊕ Nat → Nat
  | .inl q => q
  | .inr e => e
/-- what an end may be -/
def rd_ok (n p : Nat) (res : Nat ⊕ Nat) : Prop := match res with
  | .inl q => p < q ∧ q ≤ n
  | .inr e => p ≤ e ∧ e ≤ n
