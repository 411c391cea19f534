/-! BODIES: what they are as trees over the text -/
/-- the first tag of a kind with a digit among tags by their places and nodes -/
def tl_fd (w : Nat → Nat) (c d : Nat) : List (Nat × Nat) → Nat
  | [] => 0
  | x :: L => if w (x.1 + 1) = c ∧ w (x.1 + 2) = 48 + d then x.2 else tl_fd w c d L
theorem tl_fd_app {w : Nat → Nat} {c d : Nat} : ∀ {L M : List (Nat × Nat)}, (∀ x, x ∈ L → x.2 ≠ 0) → tl_fd w c d (L ++ M) = if tl_fd w c d L = 0 then tl_fd w c d M else tl_fd w c d L
  | [], M, _ => (if_pos rfl).symm
  | x :: L, M, h => by
    show (if w (x.1 + 1) = c ∧ w (x.1 + 2) = 48 + d then x.2 else tl_fd w c d (L ++ M)) = if (if w (x.1 + 1) = c ∧ w (x.1 + 2) = 48 + d then x.2 else tl_fd w c d L) = 0 then _ else (if w (x.1 + 1) = c ∧ w (x.1 + 2) = 48 + d then x.2 else tl_fd w c d L)
    by_cases hc : w (x.1 + 1) = c ∧ w (x.1 + 2) = 48 + d
    · rw [if_pos hc, if_pos hc, if_neg (h x (List.mem_cons_self ..))]
    · rw [if_neg hc, if_neg hc]
      exact tl_fd_app (fun y hy => h y (List.mem_cons_of_mem _ hy))
/-- whether some tag sets a letter -/
def tl_st (w : Nat → Nat) (i : Nat) (L : List (Nat × Nat)) : Prop := ∃ x, x ∈ L ∧ w (x.1 + 1) = 37 ∧ w (x.1 + 2) = 97 + i
theorem tl_st_app {w : Nat → Nat} {i : Nat} {L M : List (Nat × Nat)} : tl_st w i (L ++ M) ↔ tl_st w i L ∨ tl_st w i M := by
  unfold tl_st
  constructor
  · rintro ⟨x, h, h1⟩
    rcases List.mem_append.mp h with h | h
    · exact Or.inl ⟨x, h, h1⟩
    · exact Or.inr ⟨x, h, h1⟩
  · rintro (⟨x, h, h1⟩ | ⟨x, h, h1⟩)
    · exact ⟨x, List.mem_append.mpr (Or.inl h), h1⟩
    · exact ⟨x, List.mem_append.mpr (Or.inr h), h1⟩
/-- the head of a tag: node r at p, up to the } at e; b is the block around it -/
def tb_h (A : Nat → Prop) (G : mj_G) (r : Nat) (b : Int32) (w : Nat → Nat) (p e : Nat) : Prop :=
  ((w (p + 1) = 61 ∨ w (p + 1) = 63) ∧ (∃ l, tx_E l A G (mj_r G r 6) w (p + 2) e false) ∧ mj_i G r 3 = Int32.ofInt (-1) ∧ mj_i G r 4 = Int32.ofInt (-1) ∧ mj_r G r 7 = 0) ∨
  ((w (p + 1) = 42 ∨ w (p + 1) = 37) ∧ tx_L (w (p + 2)) ∧ (∃ l, tx_E l A G (mj_r G r 6) w (p + 3) e false) ∧ mj_i G r 3 = Int32.ofInt (-1) ∧ mj_i G r 4 = nI (w (p + 2) - 97) ∧ mj_r G r 7 = 0) ∨
  (w (p + 1) = 116 ∧ tx_D (w (p + 2)) ∧ (∃ l, tx_E l A G (mj_r G r 6) w (p + 3) e false) ∧ mj_i G r 3 = nI (w (p + 2) - 48) ∧ mj_i G r 4 = Int32.ofInt (-1) ∧ mj_r G r 7 = 0) ∨
  ((w (p + 1) = 35 ∨ w (p + 1) = 107 ∨ w (p + 1) = 64) ∧ tx_D (w (p + 2)) ∧ e = p + 3 ∧ mj_i G r 3 = nI (w (p + 2) - 48) ∧ mj_i G r 4 = Int32.ofInt (-1) ∧ mj_r G r 6 = 0 ∧ mj_r G r 7 = 0) ∨
  ((w (p + 1) = 43 ∨ w (p + 1) = 126 ∨ w (p + 1) = 45) ∧ e = p + 2 ∧ mj_i G r 3 = Int32.ofInt (-1) ∧ mj_i G r 4 = Int32.ofInt (-1) ∧ mj_r G r 6 = 0 ∧ mj_r G r 7 = 0) ∨
  (w (p + 1) = 94 ∧ e = p + 2 ∧ mj_i G r 3 = b ∧ mj_i G r 4 = Int32.ofInt (-1) ∧ mj_r G r 6 = 0 ∧ mj_r G r 7 = 0) ∨
  (w (p + 1) = 36 ∧ tx_D (w (p + 2)) ∧ tx_P 3 A G (mj_r G r 7) w (p + 3) e (fun _ => False) ∧ mj_i G r 3 = nI (w (p + 2) - 48) ∧ mj_i G r 4 = Int32.ofInt (-1) ∧ mj_r G r 6 = 0) ∨
  ((w (p + 1) = 33 ∨ w (p + 1) = 38) ∧ tx_D (w (p + 2)) ∧ ((e = p + 3 ∧ mj_r G r 7 = 0) ∨ (¬ w (p + 3) = 125 ∧ tx_A 3 A G (mj_r G r 7) w (p + 3) e)) ∧ mj_i G r 3 = nI (w (p + 2) - 48) ∧ mj_i G r 4 = Int32.ofInt (-1) ∧ mj_r G r 6 = 0)
/-- r is the first node of the body from p to q, in cells of A; L: its tags, with their nodes -/
def tb_B : Nat → (Nat → Prop) → mj_G → Int32 → Int32 → Nat → (Nat → Nat) → Nat → Nat → List (Nat × Nat) → Prop
  | 0, _, _, _, _, _, _, _, _, _ => False
  | k + 1, A, G, hm, b, r, w, p, q, L => (r = 0 ∧ p = q ∧ L = []) ∨
    (A r ∧ r ≠ 0 ∧ mj_k G r = 6 ∧ mj_i G r 1 = hm ∧ mj_i G r 2 = nI p ∧ w p ≠ 123 ∧ w p ≠ 125 ∧ w p ≠ 0 ∧ mj_i G r 0 = nI 1 ∧ mj_i G r 5 = nI (w p) ∧ tb_B k A G hm b (mj_r G r 10) w (p + 1) q L) ∨
    (A r ∧ r ≠ 0 ∧ mj_k G r = 6 ∧ mj_i G r 1 = hm ∧ mj_i G r 2 = nI p ∧ w p = 123 ∧ tx_T (w (p + 1)) ∧ mj_i G r 0 = nI (w (p + 1)) ∧ ∃ e m L1 L2, p + 2 ≤ e ∧ tb_h A G r b w p e ∧ w e = 125 ∧ L = (p, r) :: (L1 ++ L2) ∧ tb_B k A G hm b (mj_r G r 10) w m q L2 ∧
      ((¬ tx_B (w (p + 1)) ∧ m = e + 1 ∧ L1 = [] ∧ mj_r G r 8 = 0 ∧ mj_r G r 9 = 0) ∨
       (tx_B (w (p + 1)) ∧ ¬ w (p + 1) = 43 ∧ mj_r G r 9 = 0 ∧ ∃ q1, tb_B k A G hm (if w (p + 1) = 35 then mj_i G r 3 else b) (mj_r G r 8) w (e + 1) q1 L1 ∧ w q1 = 123 ∧ w (q1 + 1) = 59 ∧ w (q1 + 2) = 125 ∧ m = q1 + 3) ∨
       ((w (p + 1) = 63 ∨ w (p + 1) = 42 ∨ w (p + 1) = 43) ∧ ∃ q1 q2 La Lb, tb_B k A G hm b (mj_r G r 8) w (e + 1) q1 La ∧ w q1 = 123 ∧ w (q1 + 1) = 58 ∧ w (q1 + 2) = 125 ∧ tb_B k A G hm b (mj_r G r 9) w (q1 + 3) q2 Lb ∧ w q2 = 123 ∧ w (q2 + 1) = 59 ∧ w (q2 + 2) = 125 ∧ m = q2 + 3 ∧ L1 = La ++ Lb)))
theorem tb_h_mono {A B : Nat → Prop} {G G' : mj_G} {r : Nat} {b : Int32} (w : Nat → Nat) {p e : Nat} (hAB : ∀ a, A a → B a) (hG : ∀ a, A a → mj_k G' a = mj_k G a ∧ mj_l G' a = mj_l G a ∧ (∀ j, mj_r G' a j = mj_r G a j) ∧ ∀ j, mj_i G' a j = mj_i G a j)
    (h6 : mj_r G' r 6 = mj_r G r 6) (h7 : mj_r G' r 7 = mj_r G r 7) (h3 : mj_i G' r 3 = mj_i G r 3) (h4 : mj_i G' r 4 = mj_i G r 4) (h : tb_h A G r b w p e) : tb_h B G' r b w p e := by
  unfold tb_h at h ⊢
  rw [h6, h7, h3, h4]
  have hE : ∀ {r s m pr}, (∃ l, tx_E l A G r w s m pr) → ∃ l, tx_E l B G' r w s m pr := fun ⟨l, h⟩ => ⟨l, tx_E_mono w hAB hG (Nat.le_refl _) h⟩
  rcases h with ⟨a, c, d⟩ | ⟨a, b, c, d⟩ | ⟨a, b, c, d⟩ | h | h | h | ⟨a, b, c, d⟩ | ⟨a, b, c, d⟩
  · exact Or.inl ⟨a, hE c, d⟩
  · exact Or.inr (Or.inl ⟨a, b, hE c, d⟩)
  · exact Or.inr (Or.inr (Or.inl ⟨a, b, hE c, d⟩))
  · exact Or.inr (Or.inr (Or.inr (Or.inl h)))
  · exact Or.inr (Or.inr (Or.inr (Or.inr (Or.inl h))))
  · exact Or.inr (Or.inr (Or.inr (Or.inr (Or.inr (Or.inl h)))))
  · exact Or.inr (Or.inr (Or.inr (Or.inr (Or.inr (Or.inr (Or.inl ⟨a, b, tx_P_mono w hAB hG c, d⟩))))))
  · refine Or.inr (Or.inr (Or.inr (Or.inr (Or.inr (Or.inr (Or.inr ⟨a, b, ?_, d⟩))))))
    rcases c with c | ⟨c1, c2⟩
    · exact Or.inl c
    · exact Or.inr ⟨c1, tx_A_mono w hAB hG c2⟩
theorem tb_mono {A B : Nat → Prop} {G G' : mj_G} (w : Nat → Nat) {hm : Int32} (hAB : ∀ a, A a → B a) (hG : ∀ a, A a → mj_k G' a = mj_k G a ∧ mj_l G' a = mj_l G a ∧ (∀ j, mj_r G' a j = mj_r G a j) ∧ ∀ j, mj_i G' a j = mj_i G a j) :
    ∀ {k l b r p q L}, k ≤ l → tb_B k A G hm b r w p q L → tb_B l B G' hm b r w p q L
  | 0, _, _, _, _, _, _, _, h => h.elim
  | k + 1, 0, _, _, _, _, _, hl, _ => absurd hl (by omega)
  | k + 1, l + 1, b, r, p, q, L, hl, h => by
    have ih : ∀ {b r p q L}, tb_B k A G hm b r w p q L → tb_B l B G' hm b r w p q L := fun h => tb_mono w hAB hG (by omega) h
    rcases h with h | ⟨h1, h2, h3, h4, h5, h6, h7, h7', h8, h9, h10⟩ | ⟨h1, h2, h3, h4, h5, h6, h7, h8, e, m, L1, L2, h9, h10, h11, h12, h13, h14⟩
    · exact Or.inl h
    · obtain ⟨g1, g2, g3, g4⟩ := hG r h1
      refine Or.inr (Or.inl ⟨hAB r h1, h2, g1.trans h3, (g4 1).trans h4, (g4 2).trans h5, h6, h7, h7', (g4 0).trans h8, (g4 5).trans h9, ?_⟩)
      rw [g3]
      exact ih h10
    · obtain ⟨g1, g2, g3, g4⟩ := hG r h1
      refine Or.inr (Or.inr ⟨hAB r h1, h2, g1.trans h3, (g4 1).trans h4, (g4 2).trans h5, h6, h7, (g4 0).trans h8, e, m, L1, L2, h9, tb_h_mono w hAB hG (g3 6) (g3 7) (g4 3) (g4 4) h10, h11, h12, ?_, ?_⟩)
      · rw [g3]
        exact ih h13
      · rw [g3, g3, g4]
        rcases h14 with h | ⟨a1, a2, a3, q1, a4, a5⟩ | ⟨a1, q1, q2, La, Lb, a2, a3, a4, a5, a6, a7⟩
        · exact Or.inl h
        · exact Or.inr (Or.inl ⟨a1, a2, a3, q1, ih a4, a5⟩)
        · exact Or.inr (Or.inr ⟨a1, q1, q2, La, Lb, ih a2, a3, a4, a5, ih a6, a7⟩)
theorem tb_nz {A : Nat → Prop} {G : mj_G} {hm : Int32} {w : Nat → Nat} : ∀ {k b r p q L}, tb_B k A G hm b r w p q L → ∀ x, x ∈ L → x.2 ≠ 0
  | 0, _, _, _, _, _, h => h.elim
  | k + 1, b, r, p, q, L, h => by
    rcases h with ⟨-, -, rfl⟩ | ⟨-, -, -, -, -, -, -, -, -, -, h⟩ | ⟨-, h2, -, -, -, -, -, -, e, m, L1, L2, -, -, -, rfl, h13, h14⟩
    · exact fun x hx => nomatch hx
    · exact tb_nz h
    · have n1 : ∀ x, x ∈ L1 → x.2 ≠ 0 := by
        rcases h14 with ⟨-, -, rfl, -⟩ | ⟨-, -, -, q1, a4, -⟩ | ⟨-, q1, q2, La, Lb, a2, -, -, -, a6, -, -, -, -, rfl⟩
        · exact fun x hx => nomatch hx
        · exact tb_nz a4
        · intro x hx
          rcases List.mem_append.mp hx with hx | hx
          · exact tb_nz a2 x hx
          · exact tb_nz a6 x hx
      intro x hx
      rcases List.mem_cons.mp hx with rfl | hx
      · exact h2
      · rcases List.mem_append.mp hx with hx | hx
        · exact n1 x hx
        · exact tb_nz h13 x hx
/-! frames of the reading of bodies -/
def rb_F (rd T B M x y : Nat) (G G' : mj_G) : Prop := mj_n G ≤ mj_n G' ∧ ∀ a, a < mj_n G → mj_k G' a = mj_k G a ∧ mj_l G' a = mj_l G a ∧ (∀ j, ¬ (a = x ∧ j = y) → a ≠ B → a ≠ M → mj_r G' a j = mj_r G a j) ∧ ∀ j, ¬ (a = rd ∧ 4 ≤ j) → a ≠ T → mj_i G' a j = mj_i G a j
section RB
variable {rd T B M x y x0 y0 k v : Nat} {z : Int32} {G G0 G1 G' : mj_G}
theorem rb_of_fx (h : fx_F rd x y G G') : rb_F rd T B M x y G G' := ⟨h.1, fun a ha => by
  obtain ⟨a1, a2, a3, a4, -⟩ := h.2 a ha
  exact ⟨a1, a2, fun j hj _ _ => a3 j hj, fun j hj _ => a4 j hj⟩⟩
theorem rb_of_fe (h : fe_F rd G G') : rb_F rd T B M x y G G' := rb_of_fx (fx_of h)
theorem rb_rfl : rb_F rd T B M x y G G := rb_of_fe fe_rfl
theorem rb_trans (h1 : rb_F rd T B M x y G G1) (h2 : rb_F rd T B M x y G1 G') : rb_F rd T B M x y G G' := by
  refine ⟨Nat.le_trans h1.1 h2.1, fun a ha => ?_⟩
  obtain ⟨a1, a2, a3, a4⟩ := h1.2 a ha
  obtain ⟨b1, b2, b3, b4⟩ := h2.2 a (Nat.lt_of_lt_of_le ha h1.1)
  exact ⟨b1.trans a1, b2.trans a2, fun j h h' h'' => (b3 j h h' h'').trans (a3 j h h' h''), fun j h h' => (b4 j h h').trans (a4 j h h')⟩
theorem rb_new (h0 : rb_F rd T B M x0 y0 G0 G) (h : rb_F rd T B M x y G G') (hx : mj_n G0 ≤ x) : rb_F rd T B M x0 y0 G0 G' := by
  refine ⟨Nat.le_trans h0.1 h.1, fun a ha => ?_⟩
  obtain ⟨a1, a2, a3, a4⟩ := h0.2 a ha
  obtain ⟨b1, b2, b3, b4⟩ := h.2 a (Nat.lt_of_lt_of_le ha h0.1)
  exact ⟨b1.trans a1, b2.trans a2, fun j h h' h'' => (b3 j (fun q => by have := q.1; omega) h' h'').trans (a3 j h h' h''), fun j h h' => (b4 j h h').trans (a4 j h h')⟩
theorem rb_set : rb_F rd T B M x y G (mj_pR G x y v) := ⟨Nat.le_refl _, fun a _ => ⟨rfl, rfl, fun j hj _ _ => if_neg (fun q => hj q), fun _ _ _ => rfl⟩⟩
theorem rb_T : rb_F rd T B M x y G (mj_pI G T k z) := ⟨Nat.le_refl _, fun a _ => ⟨rfl, rfl, fun _ _ _ _ => rfl, fun _ _ h => if_neg (fun q => h q.1)⟩⟩
theorem rb_B : rb_F rd T B M x y G (mj_pR G B k v) := ⟨Nat.le_refl _, fun a _ => ⟨rfl, rfl, fun j _ h _ => if_neg (fun q => h q.1), fun _ _ _ => rfl⟩⟩
theorem rb_M : rb_F rd T B M x y G (mj_pR G M k v) := ⟨Nat.le_refl _, fun a _ => ⟨rfl, rfl, fun j _ _ h => if_neg (fun q => h q.1), fun _ _ _ => rfl⟩⟩
theorem rb_rd (hk : 4 ≤ k) : rb_F rd T B M x y G (mj_pI G rd k z) := rb_of_fe (fe_pI hk)
end RB
/-- the reader with its template's cells -/
def rx_C (G : mj_G) (rd : Nat) (w : Nat → Nat) (n T B M : Nat) (hm : Int32) : Prop := rd_R G rd w n ∧ mj_r G rd 3 = T ∧ mj_i G rd 2 = hm ∧ mj_k G T = 11 ∧ mj_r G T 4 = B ∧ mj_r G T 5 = M ∧ mj_k G B = 35 ∧ mj_k G M = 35 ∧ mj_l G B = 10 ∧ mj_l G M = 10 ∧ B ≠ M ∧ 1768 ≤ T ∧ 1768 ≤ B ∧ 1768 ≤ M ∧ T < mj_n G ∧ B < mj_n G ∧ M < mj_n G
theorem z_kne {G : mj_G} {a b i j : Nat} (ha : mj_k G a = i) (hb : mj_k G b = j) (h : i ≠ j) : a ≠ b := fun q => h (by rw [← ha, ← hb, q])
theorem rx_K {G G' : mj_G} {rd n T B M x y : Nat} {w : Nat → Nat} {hm : Int32} (hC : rx_C G rd w n T B M hm) (h : rb_F rd T B M x y G G') (h6 : mj_k G x = 6 ∨ mj_n G ≤ x) : rx_C G' rd w n T B M hm := by
  obtain ⟨⟨r1, r2, r3, r4, r5, r6, r7⟩, c1, c2, c3, c4, c5, c6, c7, c8, c9, c10, c11, c12, c13, c14, c15, c16⟩ := hC
  have xr : x ≠ rd := by
    rcases h6 with h6 | h6
    · exact z_kne h6 r2 (by decide)
    · omega
  have xT : x ≠ T := by
    rcases h6 with h6 | h6
    · exact z_kne h6 c3 (by decide)
    · omega
  have rB : rd ≠ B := z_kne r2 c6 (by decide)
  have rM : rd ≠ M := z_kne r2 c7 (by decide)
  have rT : rd ≠ T := z_kne r2 c3 (by decide)
  have TB : T ≠ B := z_kne c3 c6 (by decide)
  have TM : T ≠ M := z_kne c3 c7 (by decide)
  obtain ⟨a1, a2, a3, a4⟩ := h.2 rd r4
  obtain ⟨b1, b2, b3, b4⟩ := h.2 T c14
  obtain ⟨d1, d2, -, -⟩ := h.2 B c15
  obtain ⟨e1, e2, -, -⟩ := h.2 M c16
  obtain ⟨-, -, -, f4⟩ := h.2 4 (by omega)
  have hn := h.1
  have r0 : ∀ j, mj_r G' rd j = mj_r G rd j := fun j => a3 j (fun q => xr q.1.symm) rB rM
  have T0 : ∀ j, mj_r G' T j = mj_r G T j := fun j => b3 j (fun q => xT q.1.symm) TB TM
  refine ⟨⟨r1, a1.trans r2, r3, by omega, (r0 0).trans r5, (a4 1 (fun q => by have := q.2; omega) rT).trans r6, fun k hk => (f4 k (fun q => by have := q.1; omega) (by omega)).trans (r7 k hk)⟩, (r0 3).trans c1, (a4 2 (fun q => by have := q.2; omega) rT).trans c2, b1.trans c3, (T0 4).trans c4, (T0 5).trans c5, d1.trans c6, e1.trans c7, d2.trans c8, e2.trans c9, c10, c11, c12, c13, by omega, by omega, by omega⟩
/-- what the template knows of the tags met so far -/
def tn_S (G : mj_G) (T B M : Nat) (w : Nat → Nat) (L : List (Nat × Nat)) (np : Nat) (pa : Int32) : Prop := mj_i G T 1 = pa ∧ mj_i G T 2 = nI np ∧ (∀ i, i < 26 → (bt (mj_i G T 3) i ↔ tl_st w i L)) ∧ (∀ d, d < 10 → mj_r G B d = tl_fd w 35 d L) ∧ ∀ d, d < 10 → mj_r G M d = tl_fd w 36 d L
theorem tn_K {G G' : mj_G} {T B M np : Nat} {w : Nat → Nat} {L : List (Nat × Nat)} {pa : Int32} (h : tn_S G T B M w L np pa) (hT : ∀ j, mj_i G' T j = mj_i G T j) (hB : ∀ j, mj_r G' B j = mj_r G B j) (hM : ∀ j, mj_r G' M j = mj_r G M j) : tn_S G' T B M w L np pa := by
  obtain ⟨h1, h2, h3, h4, h5⟩ := h
  exact ⟨(hT 1).trans h1, (hT 2).trans h2, fun i hi => by rw [hT]; exact h3 i hi, fun d hd => (hB d).trans (h4 d hd), fun d hd => (hM d).trans (h5 d hd)⟩
theorem tn_fx {G G' : mj_G} {rd n T B M x y np : Nat} {w : Nat → Nat} {hm : Int32} {L : List (Nat × Nat)} {pa : Int32} (hC : rx_C G rd w n T B M hm) (h : tn_S G T B M w L np pa) (hF : fx_F rd x y G G') (h6 : mj_k G x = 6 ∨ mj_n G ≤ x) : tn_S G' T B M w L np pa := by
  obtain ⟨⟨r1, r2, r3, r4, r5, r6, r7⟩, c1, c2, c3, c4, c5, c6, c7, c8, c9, c10, c11, c12, c13, c14, c15, c16⟩ := hC
  have rT : rd ≠ T := z_kne r2 c3 (by decide)
  have xB : x ≠ B := by
    rcases h6 with h6 | h6
    · exact z_kne h6 c6 (by decide)
    · omega
  have xM : x ≠ M := by
    rcases h6 with h6 | h6
    · exact z_kne h6 c7 (by decide)
    · omega
  obtain ⟨-, -, -, b4, -⟩ := hF.2 T c14
  obtain ⟨-, -, d3, -, -⟩ := hF.2 B c15
  obtain ⟨-, -, e3, -, -⟩ := hF.2 M c16
  exact tn_K h (fun j => b4 j (fun q => rT q.1.symm)) (fun j => d3 j (fun q => xB q.1.symm)) (fun j => e3 j (fun q => xM q.1.symm))
