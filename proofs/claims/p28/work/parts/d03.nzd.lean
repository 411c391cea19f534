/-! BODIES THAT TOUCH NO FRAGMENT -/
/-- a tag that holds no include and no fragment -/
def TZ (u : wo) (Z : Nat → Prop) (r : Nat) : Prop := ∀ c, c < 200 → mj_i (u_G u) r 0 = nI c → c ≠ 64 ∧ c ≠ 107 ∧ (c = 63 ∨ c = 43 ∨ c = 42 → Z (mj_r (u_G u) r 8) ∧ Z (mj_r (u_G u) r 9)) ∧ (c = 38 → Z (mj_r (u_G u) r 8))
/-- a set of bodies that hold no include and no fragment, with all that they may open -/
def CZ (u : wo) (Z : Nat → Prop) : Prop := (∀ r, Z r → r ≠ 0 → TZ u Z r ∧ Z (mj_r (u_G u) r 10)) ∧ (∀ g T y, g < 10 → T < 10 → u_qb u g T = some y → Z (mj_r (u_G u) y.2 8)) ∧ ∀ g T y, g < 10 → T < 10 → u_qm u g T = some y → Z (mj_r (u_G u) y.2 8)
def XZ (Z : Nat → Prop) (lc : Nat) (ln : Nat → Nat) (ch : List en) : Prop := (∀ j, j < lc → ln j < 10) ∧ ∀ y, y ∈ ch → Z (en_r y) ∧ ∀ j, j < en_n y → en_c y j < 10
def NJ (u : wo) (Z : Nat → Prop) (j : sj) : Prop := (j.1 = 0 → Z j.2.1) ∧ (j.1 = 1 → TZ u Z j.2.1) ∧ (2 ≤ j.1 → Z (mj_r (u_G u) j.2.1 8))
/-- two ways of the same: the same outcome; no fragment touched; told alike where they were -/
def cq (s s1 s' s1' : sS) (e e' : Int32) : Prop := e = e' ∧ (e = nI 0 → s1.1 = s1'.1 ∧ s1.2.1 = s1'.2.1) ∧ s1.2.2.2.2.2 = s.2.2.2.2.2 ∧ s1'.2.2.2.2.2 = s'.2.2.2.2.2 ∧ pw2 s.2.2.1 s.2.2.2.1 s'.2.2.1 s'.2.2.2.1 s1.2.2.1 s1.2.2.2.1 s1'.2.2.1 s1'.2.2.2.1 ∧ ∀ k, s.2.2.2.2.1 k = s'.2.2.2.2.1 k → s1.2.2.2.2.1 k = s1'.2.2.2.2.1 k
section D03
variable {u : wo} {Z : Nat → Prop} {N : Nat} {B : Nat → Nat} {M : Nat} {S : Nat → Nat} {V V1 : Nat → Nat → Option rv} {r lc op r8 xx lc' : Nat} {ra rd ra1 rd1 : Nat → Int32} {sp sp1 : Nat → Bool} {e e1 e' : Int32} {ln ln' : Nat → Nat} {ch ch' : List en} {s s1 s2 s' s1' s2' : sS}
theorem cq_t (h : cq s s1 s' s1' e1 e1) (h2 : cq s1 s2 s1' s2' e e') : cq s s2 s' s2' e e' := by
  obtain ⟨-, -, a3, a4, a5, a6⟩ := h
  obtain ⟨b1, b2, b3, b4, b5, b6⟩ := h2
  exact ⟨b1, b2, b3.trans a3, b4.trans a4, pw2_t a5 b5, fun k q => b6 k (a6 k q)⟩
theorem l_nd_s {q : Nat → Option (Nat × Nat)} {c : Nat → Nat} {n k : Nat} (h : l_fb q c (n - k) k < n) : ∃ y, q (c (l_fb q c (n - k) k)) = some y ∧ l_nd q c n k = y.2 := by
  obtain ⟨y, hy⟩ := l_fb_s (q := q) (c := c) (m := n - k) (k := k) (by have := l_fb_le (q := q) (c := c) (m := n - k) (k := k); omega)
  refine ⟨y, hy, ?_⟩
  unfold l_nd
  rw [if_pos h, hy]
  rfl
theorem BK_g {g k0 : Nat} (h : BK u r lc ln g k0) : g < 10 := by
  rcases h with ⟨T, p, -, -, h, -⟩ | ⟨T, p, j, -, -, -, h, -⟩ <;> exact h
theorem OO_Z (hZ : CZ u Z) (hr : TZ u Z r) (hX : XZ Z lc ln ch) (h : OO u r N B M S lc ln op ch V ra rd sp r8 xx lc' ln' ch' V1 ra1 rd1 sp1) : Z r8 ∧ XZ Z lc' ln' ch' := by
  obtain ⟨h1, h2, h3⟩ := hZ
  rcases h.2 with ⟨g, k0, a1, a2, rfl, -, rfl, rfl, rfl, -⟩ | ⟨T, p, tg, a1, -⟩ | ⟨T, p, y, L, a1, rfl, rfl, -, rfl, rfl, rfl, -⟩ | ⟨c, rm, m2, T2, x, a, g', a1, rfl, -, rfl, rfl, rfl, -⟩
  · obtain ⟨y, hy, e⟩ := l_nd_s a2
    rw [e]
    exact ⟨h2 g _ y (BK_g a1) (hX.1 _ a2) hy, hX⟩
  · exact absurd rfl (hr 64 (by decide) a1.2.2.2.2.2).1
  · exact ⟨(hX.2 y (List.mem_cons_self ..)).1, (hX.2 y (List.mem_cons_self ..)).2, fun z hz => hX.2 z (List.mem_cons_of_mem _ hz)⟩
  · obtain ⟨hc, hk⟩ := CLL_kd a1
    obtain ⟨⟨-, -, gg, tg, me, g1, g2, g3, g4, g5, -⟩, -⟩ := a1
    refine ⟨h3 gg T2 (tg, rm) g1 (by rw [g4]; exact hX.1 _ g3) g5, hX.1, fun y hy => ?_⟩
    rcases hc with rfl | rfl
    · exact nomatch hy
    · rcases List.mem_cons.mp hy with rfl | hy
      · exact ⟨(hr 38 (by decide) hk).2.2.2 rfl, hX.1⟩
      · exact hX.2 y hy
end D03
