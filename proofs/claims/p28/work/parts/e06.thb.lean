/-! WHERE A TEMPLATE MAY END: every run ends in the set the class finds -/
/-- a run that fails not goes from a context of S to one of S' -/
def xr (u : wo) (ch S S' : Int32) (j : sj) : Prop := ∀ (n N : Nat) (B : Nat → Nat) (M : Nat) (Sm : Nat → Nat) (lc : Nat) (ln : Nat → Nat) (op : Nat) (cn : List en) (V : Nat → Nat → Option rv) (o : ost) (ra rd : Nat → Int32) (sp : Nat → Bool) (FG : Nat → kfr) (s1 : sS), 1 ≤ N → (∀ s, B s ≤ s) → VI u ch N V → OX o → bt S (cx o) → SBk u n j (N, B, M, Sm, lc, ln, op, cn) (V, o, ra, rd, sp, FG) (nI 0) s1 → bt S' (cx s1.2.1) ∧ VI u ch N s1.1
/-- some context -/
def ne8 (S : Int32) : Prop := ∃ a, a < 8 ∧ bt S a
def xb (u : wo) (G : mj_G) (ch : Int32) (r p q : Nat) : Prop := ∀ (S : Int32) (dep : Nat), s8 S → dep ≤ p → ∃ S', s8 S' ∧ (∀ d K, 3 * (q - p) + 60 ≤ d → K S' G → Fo_through_16 d ch (nI dep) S r G K) ∧ xr u ch S S' (jbd r) ∧ (ne8 S → ne8 S')
section E06
variable {u : wo} {G : mj_G} {ch : Int32}
theorem ne8_or {S S' : Int32} (h : ne8 S ∨ ne8 S') : ne8 (S ||| S') := by
  rcases h with ⟨a, h1, h2⟩ | ⟨a, h1, h2⟩
  · exact ⟨a, h1, by rw [bt_or2]; exact Or.inl h2⟩
  · exact ⟨a, h1, by rw [bt_or2]; exact Or.inr h2⟩
theorem xr_nil {S : Int32} : xr u ch S S (jbd 0) := fun n N B M Sm lc ln op cn V o ra rd sp FG s1 hN hB hV hO hS h => by
  cases n with
  | zero => exact h.elim
  | succ n =>
    rcases h with ⟨-, -, rfl⟩ | ⟨a, -⟩
    · exact ⟨hS, hV⟩
    · exact absurd rfl a
theorem xr_cons {r : Nat} {S S1 S' : Int32} (h1 : xr u ch S S1 (jtg r)) (h2 : xr u ch S1 S' (jbd (mj_r (u_G u) r 10))) (hr : r ≠ 0) : xr u ch S S' (jbd r) := fun n N B M Sm lc ln op cn V o ra rd sp FG s1 hN hB hV hO hS h => by
  cases n with
  | zero => exact h.elim
  | succ n =>
    rcases h with ⟨a, -⟩ | ⟨-, e1, s2, a1, a2⟩
    · exact absurd a hr
    · rcases a2 with ⟨b1, b2, -⟩ | ⟨rfl, b2⟩
      · exact absurd b2.symm b1
      · obtain ⟨V2, o2, ra2, rd2, sp2, FG2⟩ := s2
        obtain ⟨c1, c2⟩ := h1 n N B M Sm lc ln op cn V o ra rd sp FG _ hN hB hV hO hS a1
        exact h2 n N B M Sm lc ln op cn V2 o2 ra2 rd2 sp2 FG2 s1 hN hB c2 (SBk_O a1 hO) c1 b2
theorem xr_sub {S0 S S' S2 : Int32} {j : sj} (h : xr u ch S S' j) (h1 : ∀ a, bt S0 a → bt S a) (h2 : ∀ a, bt S' a → bt S2 a) : xr u ch S0 S2 j := fun n N B M Sm lc ln op cn V o ra rd sp FG s1 hN hB hV hO hS q => by
  obtain ⟨c1, c2⟩ := h n N B M Sm lc ln op cn V o ra rd sp FG s1 hN hB hV hO (h1 _ hS) q
  exact ⟨h2 _ c1, c2⟩
theorem xs_thr {r p q : Nat} (hS : cs_S G) (hp : p ≤ 80) (h : xb u G ch r p q) (S : Int32) (dep : Nat) (hs : s8 S) (hd : dep ≤ p) : ∃ S', s8 S' ∧ (∀ d K, 3 * (q - p) + 61 ≤ d → K S' G → Fo_through d r S ch (nI dep) G K) ∧ xr u ch S S' (jbd r) ∧ (ne8 S → ne8 S') := by
  obtain ⟨S', h1, h2, h3⟩ := h S dep hs hd
  refine ⟨S', h1, fun d K hd hK => ?_, h3⟩
  obtain ⟨d, rfl⟩ : ∃ e, d = e + 1 := ⟨d - 1, by omega⟩
  refine w_Fo_through hS (z_bt ?_ (h2 (d + 1) K (by omega) hK))
  rw [z_lt (by omega) (by omega)]
  omega
theorem it_in {D : Nat → rv} {I : Nat → Nat → rv} {v : rv} {j : Nat} (hD : da D I) (hv : rv_in D v) (h3 : rv_t v = 3) (hj : j < rv_l v) : rv_in D (I (rv_d v) j) ∧ tme (I (rv_d v) j) := by
  obtain ⟨d1, d2⟩ := hv.2 h3
  obtain ⟨-, d3⟩ := hv.1.2.2.2.2 h3
  obtain ⟨-, g⟩ := hD (rv_d v) d3
  obtain ⟨-, g2⟩ := g d1
  obtain ⟨g1, g3⟩ := g2 j (by omega)
  rcases g3 with g3 | ⟨g4, g3, -⟩
  · exact ⟨⟨g1, fun t => absurd (g3.symm.trans t) (by decide)⟩, fun t => absurd (g3.symm.trans t) (by decide)⟩
  · exact ⟨⟨g1, fun t => absurd (g4.symm.trans t) (by decide)⟩, tme_f g3⟩
/-- the rounds of a loop, within a set that a round does not leave -/
theorem xs_rounds {r : Nat} {A L : Int32} (hD : da (u_D u) (u_I u)) (hb : xr u ch A L (jbd (mj_r (u_G u) r 8))) (hL : ∀ a, bt L a → bt A a) : ∀ {n j N : Nat} {B : Nat → Nat} {M : Nat} {Sm : Nat → Nat} {lc : Nat} {ln : Nat → Nat} {op : Nat} {cn : List en} {V : Nat → Nat → Option rv} {o : ost} {ra rd : Nat → Int32} {sp : Nat → Bool} {FG : Nat → kfr} {s1 : sS} {v : rv}, 1 ≤ N → (∀ s, B s ≤ s) → VI u ch N V → OX o → bt A (cx o) → rv_in (u_D u) v → rv_t v = 3 → SBk u n (jlp r j v) (N, B, M, Sm, lc, ln, op, cn) (V, o, ra, rd, sp, FG) (nI 0) s1 → s1.1 = V ∧ ((j = rv_l v ∧ s1.2.1 = o) ∨ bt L (cx s1.2.1))
  | 0, _, _, _, _, _, _, _, _, _, _, _, _, _, _, _, _, _, _, _, _, _, _, _, _, h => h.elim
  | n + 1, j, N, B, M, Sm, lc, ln, op, cn, V, o, ra, rd, sp, FG, s1, v, hN, hB, hV, hO, hA, hv, h3, h => by
    rcases h with ⟨a1 | a1, rfl⟩ | ⟨a0, l, e1, V1, o1, ra1, rd1, sp1, FG1, a1, a2, a3, a4⟩
    · exact ⟨rfl, Or.inl ⟨a1.1, rfl⟩⟩
    · exact absurd a1 (by decide)
    · rcases a4 with ⟨b1, b2, -⟩ | ⟨rfl, b2⟩
      · exact absurd b2.symm b1
      · obtain ⟨t1, t2⟩ := it_in hD hv h3 a0
        have hV2 : VI u ch (N + 1) (e_st V N l (u_I u (rv_d v) j)) := VI_st (N := N + 1) (VI_up hV) (Nat.le_add_left 1 N) t1 (Or.inr t2)
        obtain ⟨c1, -⟩ := hb n (N + 1) _ _ _ _ _ _ _ _ _ _ _ _ _ _ (Nat.le_add_left 1 N) (bh_le hB) hV2 hO hA a3
        obtain ⟨d1, d2⟩ := xs_rounds hD hb hL hN hB hV (SBk_O a3 hO) (hL _ c1) hv h3 b2
        refine ⟨d1, Or.inr ?_⟩
        rcases d2 with ⟨-, d2⟩ | d2
        · rw [d2]
          exact c1
        · exact d2
end E06
