/-! THE MODEL'S PICTURE WHILE RENDERING -/
/-- what rendering writes -/
def rS (j : Nat) : Prop := j = 21 ∨ j = 22 ∨ j = 23 ∨ j = 26 ∨ j = 27 ∨ j = 30 ∨ j = 33 ∨ j = 34 ∨ j = 41 ∨ j = 42 ∨ j = 43 ∨ j = 44 ∨ j = 61 ∨ j = 62 ∨ j = 66 ∨ j = 68 ∨ j = 69 ∨ j = 70
def rR (a : Nat) : Prop := (1733 ≤ a ∧ a ≤ 1760) ∨ a = 1762 ∨ a = 1766
def al (_ : Nat) : Prop := True
/-- what outer bodies rely on -/
def mF (tr LC CA : Nat) (f f' : mm_F) : Prop := mw al rS rR f f' ∧ (∀ j, j < 300 * tr → f' 1762 j = f 1762 j) ∧ (∀ i, i < LC → f' 1738 i = f 1738 i) ∧ (∀ j, j < 10 * LC → f' 1737 j = f 1737 j) ∧ ∀ a, 1739 ≤ a → a ≤ 1744 → ∀ i, i < CA → f' a i = f a i
/-- the calls whose bodies may be met -/
def chM (f : mm_F) : List en → Nat → Nat → Int32 → Prop
  | [], m, _, z => z = Int32.ofInt (-1) ∨ ∃ j, j < m ∧ z = nI j ∧ f 1739 j = Int32.ofInt (-1)
  | e :: L, m, c, z => ∃ j li, j < m ∧ z = nI j ∧ f 1739 j = nI (en_T e) ∧ f 1740 j = nI (en_p e) ∧ f 1741 j = nI (en_q e) ∧ f 1742 j = sh (en_x e) ∧ f 1743 j = nI li ∧ li < c ∧ mL f li (en_n e) (en_c e) ∧ chM f L j c (f 1744 j)
def wM (u : wo) (f : mm_F) : Prop := tL f (u_w u) (u_n u) (u_pa u) ∧ mfo f (u_F u) ∧ md f (u_D u) (u_I u) ∧ f 1714 67 = nI (u_bu u)
def sM (f : mm_F) (N lc : Nat) (ln : Nat → Nat) (op : Nat) (ch : List en) (li LC : Nat) (ci : Int32) (CA tr : Nat) (fe : Int32) : Prop := 1 ≤ N ∧ f 1714 27 = sh N ∧ f 1714 21 = fe ∧ f 1714 34 = nI li ∧ li < LC ∧ LC ≤ op + 1 ∧ op ≤ 12 ∧ f 1714 33 = nI LC ∧ mL f li lc ln ∧ lc ≤ 10 ∧ f 1714 43 = nI op ∧ f 1714 41 = nI CA ∧ CA ≤ op ∧ f 1714 42 = ci ∧ chM f ch CA LC ci ∧ f 1714 66 = nI tr
def dM (u : wo) (f : mm_F) (N : Nat) (B : Nat → Nat) (M : Nat) (S : Nat → Nat) (V : Nat → Nat → Option rv) (ra rd : Nat → Int32) (sp : Nat → Bool) (bg : Nat → Nat) (vc : Nat) : Prop := me f (u_D u) N B V ∧ mu f vc ∧ mb f N bg vc ∧ mn f N M S ra rd ∧ (∀ s, s < N → B s ≤ s) ∧ ∀ k, k < M → f 1748 k = bI (sp k)
/-- the items of then -/
def kit (k : kfr) (v : rv) : Prop := rv_t v = 3 → ∀ j, j < rv_l v → rv_ok (k_I k (rv_d v) j) ∧ (rv_t (k_I k (rv_d v) j) = 1 ∨ (rv_t (k_I k (rv_d v) j) = 2 ∧ rv_l (k_I k (rv_d v) j) ≤ 40))
/-- a fragment's places hold what is kept -/
def fgM1 (f : mm_F) (i : Nat) (k : kfr) : Prop := (k_is k = false → f 1749 i = nI 0) ∧ (k_is k = true → f 1749 i = nI (1 + 100 * k_T k + k_p k) ∧ k_T k < 10 ∧ k_p k < 80 ∧ f 1751 i = nI (k_lc k) ∧ k_lc k ≤ 10 ∧ (∀ j, j < k_lc k → f 1750 (10 * i + j) = nI (k_ln k j) ∧ k_ln k j < 10) ∧ f 1752 i = nI (k_x k) ∧ k_x k < 8 ∧ f 1753 i = bI (k_w k) ∧ f 1758 i = nI (k_n k) ∧ k_n k ≤ 300 ∧ (∀ j, j < k_n k → f 1757 (300 * i + j) = om (k_c k j) ∧ k_c k j < 2 ^ 31 ∧ 32 ≤ k_c k j % 128 ∧ k_c k j % 128 ≤ 126 ∧ gz (kcx (k_x k) (k_c k) j) (k_c k j)) ∧ f 1754 i = k_ra k ∧ f 1755 i = k_rd k ∧
  ∀ l, l < 26 → (bt (k_ra k) l → rv_ok (k_vs k l) ∧ kit k (k_vs k l) ∧ sn f (k_I k) (98 * (52 * i + l)) (k_vs k l)) ∧ (bt (k_rd k) l → rv_ok (k_vd k l) ∧ kit k (k_vd k l) ∧ sn f (k_I k) (98 * (52 * i + 26 + l)) (k_vd k l)))
def fgM (f : mm_F) (FG : Nat → kfr) : Prop := ∀ i, i < 10 → fgM1 f i (FG i)
/-- the whole picture; e is what has failed, or 0 -/
def MM (u : wo) (f : mm_F) (N : Nat) (B : Nat → Nat) (M : Nat) (S : Nat → Nat) (lc : Nat) (ln : Nat → Nat) (op : Nat) (ch : List en) (V : Nat → Nat → Option rv) (o : ost) (ra rd : Nat → Int32) (sp : Nat → Bool) (st hts : Nat) (FG : Nat → kfr) (e : Int32) (bg : Nat → Nat) (vc li LC : Nat) (ci : Int32) (CA tr : Nat) (fe : Int32) : Prop := wM u f ∧ sM f N lc ln op ch li LC ci CA tr fe ∧ dM u f N B M S V ra rd sp bg vc ∧ f 1714 68 = nI st ∧ st ≤ u_bu u ∧ u_bu u ≤ 2000 ∧ f 1714 69 = nI hts ∧ f 1714 70 = e ∧ oM f o ∧ fgM f FG
section YA
variable {u : wo} {fe : Int32} {f f1 f' : mm_F} {P S1 R1 : Nat → Prop} {e : Int32} {N : Nat} {B : Nat → Nat} {M : Nat} {S : Nat → Nat} {lc : Nat} {ln : Nat → Nat} {op : Nat} {ch : List en} {V : Nat → Nat → Option rv} {o : ost} {ra rd : Nat → Int32} {sp : Nat → Bool} {st hts : Nat} {FG : Nat → kfr} {bg : Nat → Nat} {vc li LC : Nat} {ci : Int32} {CA tr : Nat}
theorem wM_f (h : wM u f) (F : mw P S1 R1 f f') (hS : ¬ S1 67) (hR : ∀ a, R1 a → 1728 ≤ a) : wM u f' := by
  obtain ⟨h1, h2, h3, h4⟩ := h
  have n : ∀ a, a < 1728 → ¬ R1 a := fun a ha q => by have := hR a q; omega
  have r : ∀ a i, a < 1728 → a ≠ 1714 → f' a i = f a i := fun a i ha h14 => F.1 a i h14 (by omega) (n a ha)
  refine ⟨tL_f h1 F ⟨n _ (by decide), n _ (by decide)⟩, mfo_f h2 F ⟨n _ (by decide), n _ (by decide)⟩, ?_, (F.2.1 67 hS).trans h4⟩
  have r20 : f' 1720 = f 1720 := funext fun i => r _ i (by decide) (by decide)
  have r21 : f' 1721 = f 1721 := funext fun i => r _ i (by decide) (by decide)
  have r22 : f' 1722 = f 1722 := funext fun i => r _ i (by decide) (by decide)
  have r23 : f' 1723 = f 1723 := funext fun i => r _ i (by decide) (by decide)
  have r24 : f' 1724 = f 1724 := funext fun i => r _ i (by decide) (by decide)
  have r25 : f' 1725 = f 1725 := funext fun i => r _ i (by decide) (by decide)
  have r26 : f' 1726 = f 1726 := funext fun i => r _ i (by decide) (by decide)
  have r27 : f' 1727 = f 1727 := funext fun i => r _ i (by decide) (by decide)
  unfold md at h3 ⊢
  rw [r20, r21, r22, r23, r24, r25, r26, r27]
  exact h3
theorem mF_r : mF tr LC CA f f := ⟨mw_r, fun _ _ => rfl, fun _ _ => rfl, fun _ _ => rfl, fun _ _ _ _ _ => rfl⟩
theorem mF_t (h1 : mF tr LC CA f f1) (h2 : mF tr LC CA f1 f') : mF tr LC CA f f' := ⟨mw_t h1.1 h2.1, fun j hj => (h2.2.1 j hj).trans (h1.2.1 j hj), fun j hj => (h2.2.2.1 j hj).trans (h1.2.2.1 j hj), fun j hj => (h2.2.2.2.1 j hj).trans (h1.2.2.2.1 j hj), fun a a1 a2 i hi => (h2.2.2.2.2 a a1 a2 i hi).trans (h1.2.2.2.2 a a1 a2 i hi)⟩
theorem mF_w (F : mw P S1 R1 f f') (hS : ∀ j, S1 j → rS j) (hR : ∀ a, R1 a → rR a ∧ a ≠ 1762 ∧ ¬ (1737 ≤ a ∧ a ≤ 1744)) : mF tr LC CA f f' := by
  have r : ∀ a i, ¬ (1728 ≤ a ∧ a ≤ 1732) → a ≠ 1714 → (a = 1762 ∨ (1737 ≤ a ∧ a ≤ 1744)) → f' a i = f a i := fun a i h1 h2 h3 => F.1 a i h2 h1 (fun q => by have := hR a q; omega)
  exact ⟨mw_m F (fun _ _ => trivial) hS (fun a q => (hR a q).1), fun j _ => r _ j (by decide) (by decide) (by omega), fun j _ => r _ j (by decide) (by decide) (by omega), fun j _ => r _ j (by decide) (by decide) (by omega), fun a a1 a2 j _ => r _ j (by omega) (by omega) (by omega)⟩
theorem mF_lo {tr' LC' CA' : Nat} (h : mF tr' LC' CA' f f') (h1 : tr ≤ tr') (h2 : LC ≤ LC') (h3 : CA ≤ CA') : mF tr LC CA f f' := ⟨h.1, fun j hj => h.2.1 j (by omega), fun j hj => h.2.2.1 j (by omega), fun j hj => h.2.2.2.1 j (by omega), fun a a1 a2 i hi => h.2.2.2.2 a a1 a2 i (by omega)⟩
theorem mL_F {tr' n : Nat} {c : Nat → Nat} (F : mF tr' LC CA f f') (hl : li < LC) (h10 : n ≤ 10) (h : mL f li n c) : mL f' li n c := ⟨(F.2.2.1 li hl).trans h.1, fun k hk => ⟨(F.2.2.2.1 _ (by omega)).trans (h.2 k hk).1, (h.2 k hk).2⟩⟩
theorem chM_F (F : mF tr LC CA f f') : ∀ {L : List en} {m : Nat} {z : Int32}, m ≤ CA → (∀ x, x ∈ L → en_n x ≤ 10) → chM f L m LC z → chM f' L m LC z
  | [], m, z, hm, _, h => by
    rcases h with h | ⟨j, h1, h2, h3⟩
    · exact Or.inl h
    · exact Or.inr ⟨j, h1, h2, (F.2.2.2.2 _ (by decide) (by decide) j (by omega)).trans h3⟩
  | x :: L, m, z, hm, h10, h => by
    obtain ⟨j, l, h1, h2, h3, h4, h5, h6, h7, h8, h9, h11⟩ := h
    have r : ∀ a, 1739 ≤ a → a ≤ 1744 → f' a j = f a j := fun a a1 a2 => F.2.2.2.2 a a1 a2 j (by omega)
    refine ⟨j, l, h1, h2, (r _ (by decide) (by decide)).trans h3, (r _ (by decide) (by decide)).trans h4, (r _ (by decide) (by decide)).trans h5, (r _ (by decide) (by decide)).trans h6, (r _ (by decide) (by decide)).trans h7, h8, mL_F F h8 (h10 x (List.mem_cons_self ..)) h9, ?_⟩
    rw [r _ (by decide) (by decide)]
    exact chM_F F (by omega) (fun y hy => h10 y (List.mem_cons_of_mem _ hy)) h11
theorem chM_lo {L : List en} : ∀ {m m' c c' : Nat} {z : Int32}, m ≤ m' → c ≤ c' → chM f L m c z → chM f L m' c' z := by
  induction L with
  | nil =>
    intro m m' c c' z hm hc h
    rcases h with h | ⟨j, h1, h2, h3⟩
    · exact Or.inl h
    · exact Or.inr ⟨j, by omega, h2, h3⟩
  | cons x L ih =>
    intro m m' c c' z hm hc h
    obtain ⟨j, l, h1, h2, h3, h4, h5, h6, h7, h8, h9, h11⟩ := h
    exact ⟨j, l, by omega, h2, h3, h4, h5, h6, h7, by omega, h9, ih (Nat.le_refl _) hc h11⟩
/-- the frames' part, when nothing of it is written -/
theorem sM_f (h : sM f N lc ln op ch li LC ci CA tr fe) (h10 : ∀ x, x ∈ ch → en_n x ≤ 10) (F : mw P S1 R1 f f') (hS : ∀ j, S1 j → j ≠ 27 ∧ j ≠ 21 ∧ j ≠ 34 ∧ j ≠ 33 ∧ j ≠ 43 ∧ j ≠ 41 ∧ j ≠ 42 ∧ j ≠ 66) (hR : ∀ a, R1 a → ¬ (1737 ≤ a ∧ a ≤ 1744)) : sM f' N lc ln op ch li LC ci CA tr fe := by
  have s : ∀ j, (j = 27 ∨ j = 21 ∨ j = 34 ∨ j = 33 ∨ j = 43 ∨ j = 41 ∨ j = 42 ∨ j = 66) → f' 1714 j = f 1714 j := fun j hj => F.2.1 j (fun q => by have := hS j q; omega)
  have r : ∀ a i, 1737 ≤ a → a ≤ 1744 → f' a i = f a i := fun a i h1 h2 => F.1 a i (by omega) (by omega) (fun q => hR a q ⟨h1, h2⟩)
  have hc : ∀ {L : List en} {m : Nat} {z : Int32}, (∀ x, x ∈ L → en_n x ≤ 10) → chM f L m LC z → chM f' L m LC z := fun {L} => by
    induction L with
    | nil =>
      intro m z _ h
      rcases h with h | ⟨j, h1, h2, h3⟩
      · exact Or.inl h
      · exact Or.inr ⟨j, h1, h2, (r _ _ (by decide) (by decide)).trans h3⟩
    | cons x L ih =>
      intro m z hx h
      obtain ⟨j, l, h1, h2, h3, h4, h5, h6, h7, h8, h9, h11⟩ := h
      refine ⟨j, l, h1, h2, (r _ _ (by decide) (by decide)).trans h3, (r _ _ (by decide) (by decide)).trans h4, (r _ _ (by decide) (by decide)).trans h5, (r _ _ (by decide) (by decide)).trans h6, (r _ _ (by decide) (by decide)).trans h7, h8, ⟨(r _ _ (by decide) (by decide)).trans h9.1, fun k hk => ⟨(r _ _ (by decide) (by decide)).trans (h9.2 k hk).1, (h9.2 k hk).2⟩⟩, ?_⟩
      rw [r _ _ (by decide) (by decide)]
      exact ih (fun y hy => hx y (List.mem_cons_of_mem _ hy)) h11
  obtain ⟨h1, h2, h3, h4, h5, h6, h7, h8, h9, h9', h11, h12, h13, h14, h15, h16⟩ := h
  exact ⟨h1, (s 27 (by omega)).trans h2, (s 21 (by omega)).trans h3, (s 34 (by omega)).trans h4, h5, h6, h7, (s 33 (by omega)).trans h8, ⟨(r _ _ (by decide) (by decide)).trans h9.1, fun k hk => ⟨(r _ _ (by decide) (by decide)).trans (h9.2 k hk).1, (h9.2 k hk).2⟩⟩, h9', (s 43 (by omega)).trans h11, (s 41 (by omega)).trans h12, h13, (s 42 (by omega)).trans h14, hc h10 h15, (s 66 (by omega)).trans h16⟩
theorem dM_f (h : dM u f N B M S V ra rd sp bg vc) (F : mw P S1 R1 f f') (hP : ∀ i, P i → 320 ≤ i) (hS : ∀ j, S1 j → j ≠ 30 ∧ j ≠ 26 ∧ j ≠ 44) (hR : ∀ a, R1 a → ¬ (1733 ≤ a ∧ a ≤ 1736) ∧ ¬ (1745 ≤ a ∧ a ≤ 1748)) : dM u f' N B M S V ra rd sp bg vc := by
  obtain ⟨h1, h2, h3, h4, h5, h6⟩ := h
  have r : ∀ a i, 1745 ≤ a → a ≤ 1748 → f' a i = f a i := fun a i a1 a2 => F.1 a i (by omega) (by omega) (fun q => (hR a q).2 ⟨a1, a2⟩)
  refine ⟨me_f h1 F hP (fun q => (hS 30 q).1 rfl) (fun a q => by have := (hR a q).1; omega), mu_f h2 F (fun q => (hS 30 q).1 rfl) (fun a q => by have := (hR a q).1; omega), mb_f h3 F (fun q => (hS 26 q).2.1 rfl) (fun a q => by have := (hR a q).1; omega), ⟨h4.1, (F.2.1 44 (fun q => (hS 44 q).2.2 rfl)).trans h4.2.1, fun k hk => ?_⟩, h5, fun k hk => (r _ _ (by decide) (by decide)).trans (h6 k hk)⟩
  obtain ⟨g1, g2, g3, g4⟩ := h4.2.2 k hk
  exact ⟨g1, (r _ _ (by decide) (by decide)).trans g2, (r _ _ (by decide) (by decide)).trans g3, (r _ _ (by decide) (by decide)).trans g4⟩
theorem sn_e {I0 : Nat → Nat → rv} {fm : Nat} {v : rv} (h : sn f I0 fm v) (e : f' 1756 = f 1756) : sn f' I0 fm v := by
  unfold sn si pz at h ⊢
  rw [e]
  exact h
theorem fgM_f (h : fgM f FG) (F : mw P S1 R1 f f') (hR : ∀ a, R1 a → ¬ (1749 ≤ a ∧ a ≤ 1758)) : fgM f' FG := fun i hi => by
  have r : ∀ a i, 1749 ≤ a → a ≤ 1758 → f' a i = f a i := fun a i a1 a2 => F.1 a i (by omega) (by omega) (fun q => hR a q ⟨a1, a2⟩)
  have e56 : f' 1756 = f 1756 := funext fun i => r _ i (by decide) (by decide)
  obtain ⟨h1, h2⟩ := h i hi
  refine ⟨fun q => (r _ _ (by decide) (by decide)).trans (h1 q), fun q => ?_⟩
  obtain ⟨g1, g2, g3, g4, g5, g6, g7, g8, g9, g10, g11, g12, g13, g14, g15⟩ := h2 q
  refine ⟨(r _ _ (by decide) (by decide)).trans g1, g2, g3, (r _ _ (by decide) (by decide)).trans g4, g5, fun j hj => ⟨(r _ _ (by decide) (by decide)).trans (g6 j hj).1, (g6 j hj).2⟩, (r _ _ (by decide) (by decide)).trans g7, g8, (r _ _ (by decide) (by decide)).trans g9, (r _ _ (by decide) (by decide)).trans g10, g11, fun j hj => ⟨(r _ _ (by decide) (by decide)).trans (g12 j hj).1, (g12 j hj).2⟩, (r _ _ (by decide) (by decide)).trans g13, (r _ _ (by decide) (by decide)).trans g14, fun l hl => ⟨fun t => ?_, fun t => ?_⟩⟩
  · exact ⟨((g15 l hl).1 t).1, ((g15 l hl).1 t).2.1, sn_e ((g15 l hl).1 t).2.2 e56⟩
  · exact ⟨((g15 l hl).2 t).1, ((g15 l hl).2 t).2.1, sn_e ((g15 l hl).2 t).2.2 e56⟩
theorem oM_f (h : oM f o) (F : mw P S1 R1 f f') (hS : ¬ S1 61 ∧ ¬ S1 62) (hR : ¬ R1 1759 ∧ ¬ R1 1760) : oM f' o := ⟨h.1, (F.2.1 61 hS.1).trans h.2.1, (F.2.1 62 hS.2).trans h.2.2.1, fun i hi => (F.1 1759 i (by decide) (by decide) hR.1).trans (h.2.2.2.1 i hi), fun i hi => (F.1 1760 i (by decide) (by decide) hR.2).trans (h.2.2.2.2 i hi)⟩
/-- what is written beside the picture leaves it -/
theorem MM_f (h : MM u f N B M S lc ln op ch V o ra rd sp st hts FG e bg vc li LC ci CA tr fe) (h10 : ∀ x, x ∈ ch → en_n x ≤ 10) (F : mw P S1 R1 f f') (hP : ∀ i, P i → 320 ≤ i) (hS : ∀ j, S1 j → j = 22 ∨ j = 23) (hR : ∀ a, ¬ R1 a) : MM u f' N B M S lc ln op ch V o ra rd sp st hts FG e bg vc li LC ci CA tr fe ∧ mF tr LC CA f f' := by
  obtain ⟨h1, h2, h3, h4, h5, h6, h7, h8, h9, h0⟩ := h
  have s : ∀ j, (j = 68 ∨ j = 69 ∨ j = 70) → f' 1714 j = f 1714 j := fun j hj => F.2.1 j (fun q => by have := hS j q; omega)
  exact ⟨⟨wM_f h1 F (fun q => by have := hS _ q; omega) (fun a q => absurd q (hR a)), sM_f h2 h10 F (fun j q => by have := hS j q; omega) (fun a q => absurd q (hR a)), dM_f h3 F hP (fun j q => by have := hS j q; omega) (fun a q => absurd q (hR a)), (s 68 (by omega)).trans h4, h5, h6, (s 69 (by omega)).trans h7, (s 70 (by omega)).trans h8, oM_f h9 F ⟨fun q => by have := hS _ q; omega, fun q => by have := hS _ q; omega⟩ ⟨hR _, hR _⟩, fgM_f h0 F (fun a q => absurd q (hR a))⟩, mF_w F (fun j q => by have := hS j q; unfold rS; omega) (fun a q => absurd q (hR a))⟩
/-- output put out, nothing else -/
theorem MM_o {o' : ost} {e' : Int32} (h : MM u f N B M S lc ln op ch V o ra rd sp st hts FG e bg vc li LC ci CA tr fe) (h10 : ∀ x, x ∈ ch → en_n x ≤ 10) (F : mw P oS oR f f') (hP : ∀ i, P i → 320 ≤ i) (ho : oM f' o') (he : f' 1714 70 = e') : MM u f' N B M S lc ln op ch V o' ra rd sp st hts FG e' bg vc li LC ci CA tr fe ∧ mF tr LC CA f f' := by
  obtain ⟨h1, h2, h3, h4, h5, h6, h7, h8, h9, h0⟩ := h
  have s : ∀ j, (j = 68 ∨ j = 69) → f' 1714 j = f 1714 j := fun j hj => F.2.1 j (fun q => by unfold oS at q; omega)
  exact ⟨⟨wM_f h1 F (fun q => by unfold oS at q; omega) (fun a q => by unfold oR at q; omega), sM_f h2 h10 F (fun j q => by unfold oS at q; omega) (fun a q => by unfold oR at q; omega), dM_f h3 F hP (fun j q => by unfold oS at q; omega) (fun a q => by unfold oR at q; omega), (s 68 (by omega)).trans h4, h5, h6, (s 69 (by omega)).trans h7, he, ho, fgM_f h0 F (fun a q => by unfold oR at q; omega)⟩, mF_w F (fun j q => by unfold oS at q; unfold rS; omega) (fun a q => by unfold oR at q; unfold rR; omega)⟩
theorem MM_fe {y : Int32} (h : MM u f N B M S lc ln op ch V o ra rd sp st hts FG e bg vc li LC ci CA tr fe) (h10 : ∀ x, x ∈ ch → en_n x ≤ 10) : MM u (mj_u2 f 1714 21 y) N B M S lc ln op ch V o ra rd sp st hts FG e bg vc li LC ci CA tr y ∧ mF tr LC CA f (mj_u2 f 1714 21 y) := by
  obtain ⟨h1, h2, h3, h4, h5, h6, h7, h8, h9, h0⟩ := h
  have F : mw no_R (fun j => j = 21) no_R f (mj_u2 f 1714 21 y) := mw_S rfl
  have nr : ∀ a, no_R a → False := fun a q => q
  obtain ⟨s1, s2, s3, s4, s5, s6, s7, s8, s9, s9', s11, s12, s13, s14, s15, s16⟩ := h2
  have F2 : mw no_R no_R no_R (mj_u2 f 1714 21 y) (mj_u2 f 1714 21 y) := mw_r
  have c0 : ∀ {L : List en} {m : Nat} {z : Int32}, chM f L m LC z → chM (mj_u2 f 1714 21 y) L m LC z := fun {L} => by
    induction L with
    | nil => exact fun h => h
    | cons x L ih =>
      intro m z ⟨j, l, g1, g2, g3, g4, g5, g6, g7, g8, g9, g11⟩
      exact ⟨j, l, g1, g2, g3, g4, g5, g6, g7, g8, g9, ih g11⟩
  exact ⟨⟨wM_f h1 F (by decide) (fun a q => absurd q (nr a)), ⟨s1, s2, z_u2s, s4, s5, s6, s7, s8, s9, s9', s11, s12, s13, s14, c0 s15, s16⟩, dM_f h3 F (fun i q => absurd q (nr i)) (fun j q => by omega) (fun a q => absurd q (nr a)), h4, h5, h6, h7, h8, oM_f h9 F ⟨by decide, by decide⟩ ⟨nr _, nr _⟩, fgM_f h0 F (fun a q => absurd q (nr a))⟩, mF_w F (fun j q => by unfold rS; omega) (fun a q => absurd q (nr a))⟩
end YA
