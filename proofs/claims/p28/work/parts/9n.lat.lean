/-! RENDERING: lines, from their tops -/
section LT
variable {ρ : Nat → Nat} {D : Nat → rv} {I : Nat → Nat → rv} {G Gm : mj_G} {f : mm_F} {d i t L g n top : Nat} {pa bd : Nat → Nat} {w : Nat → Nat → Nat} {nn : Nat → Nat} {c : Nat → Nat} {q : Nat → Option (Nat × Nat)}
def l_of (pa : Nat → Nat) (t : Nat) : Bool × Nat × (Nat → Nat) := l_go pa 10 0 (fun _ => 0) t
theorem c_layLine {K : Int32 → mj_G → Prop} (hi : i < 200) (ht : t < 10) (h : hh ρ D I G) (hT : tH ρ G pa bd)
    (hK : ∀ G', hh ρ D I G' → fw ρ (lW i) G G' → (∀ j, j ≠ 7 → j ≠ 9 → mj_i G' (707 + 4 * i) j = mj_i G (707 + 4 * i) j) → mj_i G' (707 + 4 * i) 7 = nI i → (∀ j, j ≠ 2 → mj_r G' (707 + 4 * i) j = mj_r G (707 + 4 * i) j) → ((l_of pa t).1 = true → fL G' i (l_of pa t).2.1 (l_of pa t).2.2 ∧ 1 ≤ (l_of pa t).2.1 ∧ mj_r G' (707 + 4 * i) 2 = bd ((l_of pa t).2.2 ((l_of pa t).2.1 - 1))) → K (if (l_of pa t).1 = true then nI 0 else Int32.ofInt (-8)) G') : Rn_layLine (d + 1) (nI i) (nI t) G K := by
  refine w_Rn_layLine h.1 (z_ixi hi (by decide) ?_)
  intro G1 e1
  obtain ⟨h1, F1⟩ := l_hI (a := 707 + 4 * i) (j := 7) (y := nI i) h hi (Or.inl rfl)
  rw [← e1] at h1 F1
  intro G2 e2
  obtain ⟨h2, F2⟩ := l_hI (a := 707 + 4 * i) (j := 9) (y := nI 0) h1 hi (Or.inl rfl)
  rw [← e2] at h2 F2
  have i2 : ∀ j, j ≠ 7 → j ≠ 9 → mj_i G2 (707 + 4 * i) j = mj_i G (707 + 4 * i) j := fun j a b => by rw [e2, z_iIm b, e1, z_iIm a]
  have i27 : mj_i G2 (707 + 4 * i) 7 = nI i := by rw [e2, z_iIm (by decide), e1, z_iIs]
  have i29 : mj_i G2 (707 + 4 * i) 9 = nI 0 := by rw [e2, z_iIs]
  have r2 : ∀ j, mj_r G2 (707 + 4 * i) j = mj_r G (707 + 4 * i) j := fun j => by rw [e2, e1]; rfl
  clear e1 e2
  have F02 := fw_t F1 ro_r F2
  refine c_lay (G0 := G2) (m := 10) (n := 0) (c := fun _ => 0) hi rfl ht h2 (tH_f h hT F02 ro_r (fun o r => lW_im hi r)) fw_r (fun _ _ => rfl) (fun _ _ => rfl) ⟨i29, fun k hk => absurd hk (Nat.not_lt_zero k)⟩ (fun G3 h3 F3 a1 a2 a3 => hK G3 h3 (fw_t F02 ro_r F3) (fun j x1 x2 => (a1 j x2).trans (i2 j x1 x2)) ((a1 7 (by decide)).trans i27) (fun j x1 => (a2 j x1).trans (r2 j)) a3)
theorem p_laysLine {K : mm_F → Prop} (hM : mm_S Gm) (hL : L < 14) (hd : 2 ≤ d) (ht : t < 10) (hT : tL f w nn pa) (h70 : f 1714 70 = nI 0) (hK : ∀ f', mw no_R (fun j => j = 70) R_l f f' → oL L f f' → ((l_of pa t).1 = true → mL f' L (l_of pa t).2.1 (l_of pa t).2.2 ∧ f' 1714 70 = nI 0) → (¬ (l_of pa t).1 = true → f' 1714 70 = Int32.ofInt (-8)) → K f') : m_laysLine Gm (d + 1) (nI L) (nI t) f K := by
  refine w_m_laysLine hM (z_ixi hL (by decide) ?_)
  have F1 : mw no_R (fun j => j = 70) R_l f (mj_u2 f 1738 L (nI 0)) := mw_R (by decide) (Or.inr rfl)
  exact p_lay (f0 := f) (m := 10) (n := 0) (c := fun _ => 0) hM hL hd rfl ht (fun k hk => absurd hk (Nat.not_lt_zero k)) (fun i j _ hj => absurd hj (Nat.not_lt_zero j)) ⟨z_u2s, fun k hk => absurd hk (Nat.not_lt_zero k)⟩ (tL_f hT F1 (by unfold R_l; decide)) ((z_u2n (by decide)).trans h70) F1 ⟨fun i hi => z_u2m hi, fun j _ => z_u2n (by decide)⟩ hK
/-- the node of the first block with a digit from a place of the line on; 0 if there is none -/
def l_nd (q : Nat → Option (Nat × Nat)) (c : Nat → Nat) (n k : Nat) : Nat := if l_fb q c (n - k) k < n then q_nd (q (c (l_fb q c (n - k) k))) else 0
theorem c_firstBlock {k : Nat} {K : Nat → mj_G → Prop} (hS : cs_S G) (h11 : mj_i G 11 4 = nI top) (htop : top < 200) (h7 : mj_i G (707 + 4 * top) 7 = nI i) (hi : i < 200) (hg : g < 10) (hn : n ≤ 10) (hk : k ≤ n) (hL : fL G i n c) (hB : tB G 4 g q) (hK : K (l_nd q c n k) G) : Rn_firstBlock (d + 1) (nI k) (nI g) G K :=
  w_Rn_firstBlock hS (c_lineFrame hS h11 htop h7 hi (c_fb8 hS hi hg hn hL hB (m := n - k) (k := k) (by omega) hK))
theorem c_firstMacro {K : Nat → mj_G → Prop} (hS : cs_S G) (h11 : mj_i G 11 4 = nI top) (htop : top < 200) (h7 : mj_i G (707 + 4 * top) 7 = nI i) (hi : i < 200) (hg : g < 10) (hn : n ≤ 10) (hL : fL G i n c) (hB : tB G 5 g q) (hK : K (l_nd q c n 0) G) : Rn_firstMacro (d + 1) (nI g) G K :=
  w_Rn_firstMacro hS (c_lineFrame hS h11 htop h7 hi (c_mc7 hS hi hg hn hL hB (m := n) (k := 0) (by omega) hK))
theorem p_macroOf {sg : Nat} {K : Int32 → mm_F → Prop} (hM : mm_S Gm) (h34 : f 1714 34 = nI L) (hL : L < 14) (hn : n ≤ 10) (hml : mL f L n c) (hQ : tQ Gm f d 36 sg q) (h1 : l_fb q c n 0 = n → K (Int32.ofInt (-1)) f) (h2 : ∀ x, l_fb q c n 0 < n → q (c (l_fb q c n 0)) = some x → x.1 < 80 → c (l_fb q c n 0) < 10 → K (nI (100 * c (l_fb q c n 0) + x.1)) f) : m_macroOf Gm (d + 1) (nI sg) f K :=
  w_m_macroOf hM (p_macroOf2 hM h34 hL hn hml hQ (m := n) (k := 0) (by omega) h1 h2)
/-- both sides agree whether there is one -/
theorem l_nd0 {k : Nat} (hk : k ≤ n) (hq : ∀ j, j < n → ∀ x, q (c j) = some x → x.2 ≠ 0) : (l_nd q c n k = 0) = (l_fb q c (n - k) k = n) := by
  have hle := l_fb_le (q := q) (c := c) (m := n - k) (k := k)
  have fit : ∀ m k, l_fb q c m k < k + m → (q (c (l_fb q c m k))).isSome = true := fun m => by
    induction m with
    | zero =>
      intro k h
      exact absurd h (by show ¬ k < k + 0; omega)
    | succ m ih =>
      intro k h
      by_cases e : (q (c k)).isSome = true
      · have e1 : l_fb q c (m + 1) k = k := by show (if _ then _ else _) = _; rw [if_pos e]
        rw [e1]; exact e
      · have e1 : l_fb q c (m + 1) k = l_fb q c m (k + 1) := by show (if _ then _ else _) = _; rw [if_neg e]
        rw [e1] at h ⊢
        exact ih (k + 1) (by omega)
  unfold l_nd
  by_cases h : l_fb q c (n - k) k < n
  · rw [if_pos h]
    have s := fit (n - k) k (by omega)
    have z := q_nd0 (q := q) (t := c (l_fb q c (n - k) k)) (hq _ h)
    rw [z]
    exact propext ⟨fun r => absurd s r, fun r => by omega⟩
  · rw [if_neg h]
    exact propext ⟨fun _ => by omega, fun _ => rfl⟩
end LT
