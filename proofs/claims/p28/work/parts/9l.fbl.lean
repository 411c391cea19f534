/-! RENDERING: the first template of the line that has a block, or a macro -/
/-- the first place of the line from k on that is fit; k + m if none is -/
def l_fb (q : Nat → Option (Nat × Nat)) (c : Nat → Nat) : Nat → Nat → Nat
  | 0, k => k
  | m + 1, k => if (q (c k)).isSome = true then k else l_fb q c m (k + 1)
theorem l_fb_le {q : Nat → Option (Nat × Nat)} {c : Nat → Nat} : ∀ {m k : Nat}, k ≤ l_fb q c m k ∧ l_fb q c m k ≤ k + m
  | 0, k => ⟨Nat.le_refl _, Nat.le_refl _⟩
  | m + 1, k => by
    unfold l_fb
    by_cases h : (q (c k)).isSome = true
    · rw [if_pos h]; omega
    · rw [if_neg h]
      have := l_fb_le (q := q) (c := c) (m := m) (k := k + 1)
      omega
def q_nd (q : Option (Nat × Nat)) : Nat := match q with
  | none => 0
  | some x => x.2
/-- what templates have in a row of nodes by digits (4 blocks, 5 macros) -/
def tB (G : mj_G) (j g : Nat) (q : Nat → Option (Nat × Nat)) : Prop := ∀ t, t < 10 → mj_k G (mj_r G 7 t) = 11 ∧ 30 ≤ mj_k G (mj_r G (mj_r G 7 t) j) ∧ mj_l G (mj_r G (mj_r G 7 t) j) = 10 ∧ mj_r G (mj_r G (mj_r G 7 t) j) g = q_nd (q t) ∧ ∀ x, q t = some x → x.2 ≠ 0
section FB
variable {G Gm : mj_G} {f : mm_F} {d i g n L : Nat} {c : Nat → Nat} {q : Nat → Option (Nat × Nat)}
theorem q_nd0 {t : Nat} (h : ∀ x, q t = some x → x.2 ≠ 0) : (q_nd (q t) = 0) = ¬ ((q t).isSome = true) := by
  cases hq : q t with
  | none => exact propext ⟨fun _ r => absurd r (by simp), fun _ => rfl⟩
  | some x => exact propext ⟨fun r => absurd r (h x hq), fun r => absurd (by simp) r⟩
theorem c_lineFrame {top : Nat} {K : Nat → mj_G → Prop} (hS : cs_S G) (h11 : mj_i G 11 4 = nI top) (ht : top < 200) (h7 : mj_i G (707 + 4 * top) 7 = nI i) (hi : i < 200) (hK : K (707 + 4 * i) G) : Rn_lineFrame d G K := by
  refine w_Rn_lineFrame hS ?_
  rw [h11]
  refine z_ixi ht (by decide) ?_
  rw [h7]
  exact z_ixi hi (by decide) hK
theorem c_fb8 {K : Nat → mj_G → Prop} (hS : cs_S G) (hi : i < 200) (hg : g < 10) (hn : n ≤ 10) (hL : fL G i n c) (hB : tB G 4 g q) : ∀ {m k : Nat}, k + m = n → K (if l_fb q c m k < n then q_nd (q (c (l_fb q c m k))) else 0) G → Rn_firstBlock_8 (d + 1) (nI g) (707 + 4 * i) (nI k) G K
  | 0, k, hk, hK => by
    refine w_Rn_firstBlock_8 hS ?_
    rw [z_lt (by omega) (by decide), hL.1, z_le (by omega) (by omega)]
    refine z_bf (by omega) ⟨cs_g14 hS hi, z_bt (by omega) ?_⟩
    rw [if_neg (show ¬ l_fb q c 0 k < n by show ¬ k < n; omega)] at hK
    exact hK
  | m + 1, k, hk, hK => by
    obtain ⟨s1, s2, s3⟩ := cs_l14 hS hi
    obtain ⟨c1, c2⟩ := hL.2 k (by omega)
    obtain ⟨b1, b2, b3, b4, b5⟩ := hB (c k) c2
    refine w_Rn_firstBlock_8 hS ?_
    rw [z_lt (by omega) (by decide), hL.1, z_le (by omega) (by omega), s1, s3]
    refine z_bf (by omega) ⟨cs_g14 hS hi, z_bf (by omega) ⟨s2, z_ixi (by omega) (by decide) ?_⟩⟩
    rw [c1]
    refine z_ixi c2 (by decide) ⟨b1, b2, ?_⟩
    rw [b3]
    refine z_ixi hg (by decide) ?_
    rw [b4, q_nd0 b5, z_add]
    refine z_br (fun e => ?_) (fun e => ?_)
    · have e1 : l_fb q c (m + 1) k = l_fb q c m (k + 1) := by show (if _ then _ else _) = _; rw [if_neg e]
      rw [e1] at hK
      exact c_fb8 hS hi hg hn hL hB (m := m) (k := k + 1) (by omega) hK
    · have e1 : l_fb q c (m + 1) k = k := by show (if _ then _ else _) = _; rw [if_pos (Classical.byContradiction e)]
      rw [e1, if_pos (by omega)] at hK
      exact hK
theorem c_mc7 {K : Nat → mj_G → Prop} (hS : cs_S G) (hi : i < 200) (hg : g < 10) (hn : n ≤ 10) (hL : fL G i n c) (hB : tB G 5 g q) : ∀ {m k : Nat}, k + m = n → K (if l_fb q c m k < n then q_nd (q (c (l_fb q c m k))) else 0) G → Rn_firstMacro_7 (d + 1) (nI g) (707 + 4 * i) (nI k) G K
  | 0, k, hk, hK => by
    refine w_Rn_firstMacro_7 hS ⟨cs_g14 hS hi, ?_⟩
    rw [hL.1, z_le (by omega) (by omega)]
    refine z_bt (by omega) ?_
    rw [if_neg (show ¬ l_fb q c 0 k < n by show ¬ k < n; omega)] at hK
    exact hK
  | m + 1, k, hk, hK => by
    obtain ⟨s1, s2, s3⟩ := cs_l14 hS hi
    obtain ⟨c1, c2⟩ := hL.2 k (by omega)
    obtain ⟨b1, b2, b3, b4, b5⟩ := hB (c k) c2
    refine w_Rn_firstMacro_7 hS ⟨cs_g14 hS hi, ?_⟩
    rw [hL.1, z_le (by omega) (by omega), s1, s3]
    refine z_bf (by omega) ⟨s2, z_ixi (by omega) (by decide) ?_⟩
    rw [c1]
    refine z_ixi c2 (by decide) ⟨b1, b2, ?_⟩
    rw [b3]
    refine z_ixi hg (by decide) ?_
    rw [b4, q_nd0 b5, z_add]
    refine z_br (fun e => ?_) (fun e => ?_)
    · have e1 : l_fb q c (m + 1) k = l_fb q c m (k + 1) := by show (if _ then _ else _) = _; rw [if_neg e]
      rw [e1] at hK
      exact c_mc7 hS hi hg hn hL hB (m := m) (k := k + 1) (by omega) hK
    · have e1 : l_fb q c (m + 1) k = k := by show (if _ then _ else _) = _; rw [if_pos (Classical.byContradiction e)]
      rw [e1, if_pos (by omega)] at hK
      exact hK
/-- the model's first tag of a kind in each template -/
def tQ (Gm : mj_G) (f : mm_F) (d kd sg : Nat) (q : Nat → Option (Nat × Nat)) : Prop := ∀ t, t < 10 → ∀ K : Int32 → mm_F → Prop, (q t = none → K (Int32.ofInt (-1)) f) → (∀ x, q t = some x → x.1 < 80 → K (nI x.1) f) → m_firstOf Gm d (nI t) (nI kd) (nI sg) f K
theorem p_rb2 {sg : Nat} {K : mm_F → Prop} (hM : mm_S Gm) (h34 : f 1714 34 = nI L) (hL : L < 14) (hn : n ≤ 10) (hml : mL f L n c) (hQ : tQ Gm f d 35 sg q) : ∀ {m k : Nat}, k + m = n → m_rendersBlock_46 Gm (d + 1) (nI sg) (nI (l_fb q c m k)) f K → m_rendersBlock_2 Gm (d + 1) (nI sg) (nI k) f K
  | 0, k, hk, hr => by
    refine w_m_rendersBlock_2 hM ?_
    rw [h34]
    refine z_ixi hL (by decide) ?_
    rw [hml.1, z_le (by omega) (by omega)]
    exact z_bt (by omega) hr
  | m + 1, k, hk, hr => by
    obtain ⟨c1, c2⟩ := hml.2 k (by omega)
    refine w_m_rendersBlock_2 hM ?_
    rw [h34]
    refine z_ixi hL (by decide) ?_
    rw [hml.1, z_le (by omega) (by omega), z_mul, z_add]
    refine z_bf (by omega) (z_ixi (by omega) (by decide) ?_)
    rw [c1]
    refine hQ (c k) c2 _ (fun e => z_bt rfl ?_) (fun x e hx => ?_)
    · have e1 : l_fb q c (m + 1) k = l_fb q c m (k + 1) := by show (if _ then _ else _) = _; rw [if_neg (by rw [e]; simp)]
      rw [e1] at hr
      rw [z_add]
      exact p_rb2 hM h34 hL hn hml hQ (m := m) (k := k + 1) (by omega) hr
    · have e1 : l_fb q c (m + 1) k = k := by show (if _ then _ else _) = _; rw [if_pos (by rw [e]; rfl)]
      rw [e1] at hr
      refine z_bf (fun r => ?_) hr
      rw [← sh_s, sh_n (by omega)] at r
      omega
theorem p_macroOf2 {sg : Nat} {K : Int32 → mm_F → Prop} (hM : mm_S Gm) (h34 : f 1714 34 = nI L) (hL : L < 14) (hn : n ≤ 10) (hml : mL f L n c) (hQ : tQ Gm f d 36 sg q) : ∀ {m k : Nat}, k + m = n → (l_fb q c m k = n → K (Int32.ofInt (-1)) f) → (∀ x, l_fb q c m k < n → q (c (l_fb q c m k)) = some x → x.1 < 80 → c (l_fb q c m k) < 10 → K (nI (100 * c (l_fb q c m k) + x.1)) f) → m_macroOf_2 Gm (d + 1) (nI sg) (nI k) f K
  | 0, k, hk, h1, _ => by
    refine w_m_macroOf_2 hM ?_
    rw [h34]
    refine z_ixi hL (by decide) ?_
    rw [hml.1, z_le (by omega) (by omega)]
    exact z_bt (by omega) (h1 hk)
  | m + 1, k, hk, h1, h2 => by
    obtain ⟨c1, c2⟩ := hml.2 k (by omega)
    refine w_m_macroOf_2 hM ?_
    rw [h34]
    refine z_ixi hL (by decide) ?_
    rw [hml.1, z_le (by omega) (by omega), z_mul, z_add]
    refine z_bf (by omega) (z_ixi (by omega) (by decide) ?_)
    rw [c1]
    refine hQ (c k) c2 _ (fun e => z_bt rfl ?_) (fun x e hx => ?_)
    · have e1 : l_fb q c (m + 1) k = l_fb q c m (k + 1) := by show (if _ then _ else _) = _; rw [if_neg (by rw [e]; simp)]
      rw [e1] at h1 h2
      rw [z_add]
      exact p_macroOf2 hM h34 hL hn hml hQ (m := m) (k := k + 1) (by omega) h1 h2
    · have e1 : l_fb q c (m + 1) k = k := by show (if _ then _ else _) = _; rw [if_pos (by rw [e]; rfl)]
      rw [e1] at h2
      refine z_bf (fun r => ?_) ?_
      · rw [← sh_s, sh_n (by omega)] at r
        omega
      · have r := h2 x (by omega) e hx c2
        rw [← z_add, ← z_mul] at r
        exact r
end FB
