/-! RENDERING: variables by scopes. A scope and one more is told; 0 is the data -/
def e_fd (B : Nat → Nat) (V : Nat → Nat → Option rv) (l : Nat) : Nat → Nat → Nat
  | 0, _ => 0
  | n + 1, x => if x = 0 then 0 else if (V (x - 1) l).isSome = true then x else e_fd B V l n (B (x - 1))
def e_wk (B : Nat → Nat) (t : Nat) : Nat → Nat → Nat
  | 0, x => x
  | n + 1, x => if t < x then e_wk B t n (B (x - 1)) else x
def e_vl (D : Nat → rv) (B : Nat → Nat) (V : Nat → Nat → Option rv) (l x : Nat) : rv := if e_fd B V l x x = 0 then D l else (V (e_fd B V l x x - 1) l).getD rv_0
/-- what is told to the fragments that are made: M of them, S the scope of each one -/
def e_na (B : Nat → Nat) (M : Nat) (S : Nat → Nat) (l x y : Nat) (ra : Nat → Int32) : Nat → Int32 := fun k => if k < M ∧ ¬ S k < y ∧ e_wk B (S k) x x ≠ 0 then ra k ||| mm_shl (nI 1) (nI l) else ra k
def e_nd (B : Nat → Nat) (M : Nat) (S : Nat → Nat) (l x y : Nat) (rd : Nat → Int32) : Nat → Int32 := fun k => if k < M ∧ ¬ S k < y ∧ e_wk B (S k) x x = 0 then rd k ||| mm_shl (nI 1) (nI l) else rd k
/-- one less, or none -/
def sh (x : Nat) : Int32 := if x = 0 then Int32.ofInt (-1) else nI (x - 1)
theorem sh_0 : sh 0 = Int32.ofInt (-1) := rfl
theorem sh_s {x : Nat} : sh (x + 1) = nI x := rfl
theorem sh_m {x : Nat} : nI x - nI 1 = sh x := by
  cases x with
  | zero => decide
  | succ x => rw [z_sub (by omega)]; rfl
theorem sh_p {x : Nat} : nI x + Int32.ofInt (-1) = sh x := by
  cases x with
  | zero => decide
  | succ x => exact pk_m1 x
theorem sh_n {x : Nat} (hx : x < 2 ^ 31) : (sh x = Int32.ofInt (-1)) = (x = 0) := by
  cases x with
  | zero => exact propext ⟨fun _ => rfl, fun _ => rfl⟩
  | succ x =>
    refine propext ⟨fun q => ?_, fun q => absurd q (by omega)⟩
    have h := nI_pos (n := x) (by omega)
    rw [sh_s] at q
    rw [q] at h
    exact absurd (show Int32.ofInt (-1) < 0 by decide) h
theorem sh_l {x : Nat} (hx : x < 2 ^ 31) : (sh x < nI 0) = (x = 0) := by
  cases x with
  | zero => exact propext ⟨fun _ => rfl, fun _ => by decide⟩
  | succ x => rw [sh_s, z_lt (by omega) (by decide)]; exact propext ⟨fun q => by omega, fun q => by omega⟩
theorem sh_t {x t : Nat} (hx : x < 2 ^ 31) (ht : t < 2 ^ 31) : (sh x < nI t) = (x ≤ t) := by
  cases x with
  | zero =>
    refine propext ⟨fun _ => Nat.zero_le _, fun _ => ?_⟩
    rw [sh_0, Int32.lt_iff_toInt_lt, nI_toInt ht]
    have : (Int32.ofInt (-1)).toInt = -1 := by decide
    omega
  | succ x => rw [sh_s, z_lt (by omega) (by omega)]; exact propext ⟨fun q => by omega, fun q => by omega⟩
theorem e_fd_le {B : Nat → Nat} {V : Nat → Nat → Option rv} {l : Nat} (hB : ∀ s, B s ≤ s) : ∀ {n x : Nat}, e_fd B V l n x ≤ x
  | 0, x => Nat.zero_le _
  | n + 1, x => by
    unfold e_fd
    by_cases h : x = 0
    · rw [if_pos h]; exact Nat.zero_le _
    · rw [if_neg h]
      by_cases h2 : (V (x - 1) l).isSome = true
      · rw [if_pos h2]; exact Nat.le_refl _
      · rw [if_neg h2]
        have := e_fd_le (V := V) (l := l) hB (n := n) (x := B (x - 1))
        have := hB (x - 1)
        omega
theorem e_fd_f {B : Nat → Nat} {V : Nat → Nat → Option rv} {l : Nat} (hB : ∀ s, B s ≤ s) : ∀ {n m x : Nat}, x ≤ n → x ≤ m → e_fd B V l n x = e_fd B V l m x
  | 0, m, x, hn, hm => by
    have h0 : x = 0 := by omega
    subst h0
    cases m with
    | zero => rfl
    | succ m => exact (if_pos rfl).symm
  | n + 1, 0, x, hn, hm => by
    have h0 : x = 0 := by omega
    subst h0
    exact if_pos rfl
  | n + 1, m + 1, x, hn, hm => by
    by_cases h : x = 0
    · subst h
      exact (if_pos rfl).trans (if_pos rfl).symm
    · have := hB (x - 1)
      have ih := e_fd_f (V := V) (l := l) hB (n := n) (m := m) (x := B (x - 1)) (by omega) (by omega)
      unfold e_fd
      rw [ih]
theorem e_wk_f {B : Nat → Nat} {t : Nat} (hB : ∀ s, B s ≤ s) : ∀ {n m x : Nat}, x ≤ n → x ≤ m → e_wk B t n x = e_wk B t m x
  | 0, m, x, hn, hm => by
    have h0 : x = 0 := by omega
    subst h0
    cases m with
    | zero => rfl
    | succ m => exact (if_neg (by omega)).symm
  | n + 1, 0, x, hn, hm => by
    have h0 : x = 0 := by omega
    subst h0
    exact if_neg (by omega)
  | n + 1, m + 1, x, hn, hm => by
    by_cases h : t < x
    · have := hB (x - 1)
      have ih := e_wk_f (t := t) hB (n := n) (m := m) (x := B (x - 1)) (by omega) (by omega)
      unfold e_wk
      rw [ih]
    · unfold e_wk
      rw [if_neg h, if_neg h]
theorem e_wk_le {B : Nat → Nat} {t : Nat} (hB : ∀ s, B s ≤ s) : ∀ {n x : Nat}, e_wk B t n x ≤ x
  | 0, x => Nat.le_refl _
  | n + 1, x => by
    unfold e_wk
    by_cases h : t < x
    · rw [if_pos h]
      have := e_wk_le (t := t) hB (n := n) (x := B (x - 1))
      have := hB (x - 1)
      omega
    · rw [if_neg h]; exact Nat.le_refl _
/-- one step of looking -/
theorem e_fd_s {B : Nat → Nat} {V : Nat → Nat → Option rv} {l x : Nat} (hB : ∀ s, B s ≤ s) (hx : x ≠ 0) : e_fd B V l x x = if (V (x - 1) l).isSome = true then x else e_fd B V l (B (x - 1)) (B (x - 1)) := by
  obtain ⟨y, rfl⟩ : ∃ y, x = y + 1 := ⟨x - 1, by omega⟩
  have h1 := hB y
  show (if y + 1 = 0 then 0 else if (V (y + 1 - 1) l).isSome = true then y + 1 else e_fd B V l y (B (y + 1 - 1))) = _
  rw [if_neg (by omega), Nat.add_sub_cancel, e_fd_f hB (n := y) (m := B y) (x := B y) h1 (Nat.le_refl _)]
theorem e_wk_s {B : Nat → Nat} {t x : Nat} (hB : ∀ s, B s ≤ s) : e_wk B t x x = if t < x then e_wk B t (B (x - 1)) (B (x - 1)) else x := by
  by_cases h : t < x
  · obtain ⟨y, rfl⟩ : ∃ y, x = y + 1 := ⟨x - 1, by omega⟩
    have h1 := hB y
    show (if t < y + 1 then e_wk B t y (B (y + 1 - 1)) else y + 1) = _
    rw [if_pos h, if_pos h, Nat.add_sub_cancel, e_wk_f hB (n := y) (m := B y) (x := B y) h1 (Nat.le_refl _)]
  · rw [if_neg h]
    cases x with
    | zero => rfl
    | succ x => exact if_neg h
theorem z_or0 {x : Int32} : x ||| nI 0 = x := by
  have h : nI 0 = 0 := by decide
  rw [h]
  exact Int32.or_zero
/-! the model's variables -/
/-- N scopes, what lies behind each one, what each one has -/
def me (f : mm_F) (D : Nat → rv) (N : Nat) (B : Nat → Nat) (V : Nat → Nat → Option rv) : Prop := N ≤ 400 ∧ (∀ s, s < N → f 1733 s = sh (B s)) ∧ ∃ vc, vc ≤ 320 ∧ f 1714 30 = nI vc ∧ (∀ k, k < vc → ∃ s l v, s < N ∧ l < 26 ∧ f 1735 k = nI s ∧ f 1736 k = nI l ∧ V s l = some v ∧ mv f k v ∧ rv_in D v) ∧ ∀ s l v, V s l = some v → s < N ∧ l < 26 ∧ rv_in D v ∧ ∃ k, k < vc ∧ f 1735 k = nI s ∧ f 1736 k = nI l
section ME
variable {Gm : mj_G} {D : Nat → rv} {I : Nat → Nat → rv} {f : mm_F} {N M d l x : Nat} {B S : Nat → Nat} {V : Nat → Nat → Option rv} {v : rv}
theorem me_f {P S R : Nat → Prop} {f' : mm_F} (h : me f D N B V) (hF : mw P S R f f') (hP : ∀ i, P i → 320 ≤ i) (hS : ¬ S 30) (hR : ∀ a, R a → a ≠ 1733 ∧ a ≠ 1735 ∧ a ≠ 1736) : me f' D N B V := by
  obtain ⟨h1, h2, vc, h3, h4, h5, h6⟩ := h
  have e : ∀ a i, a = 1733 ∨ a = 1735 ∨ a = 1736 → f' a i = f a i := fun a i q => hF.1 a i (by omega) (by omega) (fun r => by have := hR a r; omega)
  refine ⟨h1, fun s hs => (e _ _ (Or.inl rfl)).trans (h2 s hs), vc, h3, (hF.2.1 30 hS).trans h4, fun k hk => ?_, fun s l v q => ?_⟩
  · obtain ⟨s, l, v, g1, g2, g3, g4, g5, g6, g7⟩ := h5 k hk
    exact ⟨s, l, v, g1, g2, (e _ _ (Or.inr (Or.inl rfl))).trans g3, (e _ _ (Or.inr (Or.inr rfl))).trans g4, g5, mq_st g6 hF (fun r => by have := hP k r; omega) g7.1, g7⟩
  · obtain ⟨g1, g2, g3, k, g4, g5, g6⟩ := h6 s l v q
    exact ⟨g1, g2, g3, k, g4, (e _ _ (Or.inr (Or.inl rfl))).trans g5, (e _ _ (Or.inr (Or.inr rfl))).trans g6⟩
theorem p_variableIn {s : Nat} {K : Int32 → mm_F → Prop} (hM : mm_S Gm) (hE : me f D N B V) (hs : s < N) (hl : l < 26) (h1 : V s l = none → K (Int32.ofInt (-1)) f) (h2 : ∀ k v, k < 320 → f 1735 k = nI s → V s l = some v → mv f k v → rv_in D v → K (nI k) f) : m_variableIn Gm d (nI s) (nI l) f K := by
  obtain ⟨hN, -, vc, hv, h30, h5, h6⟩ := hE
  have go : ∀ j, j ≤ vc → (∀ k, j ≤ k → k < vc → ¬ (f 1735 k = nI s ∧ f 1736 k = nI l)) → m_variableIn_7 Gm d (nI s) (nI l) (sh j) f K := fun j => by
    induction j with
    | zero =>
      intro _ hno
      refine w_m_variableIn_7 hM (z_bt (by rw [sh_l (by decide)]) (h1 ?_))
      cases hV : V s l with
      | none => rfl
      | some v =>
        obtain ⟨-, -, -, k, g1, g2, g3⟩ := h6 s l v hV
        exact absurd ⟨g2, g3⟩ (hno k (Nat.zero_le _) g1)
    | succ j ih =>
      intro hj hno
      obtain ⟨s', l', v, g1, g2, g3, g4, g5, g6, g7⟩ := h5 j (by omega)
      refine w_m_variableIn_7 hM (z_bf (by rw [sh_l (by omega)]; omega) ?_)
      rw [sh_s]
      have nx : ¬ (f 1735 j = nI s ∧ f 1736 j = nI l) → m_variableIn_7 Gm d (nI s) (nI l) (nI j + Int32.ofInt (-1)) f K := fun q => by
        rw [sh_p]
        exact ih (by omega) (fun k a b => by
          by_cases e : k = j
          · rw [e]; exact q
          · exact hno k (by omega) b)
      refine z_ixi (by omega) (by decide) (z_br (fun q => z_ixi (by omega) (by decide) (z_br (fun q1 => ?_) (fun q1 => nx (fun r => q1 r.2)))) (fun q => nx (fun r => q r.1)))
      rw [g3, z_eq (by omega) (by omega)] at q
      rw [g4, z_eq (by omega) (by omega)] at q1
      rw [q, q1] at g5
      exact h2 j v (by omega) (by rw [← q]; exact g3) g5 g6 g7
  refine w_m_variableIn hM ?_
  rw [h30, sh_m]
  exact go vc (Nat.le_refl _) (fun k a b => absurd b (by omega))
/-- where a variable is found: none, or its place -/
def e_ok (f : mm_F) (D : Nat → rv) (B : Nat → Nat) (V : Nat → Nat → Option rv) (l x k : Nat) : Prop := k < 320 ∧ e_fd B V l x x ≠ 0 ∧ f 1735 k = nI (e_fd B V l x x - 1) ∧ mv f k (e_vl D B V l x) ∧ rv_in D (e_vl D B V l x)
theorem p_variableFrom2 {K : Int32 → mm_F → Prop} (hM : mm_S Gm) (hE : me f D N B V) (hB : ∀ s, B s ≤ s) (hl : l < 26) : ∀ {n x : Nat}, x ≤ n → x ≤ N → (e_fd B V l x x = 0 → K (Int32.ofInt (-1)) f) → (∀ k, e_ok f D B V l x k → K (nI k) f) → m_variableFrom_2 Gm (d + 1) (nI l) (sh x) f K
  | 0, x, hn, hx, h1, h2 => by
    have h0 : x = 0 := by omega
    subst h0
    exact w_m_variableFrom_2 hM (z_bt rfl (z_bt rfl (h1 rfl)))
  | n + 1, x, hn, hx, h1, h2 => by
    have hN := hE.1
    by_cases h0 : x = 0
    · subst h0
      exact w_m_variableFrom_2 hM (z_bt rfl (z_bt rfl (h1 rfl)))
    · obtain ⟨y, rfl⟩ : ∃ y, x = y + 1 := ⟨x - 1, by omega⟩
      have e := e_fd_s (V := V) (l := l) hB h0
      rw [Nat.add_sub_cancel] at e
      have hby := hB y
      have hne : ¬ sh (y + 1) = Int32.ofInt (-1) := by rw [sh_n (by omega)]; exact h0
      refine w_m_variableFrom_2 hM (z_bf hne ?_)
      rw [sh_s]
      have hk1 : ∀ k, k < 320 → ¬ nI k = Int32.ofInt (-1) := fun k hk q => by
        rw [← sh_s, sh_n (by omega)] at q
        omega
      refine p_variableIn hM hE (by omega) hl (fun hV => z_bt rfl (z_ixi (by omega) (by decide) ?_)) (fun k v g1 g2 g3 g4 g5 => z_bf (hk1 k g1) (z_bf (by rw [← sh_s]; exact hne) (p_variableIn hM hE (by omega) hl (fun hV => absurd (g3.symm.trans hV) (by simp)) (fun k v g1 g2 g3 g4 g5 => h2 k ?_))))
      · rw [hE.2.1 y (by omega)]
        have e2 : e_fd B V l (y + 1) (y + 1) = e_fd B V l (B y) (B y) := by rw [e, hV]; rfl
        have e3 : e_vl D B V l (y + 1) = e_vl D B V l (B y) := by unfold e_vl; rw [e2]
        refine p_variableFrom2 hM hE hB hl (n := n) (x := B y) (by omega) (by omega) (fun q => h1 (e2.trans q)) (fun k hk => h2 k ?_)
        unfold e_ok at hk ⊢
        rw [e2, e3]
        exact hk
      · have e2 : e_fd B V l (y + 1) (y + 1) = y + 1 := by rw [e, g3]; rfl
        have e3 : e_vl D B V l (y + 1) = v := by unfold e_vl; rw [e2, if_neg (by omega), Nat.add_sub_cancel, g3]; rfl
        unfold e_ok
        rw [e2, e3]
        exact ⟨g1, by omega, g2, g4, g5⟩
theorem p_variableFrom {K : Int32 → mm_F → Prop} (hM : mm_S Gm) (hE : me f D N B V) (hB : ∀ s, B s ≤ s) (hl : l < 26) (hx : x ≤ N) (h1 : e_fd B V l x x = 0 → K (Int32.ofInt (-1)) f) (h2 : ∀ k, e_ok f D B V l x k → K (nI k) f) : m_variableFrom Gm (d + 1) (sh x) (nI l) f K :=
  w_m_variableFrom hM (p_variableFrom2 hM hE hB hl (Nat.le_refl _) hx h1 h2)
/-- the notes of the fragments that are made -/
def mn (f : mm_F) (N M : Nat) (S : Nat → Nat) (ra rd : Nat → Int32) : Prop := M ≤ 12 ∧ f 1714 44 = nI M ∧ ∀ k, k < M → S k < N ∧ f 1745 k = nI (S k) ∧ f 1746 k = ra k ∧ f 1747 k = rd k
def R_n (a : Nat) : Prop := a = 1746 ∨ a = 1747
theorem p_notes {y : Nat} {c : Int32} {ra rd : Nat → Int32} {K : mm_F → Prop} (hM : mm_S Gm) (hE : me f D N B V) (hn : mn f N M S ra rd) (hB : ∀ s, B s ≤ s) (hl : l < 26) (hx : x ≤ N) (hy : (y = 0 ∧ c = Int32.ofInt (-1)) ∨ (y ≠ 0 ∧ y ≤ N ∧ ∃ k, k < 320 ∧ c = nI k ∧ f 1735 k = nI (y - 1)))
    (hK : ∀ f', mw no_R no_R R_n f f' → mn f' N M S (e_na B M S l x y ra) (e_nd B M S l x y rd) → K f') : m_notes Gm d (sh x) (nI l) c f K := by
  obtain ⟨hM12, h44, hk⟩ := hn
  have hN := hE.1
  -- one fragment after another
  have go : ∀ m k f1, k + m = M → mw no_R no_R R_n f f1 → (∀ i, i < M → f1 1746 i = (if i < k then e_na B M S l x y ra i else ra i) ∧ f1 1747 i = (if i < k then e_nd B M S l x y rd i else rd i)) → m_notes_3 Gm d (sh x) (nI l) c (nI k) f1 K := fun m => by
    induction m with
    | zero =>
      intro k f1 hkm F g
      refine w_m_notes_3 hM (z_bt ?_ (hK f1 F ⟨hM12, (F.2.1 44 (fun q => q)).trans h44, fun i hi => ?_⟩))
      · rw [F.2.1 44 (fun q => q), h44, z_le (by omega) (by omega)]; omega
      · obtain ⟨a1, a2, -⟩ := hk i hi
        obtain ⟨b1, b2⟩ := g i hi
        rw [if_pos (by omega)] at b1 b2
        exact ⟨a1, (F.1 1745 i (by decide) (by decide) (by unfold R_n; decide)).trans a2, b1, b2⟩
    | succ m ih =>
      intro k f1 hkm F g
      obtain ⟨a1, a2, -⟩ := hk k (by omega)
      have f45 : f1 1745 k = nI (S k) := (F.1 1745 k (by decide) (by decide) (by unfold R_n; decide)).trans a2
      have f33 : ∀ s, s < N → f1 1733 s = sh (B s) := fun s hs => (F.1 1733 s (by decide) (by decide) (by unfold R_n; decide)).trans (hE.2.1 s hs)
      refine w_m_notes_3 hM (z_bf ?_ ?_)
      · rw [F.2.1 44 (fun q => q), h44, z_le (by omega) (by omega)]; omega
      obtain ⟨g1, g2⟩ := g k (by omega)
      rw [if_neg (Nat.lt_irrefl k)] at g1 g2
      -- the next one
      have nx : ∀ u v, u = e_na B M S l x y ra k → v = e_nd B M S l x y rd k → m_notes_3 Gm d (sh x) (nI l) c (nI k + nI 1) (mj_u2 (mj_u2 f1 1746 k u) 1747 k v) K := fun u v hu hv => by
        rw [z_add]
        refine ih (k + 1) _ (by omega) (mw_t F (mw_t (mw_R (by decide) (Or.inl rfl)) (mw_R (by decide) (Or.inr rfl)))) (fun i hi => ?_)
        obtain ⟨b1, b2⟩ := g i hi
        by_cases e : i = k
        · rw [e, if_pos (by omega), if_pos (by omega)]
          exact ⟨(z_u2n (by decide)).trans (z_u2s.trans hu), z_u2s.trans hv⟩
        · by_cases e1 : i < k
          · rw [if_pos e1] at b1 b2
            rw [if_pos (by omega), if_pos (by omega)]
            exact ⟨(z_u2n (by decide)).trans ((z_u2m e).trans b1), (z_u2m e).trans ((z_u2n (by decide)).trans b2)⟩
          · rw [if_neg e1] at b1 b2
            rw [if_neg (by omega), if_neg (by omega)]
            exact ⟨(z_u2n (by decide)).trans ((z_u2m e).trans b1), (z_u2m e).trans ((z_u2n (by decide)).trans b2)⟩
      -- the end of the walk
      have fin : ∀ w s0, w < 2 ^ 31 → w = e_wk B (S k) x x → ((s0 = 0 ∧ ¬ S k < y) ∨ (s0 = 1 ∧ S k < y)) → m_notes_65 Gm d (sh x) (nI l) c (nI k) (sh w) (nI s0) f1 K := fun w s0 hw31 hw hs0 => by
        have h0 : (nI s0 = nI 0) = (¬ S k < y) := by
          rw [z_eq (by omega) (by decide)]
          exact propext ⟨fun q => by omega, fun q => by omega⟩
        have g47 : ∀ u, (mj_u2 f1 1746 k u) 1747 k = f1 1747 k := fun u => z_u2n (by decide)
        refine w_m_notes_65 hM (z_ixi (by omega) (by decide) ?_)
        rw [h0, sh_n hw31]
        have ea : e_na B M S l x y ra k = if ¬ S k < y ∧ w ≠ 0 then ra k ||| mm_shl (nI 1) (nI l) else ra k := by
          unfold e_na
          rw [← hw]
          by_cases q : ¬ S k < y ∧ w ≠ 0
          · rw [if_pos q, if_pos ⟨by omega, q⟩]
          · rw [if_neg q, if_neg (fun r => q r.2)]
        have ed : e_nd B M S l x y rd k = if ¬ S k < y ∧ w = 0 then rd k ||| mm_shl (nI 1) (nI l) else rd k := by
          unfold e_nd
          rw [← hw]
          by_cases q : ¬ S k < y ∧ w = 0
          · rw [if_pos q, if_pos ⟨by omega, q⟩]
          · rw [if_neg q, if_neg (fun r => q r.2)]
        refine z_br (fun q => z_br (fun q1 => ?_) (fun q1 => ?_)) (fun q => ?_)
        · refine z_ixi (by omega) (by decide) (z_ixi (by omega) (by decide) (z_bt q (z_bt q1 (z_ixi (by omega) (by decide) ?_))))
          rw [g47, g1, g2, z_or0]
          exact nx _ _ (by rw [ea, if_neg (fun r => r.2 q1)]) (by rw [ed, if_pos ⟨q, q1⟩])
        · refine z_ixi (by omega) (by decide) (z_ixi (by omega) (by decide) (z_bt q (z_bf q1 (z_ixi (by omega) (by decide) ?_))))
          rw [g47, g1, g2, z_or0]
          exact nx _ _ (by rw [ea, if_pos ⟨q, q1⟩]) (by rw [ed, if_neg (fun r => q1 r.2)])
        · refine z_ixi (by omega) (by decide) (z_ixi (by omega) (by decide) (z_bf q (z_ixi (by omega) (by decide) ?_)))
          rw [g47, g1, g2, z_or0, z_or0]
          exact nx _ _ (by rw [ea, if_neg (fun r => q r.1)]) (by rw [ed, if_neg (fun r => q r.1)])
      -- the walk
      have wk : ∀ n z, z ≤ n → z ≤ N → e_wk B (S k) z z = e_wk B (S k) x x → m_notes_15 Gm d (sh x) (nI l) c (nI k) (sh z) f1 K := fun n => by
        induction n with
        | zero =>
          intro z hz hzN hw
          have h0 : z = 0 := by omega
          subst h0
          refine w_m_notes_15 hM (z_ixi (by omega) (by decide) ?_)
          rw [f45, sh_t (by decide) (by omega)]
          refine z_bt (Nat.zero_le _) ?_
          rcases hy with ⟨y1, y2⟩ | ⟨y1, y2, j, y3, y4, y5⟩
          · rw [y2]
            exact z_bt rfl (by rw [← y2]; exact fin 0 0 (by decide) hw (Or.inl ⟨rfl, by omega⟩))
          · rw [y4, show (nI j = Int32.ofInt (-1)) = (j + 1 = 0) from by rw [← sh_s, sh_n (by omega)]]
            have f35 : f1 1735 j = nI (y - 1) := (F.1 1735 j (by decide) (by decide) (by unfold R_n; decide)).trans y5
            refine z_bf (by omega) (z_ixi y3 (by decide) (z_ixi (by omega) (by decide) ?_))
            rw [f35, f45, z_lt (by omega) (by omega), ← y4]
            exact z_br (fun q => fin 0 0 (by decide) hw (Or.inl ⟨rfl, by omega⟩)) (fun q => fin 0 1 (by decide) hw (Or.inr ⟨rfl, by omega⟩))
        | succ n ihn =>
          intro z hz hzN hw
          refine w_m_notes_15 hM (z_ixi (by omega) (by decide) ?_)
          rw [f45, sh_t (by omega) (by omega)]
          refine z_br (fun q => ?_) (fun q => ?_)
          · have hw' : z = e_wk B (S k) x x := by
              rw [← hw, e_wk_s hB, if_neg (by omega)]
            rcases hy with ⟨y1, y2⟩ | ⟨y1, y2, j, y3, y4, y5⟩
            · rw [y2]
              exact z_bt rfl (by rw [← y2]; exact fin z 0 (by omega) hw' (Or.inl ⟨rfl, by omega⟩))
            · rw [y4, show (nI j = Int32.ofInt (-1)) = (j + 1 = 0) from by rw [← sh_s, sh_n (by omega)]]
              have f35 : f1 1735 j = nI (y - 1) := (F.1 1735 j (by decide) (by decide) (by unfold R_n; decide)).trans y5
              refine z_bf (by omega) (z_ixi y3 (by decide) (z_ixi (by omega) (by decide) ?_))
              rw [f35, f45, z_lt (by omega) (by omega), ← y4]
              exact z_br (fun q => fin z 0 (by omega) hw' (Or.inl ⟨rfl, by omega⟩)) (fun q => fin z 1 (by omega) hw' (Or.inr ⟨rfl, by omega⟩))
          · obtain ⟨z', rfl⟩ : ∃ z', z = z' + 1 := ⟨z - 1, by omega⟩
            have hb := hB z'
            rw [sh_s]
            refine z_ixi (by omega) (by decide) ?_
            rw [f33 z' (by omega)]
            refine ihn (B z') (by omega) (by omega) ?_
            rw [← hw, e_wk_s hB (x := z' + 1), if_pos (by omega), Nat.add_sub_cancel]
      exact wk x x (Nat.le_refl _) hx rfl
  exact w_m_notes hM (go M 0 f (by omega) mw_r (fun i hi => ⟨by rw [if_neg (Nat.not_lt_zero i)]; exact (hk i hi).2.2.1, by rw [if_neg (Nat.not_lt_zero i)]; exact (hk i hi).2.2.2⟩))
/-- the value of a variable in a place behind the variables -/
theorem p_takesFrom {k : Nat} {K : mm_F → Prop} (hM : mm_S Gm) (hD : md f D I) (hE : me f D N B V) (hB : ∀ s, B s ≤ s) (hl : l < 26) (hx : x ≤ N) (hk : 320 ≤ k) (hk2 : k < 380) (hK : ∀ f', mw (fun q => q = k) no_R no_R f f' → mv f' k (e_vl D B V l x) → K f') : m_takesFrom Gm (d + 2) (sh x) (nI l) (nI k) f K := by
  refine w_m_takesFrom hM (p_variableFrom hM hE hB hl hx (fun q => z_bt rfl (p_takesData hM hk2 hD hl (fun f1 F1 v1 => hK f1 F1 ?_))) (fun j hj => ?_))
  · unfold e_vl
    rw [if_pos q]
    exact v1
  · obtain ⟨j1, j2, j3, j4, j5⟩ := hj
    rw [show (nI j = Int32.ofInt (-1)) = (j + 1 = 0) from by rw [← sh_s, sh_n (by omega)]]
    exact z_bf (by omega) (p_moves hM (by omega) hk2 (by omega) j4 j5.1 hK)
end ME
