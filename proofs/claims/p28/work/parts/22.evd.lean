/-! AN EVALUATOR for the small machine: heaps as lists, ints concrete or symbols; the kernel runs it -/
abbrev mv_I : Type := Int32 ⊕ Nat
abbrev mv_V : Type := mv_I ⊕ (Int64 ⊕ Nat)
abbrev mv_C : Type := Nat × Nat × List (Nat × mv_I) × List (Nat × Nat) × List (Nat × Int64)
abbrev mv_H : Type := Nat × Nat × List (List mv_C)
abbrev mv_F : Type := List (Nat × mv_I × mv_I × Bool)
abbrev mv_T : Type := List (Nat × mv_I × mv_I × mv_I)
abbrev mv_L : Type := List (Option mv_V)
def mv_li {α : Type} : List α → Nat → Option α
  | [], _ => none
  | x :: _, 0 => some x
  | _ :: xs, n + 1 => mv_li xs n
def mv_st {α : Type} : List α → Nat → α → List α
  | [], 0, v => [v]
  | [], _ + 1, _ => []
  | _ :: xs, 0, v => v :: xs
  | x :: xs, n + 1, v => x :: mv_st xs n v
def mv_get (l : List (List mv_C)) (a : Nat) : Option mv_C := match mv_li l (a / 32) with
  | some ch => mv_li ch (a % 32)
  | none => none
def mv_set (l : List (List mv_C)) (a : Nat) (c : mv_C) : List (List mv_C) := mv_st l (a / 32) (mv_st (match mv_li l (a / 32) with | some ch => ch | none => []) (a % 32) c)
def mv_lk {α : Type} (z : α) : List (Nat × α) → Nat → α
  | [], _ => z
  | (k, v) :: l, j => bif Nat.beq k j then v else mv_lk z l j
-- what they stand for
def mv_dI (ρ : Nat → Int32) : mv_I → Int32
  | .inl x => x
  | .inr k => ρ k
def mv_dV (ρ : Nat → Int32) : mv_V → mj_V
  | .inl x => .inl (mv_dI ρ x)
  | .inr x => .inr x
def mv_dL (ρ : Nat → Int32) (ls : mv_L) : List (Option mj_V) := ls.map (fun o => o.map (mv_dV ρ))
def mv_dS (ρ : Nat → Int32) (st : List mv_V) : List mj_V := st.map (mv_dV ρ)
def mv_kc (l : List (List mv_C)) (a : Nat) : Nat := match mv_get l a with | some c => c.1 | none => 0
def mv_lc (l : List (List mv_C)) (a : Nat) : Nat := match mv_get l a with | some c => c.2.1 | none => 0
def mv_ic (l : List (List mv_C)) (a k : Nat) : mv_I := match mv_get l a with | some c => mv_lk (.inl 0) c.2.2.1 k | none => .inl 0
def mv_rc (l : List (List mv_C)) (a k : Nat) : Nat := match mv_get l a with | some c => mv_lk 0 c.2.2.2.1 k | none => 0
def mv_jc (l : List (List mv_C)) (a k : Nat) : Int64 := match mv_get l a with | some c => mv_lk 0 c.2.2.2.2 k | none => 0
/-- cell 1 is the script: its length is the symbol 0, its ints are the symbols 1, 3, 5 .. -/
def mv_dG (ρ : Nat → Int32) (H : mv_H) : mj_G := (H.1, H.2.1, mv_kc H.2.2, fun a => if a = 1 then (ρ 0).toNatClampNeg else mv_lc H.2.2 a, fun a k => if a = 1 then ρ (2 * k + 1) else mv_dI ρ (mv_ic H.2.2 a k), mv_rc H.2.2, mv_jc H.2.2)
def mv_dO (ρ : Nat → Int32) : Option mv_V ⊕ Nat → mj_O
  | .inl v => .inl (v.map (mv_dV ρ))
  | .inr k => .inr k
-- locals, stack
def mv_g : mv_L → Nat → Option mv_V
  | [], _ => none
  | x :: _, 0 => x
  | _ :: xs, n + 1 => mv_g xs n
def mv_p : mv_L → Nat → Option mv_V → mv_L
  | [], _, _ => []
  | _ :: xs, 0, v => v :: xs
  | x :: xs, n + 1, v => x :: mv_p xs n v
def mv_isL (v : Option mv_V) : Bool := match v with
  | some (.inr (.inl _)) => true
  | _ => false
def mv_cl0 (ls : mv_L) (k : Nat) : mv_L := match k with
  | 0 => ls
  | k + 1 => bif mv_isL (mv_g ls k) then mv_p ls k none else ls
def mv_s (ls : mv_L) (k : Nat) (v : mv_V) : mv_L := mv_p (mv_cl0 ls k) k (some v)
def mv_sL (ls : mv_L) (k : Nat) (v : mv_V) : mv_L := mv_p (mv_p (mv_cl0 ls k) k (some v)) (k + 1) none
def mv_e : List mv_V → mv_L
  | [] => []
  | .inr (.inl x) :: vs => some (.inr (.inl x)) :: none :: mv_e vs
  | v :: vs => some v :: mv_e vs
def mv_en (vs : List mv_V) (n : Nat) : mv_L := mv_e vs ++ List.replicate (n - (mv_e vs).length) none
def mv_w : List mv_V → Nat
  | [] => 0
  | .inr (.inl _) :: vs => mv_w vs + 2
  | _ :: vs => mv_w vs + 1
def mv_tk : Nat → List mv_V → List mv_V → Option (List mv_V × List mv_V)
  | 0, acc, st => some (acc, st)
  | _ + 1, _, [] => none
  | n + 1, acc, v :: st => mv_tk n (v :: acc) st
-- laws
theorem mv_li_lt {α : Type} : ∀ {l : List α} {n : Nat} {v : α}, mv_li l n = some v → n < l.length
  | [], n, v, h => by simp [mv_li] at h
  | x :: xs, 0, v, h => by simp
  | x :: xs, n + 1, v, h => by
    have := mv_li_lt (l := xs) (n := n) (v := v) h
    simp only [List.length_cons]
    omega
theorem mv_li_st {α : Type} : ∀ {l : List α} {n : Nat} (v : α), n ≤ l.length → ∀ m, mv_li (mv_st l n v) m = if m = n then some v else mv_li l m
  | [], 0, v, _, m => by cases m <;> simp [mv_st, mv_li]
  | [], n + 1, v, h, m => by simp at h
  | x :: xs, 0, v, _, m => by cases m <;> simp [mv_st, mv_li]
  | x :: xs, n + 1, v, h, 0 => by simp [mv_st, mv_li]
  | x :: xs, n + 1, v, h, m + 1 => by
    simp only [mv_st, mv_li]
    rw [mv_li_st v (by simpa using h) m]
    simp
theorem mv_st_no {α : Type} : ∀ {l : List α} {n : Nat} (v : α), l.length < n → mv_st l n v = l
  | [], n + 1, v, _ => rfl
  | x :: xs, n + 1, v, h => by
    simp only [mv_st]
    rw [mv_st_no v (by simpa using h)]
theorem mv_st_chk {α : Type} {l : List α} {n : Nat} {v w : α} (h : mv_li (mv_st l n v) n = some w) : w = v ∧ ∀ m, mv_li (mv_st l n v) m = if m = n then some v else mv_li l m := by
  by_cases hn : n ≤ l.length
  · have h1 := mv_li_st v hn
    rw [h1, if_pos rfl] at h
    exact ⟨(Option.some.inj h).symm, h1⟩
  · rw [mv_st_no v (by omega)] at h
    have := mv_li_lt h
    omega
theorem mv_set_chk {l : List (List mv_C)} {a : Nat} {c w : mv_C} (h : mv_get (mv_set l a c) a = some w) : ∀ b, mv_get (mv_set l a c) b = if b = a then some c else mv_get l b := by
  intro b
  unfold mv_get mv_set at h ⊢
  generalize hch : (match mv_li l (a / 32) with | some ch => ch | none => []) = ch at h ⊢
  cases h1 : mv_li (mv_st l (a / 32) (mv_st ch (a % 32) c)) (a / 32) with
  | none => rw [h1] at h; cases h
  | some ch' =>
    rw [h1] at h
    obtain ⟨e1, e2⟩ := mv_st_chk h1
    subst e1
    obtain ⟨e3, e4⟩ := mv_st_chk (v := c) (l := ch) (n := a % 32) h
    rw [e2 (b / 32)]
    by_cases hd : b / 32 = a / 32
    · rw [if_pos hd]
      show mv_li (mv_st ch (a % 32) c) (b % 32) = _
      rw [e4 (b % 32)]
      by_cases hm : b % 32 = a % 32
      · rw [if_pos hm, if_pos (by omega)]
      · rw [if_neg hm, if_neg (by intro e; rw [e] at hm; exact hm rfl), hd]
        rw [← hch]
        cases mv_li l (a / 32) <;> rfl
    · rw [if_neg hd, if_neg (by intro e; rw [e] at hd; exact hd rfl)]
theorem mv_gL (ρ : Nat → Int32) : ∀ (ls : mv_L) (k : Nat), mj_g (mv_dL ρ ls) k = (mv_g ls k).map (mv_dV ρ)
  | [], _ => rfl
  | x :: xs, 0 => rfl
  | x :: xs, n + 1 => mv_gL ρ xs n
theorem mv_pL (ρ : Nat → Int32) : ∀ (ls : mv_L) (k : Nat) (v : Option mv_V), mv_dL ρ (mv_p ls k v) = mj_p (mv_dL ρ ls) k (v.map (mv_dV ρ))
  | [], _, _ => rfl
  | x :: xs, 0, v => rfl
  | x :: xs, n + 1, v => by
    show x.map (mv_dV ρ) :: mv_dL ρ (mv_p xs n v) = x.map (mv_dV ρ) :: mj_p (mv_dL ρ xs) n (v.map (mv_dV ρ))
    rw [mv_pL ρ xs n v]
theorem mv_isL_d (ρ : Nat → Int32) (v : Option mv_V) : mj_L (v.map (mv_dV ρ)) = mv_isL v := by
  rcases v with _ | x | x | x <;> rfl
theorem mv_cl0L (ρ : Nat → Int32) (ls : mv_L) (k : Nat) : mv_dL ρ (mv_cl0 ls k) = mj_cl0 (mv_dL ρ ls) k := by
  cases k with
  | zero => rfl
  | succ k =>
    unfold mv_cl0 mj_cl0
    dsimp only
    rw [mv_gL, mv_isL_d]
    cases mv_isL (mv_g ls k)
    · rfl
    · exact mv_pL ρ ls k none
theorem mv_sD (ρ : Nat → Int32) (ls : mv_L) (k : Nat) (v : mv_V) : mv_dL ρ (mv_s ls k v) = mj_s (mv_dL ρ ls) k (mv_dV ρ v) := by
  unfold mv_s mj_s
  rw [mv_pL, mv_cl0L]
  rfl
theorem mv_sLD (ρ : Nat → Int32) (ls : mv_L) (k : Nat) (v : mv_V) : mv_dL ρ (mv_sL ls k v) = mj_sL (mv_dL ρ ls) k (mv_dV ρ v) := by
  unfold mv_sL mj_sL
  rw [mv_pL, mv_pL, mv_cl0L]
  rfl
theorem mv_lenL (ρ : Nat → Int32) (ls : mv_L) : (mv_dL ρ ls).length = ls.length := List.length_map ..
theorem mv_eD (ρ : Nat → Int32) : ∀ vs : List mv_V, mv_dL ρ (mv_e vs) = mj_e (mv_dS ρ vs)
  | [] => rfl
  | .inr (.inl x) :: vs => by
    show some (.inr (.inl x)) :: none :: mv_dL ρ (mv_e vs) = some (.inr (.inl x)) :: none :: mj_e (mv_dS ρ vs)
    rw [mv_eD ρ vs]
  | .inl x :: vs => by
    show some (.inl (mv_dI ρ x)) :: mv_dL ρ (mv_e vs) = some (.inl (mv_dI ρ x)) :: mj_e (mv_dS ρ vs)
    rw [mv_eD ρ vs]
  | .inr (.inr x) :: vs => by
    show some (.inr (.inr x)) :: mv_dL ρ (mv_e vs) = some (.inr (.inr x)) :: mj_e (mv_dS ρ vs)
    rw [mv_eD ρ vs]
theorem mv_enD (ρ : Nat → Int32) (vs : List mv_V) (n : Nat) : mv_dL ρ (mv_en vs n) = mj_en (mv_dS ρ vs) n := by
  unfold mv_en mj_en
  rw [← mv_eD, mv_lenL]
  unfold mv_dL
  rw [List.map_append, List.map_replicate]
  rfl
theorem mv_wD (ρ : Nat → Int32) : ∀ vs : List mv_V, mj_w (mv_dS ρ vs) = mv_w vs
  | [] => rfl
  | .inr (.inl x) :: vs => by
    show mj_w (mv_dS ρ vs) + 2 = mv_w vs + 2
    rw [mv_wD ρ vs]
  | .inl x :: vs => by
    show mj_w (mv_dS ρ vs) + 1 = mv_w vs + 1
    rw [mv_wD ρ vs]
  | .inr (.inr x) :: vs => by
    show mj_w (mv_dS ρ vs) + 1 = mv_w vs + 1
    rw [mv_wD ρ vs]
theorem mv_tkD (ρ : Nat → Int32) : ∀ {n : Nat} {acc st as rest : List mv_V}, mv_tk n acc st = some (as, rest) → mj_tk n (mv_dS ρ acc) (mv_dS ρ st) = some (mv_dS ρ as, mv_dS ρ rest)
  | 0, acc, st, as, rest, h => by
    cases h
    rfl
  | n + 1, acc, [], as, rest, h => by cases h
  | n + 1, acc, v :: st, as, rest, h => mv_tkD ρ (n := n) (acc := v :: acc) (st := st) h
-- writes
def mv_wr (H : mv_H) (a : Nat) (c : mv_C) : Option mv_H := match mv_get (mv_set H.2.2 a c) a with
  | some _ => (bif Nat.beq a 1 then none else some (H.1, H.2.1, mv_set H.2.2 a c))
  | none => none
def mv_pI (H : mv_H) (a k : Nat) (v : mv_I) : Option mv_H := match mv_get H.2.2 a with
  | some c => mv_wr H a (c.1, c.2.1, (k, v) :: c.2.2.1, c.2.2.2.1, c.2.2.2.2)
  | none => none
def mv_pR (H : mv_H) (a k v : Nat) : Option mv_H := match mv_get H.2.2 a with
  | some c => mv_wr H a (c.1, c.2.1, c.2.2.1, (k, v) :: c.2.2.2.1, c.2.2.2.2)
  | none => none
def mv_pJ (H : mv_H) (a k : Nat) (v : Int64) : Option mv_H := match mv_get H.2.2 a with
  | some c => mv_wr H a (c.1, c.2.1, c.2.2.1, c.2.2.2.1, (k, v) :: c.2.2.2.2)
  | none => none
def mv_al (H : mv_H) (kind len : Nat) (row : List (Nat × mv_I)) : Option mv_H := match mv_get (mv_set H.2.2 H.1 (kind, len, row, [], [])) H.1 with
  | some _ => (bif Nat.beq H.1 1 then none else some (H.1 + 1, H.2.1 + len, mv_set H.2.2 H.1 (kind, len, row, [], [])))
  | none => none
theorem mv_wr_e {H H' : mv_H} {a : Nat} {c : mv_C} (h : mv_wr H a c = some H') : H'.1 = H.1 ∧ H'.2.1 = H.2.1 ∧ (∀ b, mv_get H'.2.2 b = if b = a then some c else mv_get H.2.2 b) ∧ a ≠ 1 := by
  unfold mv_wr at h
  split at h
  · rename_i w hw
    cases hb : Nat.beq a 1 with
    | true => rw [hb] at h; cases h
    | false =>
      rw [hb] at h
      cases h
      exact ⟨rfl, rfl, mv_set_chk hw, fun e => by rw [e] at hb; cases hb⟩
  · cases h
theorem mv_lk_c {α : Type} (z : α) (k : Nat) (v : α) (l : List (Nat × α)) (j : Nat) : mv_lk z ((k, v) :: l) j = if j = k then v else mv_lk z l j := by
  show (bif Nat.beq k j then v else mv_lk z l j) = _
  by_cases h : j = k
  · subst h
    rw [if_pos rfl, Nat.beq_refl]
    rfl
  · rw [if_neg h]
    cases hb : Nat.beq k j with
    | true => exact absurd (Nat.eq_of_beq_eq_true hb).symm h
    | false => rfl
theorem mv_pI_e {ρ : Nat → Int32} {H H' : mv_H} {a k : Nat} {v : mv_I} (h : mv_pI H a k v = some H') : mv_dG ρ H' = mj_pI (mv_dG ρ H) a k (mv_dI ρ v) := by
  unfold mv_pI at h
  split at h
  · rename_i c hc
    obtain ⟨h1, h2, h3, h4⟩ := mv_wr_e h
    unfold mv_dG mj_pI
    refine Prod.ext h1 (Prod.ext h2 (Prod.ext ?_ (Prod.ext ?_ (Prod.ext ?_ (Prod.ext ?_ ?_))))) <;> funext b
    · show mv_kc _ b = mv_kc _ b
      unfold mv_kc
      rw [h3 b]
      by_cases hb : b = a
      · rw [if_pos hb, hb, hc]
      · rw [if_neg hb]
    · show (if b = 1 then _ else mv_lc _ b) = (if b = 1 then _ else mv_lc _ b)
      congr 1
      unfold mv_lc
      rw [h3 b]
      by_cases hb : b = a
      · rw [if_pos hb, hb, hc]
      · rw [if_neg hb]
    · funext j
      show (if b = 1 then ρ (2 * j + 1) else mv_dI ρ (mv_ic _ b j)) = if b = a ∧ j = k then mv_dI ρ v else if b = 1 then ρ (2 * j + 1) else mv_dI ρ (mv_ic H.2.2 b j)
      unfold mv_ic
      rw [h3 b]
      by_cases hb : b = a
      · subst hb
        rw [if_pos rfl, if_neg h4, if_neg h4]
        dsimp only
        rw [hc]
        dsimp only
        rw [mv_lk_c]
        by_cases hj : j = k
        · rw [if_pos hj, if_pos ⟨rfl, hj⟩]
        · rw [if_neg hj, if_neg (fun h => hj h.2)]
      · rw [if_neg hb, if_neg (show ¬ (b = a ∧ j = k) from fun h => hb h.1)]
    · funext j
      show mv_rc _ b j = mv_rc _ b j
      unfold mv_rc
      rw [h3 b]
      by_cases hb : b = a
      · rw [if_pos hb, hb, hc]
      · rw [if_neg hb]
    · funext j
      show mv_jc _ b j = mv_jc _ b j
      unfold mv_jc
      rw [h3 b]
      by_cases hb : b = a
      · rw [if_pos hb, hb, hc]
      · rw [if_neg hb]
  · cases h
theorem mv_pR_e {ρ : Nat → Int32} {H H' : mv_H} {a k v : Nat} (h : mv_pR H a k v = some H') : mv_dG ρ H' = mj_pR (mv_dG ρ H) a k v := by
  unfold mv_pR at h
  split at h
  · rename_i c hc
    obtain ⟨h1, h2, h3, h4⟩ := mv_wr_e h
    unfold mv_dG mj_pR
    refine Prod.ext h1 (Prod.ext h2 (Prod.ext ?_ (Prod.ext ?_ (Prod.ext ?_ (Prod.ext ?_ ?_))))) <;> funext b
    · show mv_kc _ b = mv_kc _ b
      unfold mv_kc
      rw [h3 b]
      by_cases hb : b = a
      · rw [if_pos hb, hb, hc]
      · rw [if_neg hb]
    · show (if b = 1 then _ else mv_lc _ b) = (if b = 1 then _ else mv_lc _ b)
      congr 1
      unfold mv_lc
      rw [h3 b]
      by_cases hb : b = a
      · rw [if_pos hb, hb, hc]
      · rw [if_neg hb]
    · funext j
      show (if b = 1 then _ else mv_dI ρ (mv_ic _ b j)) = (if b = 1 then _ else mv_dI ρ (mv_ic _ b j))
      congr 1
      unfold mv_ic
      rw [h3 b]
      by_cases hb : b = a
      · rw [if_pos hb, hb, hc]
      · rw [if_neg hb]
    · funext j
      show mv_rc _ b j = mj_u2 (mv_rc H.2.2) a k v b j
      unfold mv_rc mj_u2
      rw [h3 b]
      by_cases hb : b = a
      · subst hb
        rw [if_pos rfl]
        dsimp only
        rw [hc]
        dsimp only
        rw [mv_lk_c]
        by_cases hj : j = k
        · rw [if_pos hj, if_pos ⟨rfl, hj⟩]
        · rw [if_neg hj, if_neg (fun h => hj h.2)]
      · rw [if_neg hb, if_neg (fun h => hb h.1)]
    · funext j
      show mv_jc _ b j = mv_jc _ b j
      unfold mv_jc
      rw [h3 b]
      by_cases hb : b = a
      · rw [if_pos hb, hb, hc]
      · rw [if_neg hb]
  · cases h
theorem mv_pJ_e {ρ : Nat → Int32} {H H' : mv_H} {a k : Nat} {v : Int64} (h : mv_pJ H a k v = some H') : mv_dG ρ H' = mj_pJ (mv_dG ρ H) a k v := by
  unfold mv_pJ at h
  split at h
  · rename_i c hc
    obtain ⟨h1, h2, h3, h4⟩ := mv_wr_e h
    unfold mv_dG mj_pJ
    refine Prod.ext h1 (Prod.ext h2 (Prod.ext ?_ (Prod.ext ?_ (Prod.ext ?_ (Prod.ext ?_ ?_))))) <;> funext b
    · show mv_kc _ b = mv_kc _ b
      unfold mv_kc
      rw [h3 b]
      by_cases hb : b = a
      · rw [if_pos hb, hb, hc]
      · rw [if_neg hb]
    · show (if b = 1 then _ else mv_lc _ b) = (if b = 1 then _ else mv_lc _ b)
      congr 1
      unfold mv_lc
      rw [h3 b]
      by_cases hb : b = a
      · rw [if_pos hb, hb, hc]
      · rw [if_neg hb]
    · funext j
      show (if b = 1 then _ else mv_dI ρ (mv_ic _ b j)) = (if b = 1 then _ else mv_dI ρ (mv_ic _ b j))
      congr 1
      unfold mv_ic
      rw [h3 b]
      by_cases hb : b = a
      · rw [if_pos hb, hb, hc]
      · rw [if_neg hb]
    · funext j
      show mv_rc _ b j = mv_rc _ b j
      unfold mv_rc
      rw [h3 b]
      by_cases hb : b = a
      · rw [if_pos hb, hb, hc]
      · rw [if_neg hb]
    · funext j
      show mv_jc _ b j = mj_u2 (mv_jc H.2.2) a k v b j
      unfold mv_jc mj_u2
      rw [h3 b]
      by_cases hb : b = a
      · subst hb
        rw [if_pos rfl]
        dsimp only
        rw [hc]
        dsimp only
        rw [mv_lk_c]
        by_cases hj : j = k
        · rw [if_pos hj, if_pos ⟨rfl, hj⟩]
        · rw [if_neg hj, if_neg (fun h => hj h.2)]
      · rw [if_neg hb, if_neg (fun h => hb h.1)]
  · cases h
theorem mv_al_e {ρ : Nat → Int32} {H H' : mv_H} {kind len : Nat} {row : List (Nat × mv_I)} (h : mv_al H kind len row = some H') : mv_dG ρ H' = mj_al (mv_dG ρ H) kind len (fun j => mv_dI ρ (mv_lk (.inl 0) row j)) ∧ mj_n (mv_dG ρ H) = H.1 := by
  refine ⟨?_, rfl⟩
  unfold mv_al at h
  split at h
  · rename_i w hw
    have h3 := mv_set_chk hw
    cases hb1 : Nat.beq H.1 1 with
    | true => rw [hb1] at h; cases h
    | false =>
    have h4 : H.1 ≠ 1 := fun e => by rw [e] at hb1; cases hb1
    rw [hb1] at h
    cases h
    unfold mv_dG mj_al
    refine Prod.ext rfl (Prod.ext rfl (Prod.ext ?_ (Prod.ext ?_ (Prod.ext ?_ (Prod.ext ?_ ?_))))) <;> funext b
    · show mv_kc _ b = mj_u1 (mv_kc H.2.2) H.1 kind b
      unfold mv_kc mj_u1
      rw [h3 b]
      by_cases hb : b = H.1
      · rw [if_pos hb, if_pos hb]
      · rw [if_neg hb, if_neg hb]
    · show (if b = 1 then (ρ 0).toNatClampNeg else mv_lc _ b) = if b = H.1 then len else if b = 1 then (ρ 0).toNatClampNeg else mv_lc H.2.2 b
      unfold mv_lc
      rw [h3 b]
      by_cases hb : b = H.1
      · rw [if_pos hb, if_pos hb, if_neg (by rw [hb]; exact h4)]
      · rw [if_neg hb, if_neg hb]
    · funext j
      show (if b = 1 then ρ (2 * j + 1) else mv_dI ρ (mv_ic _ b j)) = if b = H.1 then mv_dI ρ (mv_lk (.inl 0) row j) else if b = 1 then ρ (2 * j + 1) else mv_dI ρ (mv_ic H.2.2 b j)
      unfold mv_ic
      rw [h3 b]
      by_cases hb : b = H.1
      · rw [if_pos hb, if_pos hb, if_neg (by rw [hb]; exact h4)]
      · rw [if_neg hb, if_neg hb]
    · funext j
      show mv_rc _ b j = if b = H.1 then 0 else mv_rc H.2.2 b j
      unfold mv_rc
      rw [h3 b]
      by_cases hb : b = H.1
      · rw [if_pos hb, if_pos hb]; rfl
      · rw [if_neg hb, if_neg hb]
    · funext j
      show mv_jc _ b j = if b = H.1 then 0 else mv_jc H.2.2 b j
      unfold mv_jc
      rw [h3 b]
      by_cases hb : b = H.1
      · rw [if_pos hb, if_pos hb]; rfl
      · rw [if_neg hb, if_neg hb]
  · cases h
