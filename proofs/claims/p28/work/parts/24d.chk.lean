/-! CHECKS that the kernel decides -/
def mv_eqC (a b : mv_C) : Bool := (Nat.beq a.1 b.1 && Nat.beq a.2.1 b.2.1) && (decide (a.2.2.1 = b.2.2.1) && (decide (a.2.2.2.1 = b.2.2.2.1) && decide (a.2.2.2.2 = b.2.2.2.2)))
def mv_eqL {α : Type} (e : α → α → Bool) : List α → List α → Bool
  | [], [] => true
  | x :: xs, y :: ys => e x y && mv_eqL e xs ys
  | _, _ => false
def mv_eqH (a b : mv_H) : Bool := (Nat.beq a.1 b.1 && Nat.beq a.2.1 b.2.1) && mv_eqL (mv_eqL mv_eqC) a.2.2 b.2.2
def mv_ckP (r : Option (mv_L × List mv_V × mv_H × List Bool × mv_F)) (ls : mv_L) (st : List mv_V) (H : mv_H) : Bool := match r with
  | some (ls', st', H', [], []) => decide (ls' = ls) && (decide (st' = st) && mv_eqH H' H)
  | _ => false
def mv_ckE (r : Option (mv_O × mv_H × List Bool × mv_F)) (H : mv_H) : Bool := match r with
  | some (.inl none, H', [], []) => mv_eqH H' H
  | _ => false
theorem mv_eqC_e {a b : mv_C} (h : mv_eqC a b = true) : a = b := by
  unfold mv_eqC at h
  simp only [Bool.and_eq_true, decide_eq_true_eq] at h
  obtain ⟨⟨h1, h2⟩, h3, h4, h5⟩ := h
  exact Prod.ext (Nat.eq_of_beq_eq_true h1) (Prod.ext (Nat.eq_of_beq_eq_true h2) (Prod.ext h3 (Prod.ext h4 h5)))
theorem mv_eqL_e {α : Type} {e : α → α → Bool} (he : ∀ {a b}, e a b = true → a = b) : ∀ {a b : List α}, mv_eqL e a b = true → a = b
  | [], [], _ => rfl
  | x :: xs, y :: ys, h => by
    unfold mv_eqL at h
    rw [Bool.and_eq_true] at h
    rw [he h.1, mv_eqL_e he h.2]
  | [], _ :: _, h => by cases h
  | _ :: _, [], h => by cases h
theorem mv_eqH_e {a b : mv_H} (h : mv_eqH a b = true) : a = b := by
  unfold mv_eqH at h
  simp only [Bool.and_eq_true] at h
  exact Prod.ext (Nat.eq_of_beq_eq_true h.1.1) (Prod.ext (Nat.eq_of_beq_eq_true h.1.2) (mv_eqL_e (fun h => mv_eqL_e (fun h => mv_eqC_e h) h) h.2))
/-- a stretch that the kernel has walked -/
theorem mv_seg {ρ : Nat → Int32} {P f d mi pc : Nat} {x : Option (Nat × Int32)} {ls ls' : mv_L} {st st' : List mv_V} {H H' : mv_H} {Q : mj_O → mj_G → Prop} (hρ : ¬ ρ 0 < 0) (h : mv_ckP (mv_pv [] P x f d mi pc ls st H [] []) ls' st' H' = true) (hQ : mj_X d mi P (mv_dL ρ ls') (mv_dS ρ st') (mv_dG ρ H') Q) :
    mj_X d mi pc (mv_dL ρ ls) (mv_dS ρ st) (mv_dG ρ H) Q := by
  unfold mv_ckP at h
  split at h
  · rename_i ls2 st2 H2 he
    simp only [Bool.and_eq_true, decide_eq_true_eq] at h
    obtain ⟨rfl, rfl, h3⟩ := h
    obtain rfl := mv_eqH_e h3
    exact (mv_pv_e ⟨hρ, fun e h0 => absurd h0 List.not_mem_nil⟩ he).2 (fun z hz => absurd hz List.not_mem_nil) Q hQ
  · cases h
theorem mv_fin {ρ : Nat → Int32} {f d mi pc : Nat} {ls : mv_L} {st : List mv_V} {H H' : mv_H} (hρ : ¬ ρ 0 < 0) (h : mv_ckE (mv_ev [] f d mi pc ls st H [] []) H' = true) : mj_X d mi pc (mv_dL ρ ls) (mv_dS ρ st) (mv_dG ρ H) (fun a b => a = .inl none ∧ b = mv_dG ρ H') := by
  unfold mv_ckE at h
  split at h
  · rename_i H2 he
    obtain rfl := mv_eqH_e h
    exact ⟨f, (mv_ev_e ⟨hρ, fun e h0 => absurd h0 List.not_mem_nil⟩ he).2 (fun z hz => absurd hz List.not_mem_nil)⟩
  · cases h
