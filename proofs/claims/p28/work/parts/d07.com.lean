/-! BODIES OF BODIES: what is met once twelve are open was met before -/
/-- a body's items: (0, _) a tag, (1, i) a fragment, (2, t) an include. Bodies that come to no end with so many more to open -/
def dead (b : Nat → List (Nat × Nat)) : Nat → List (Nat × Nat) → Prop
  | 0, l => ∃ t, (2, t) ∈ l
  | h + 1, l => ∃ t, (2, t) ∈ l ∧ dead b h (b t)
/-- which fragments have been met behind some items -/
def acc (b : Nat → List (Nat × Nat)) (D : Nat → Prop) (P : List (Nat × Nat)) (i : Nat) : Prop := D i ∨ (1, i) ∈ P ∨ ∃ t, (2, t) ∈ P ∧ (1, i) ∈ b t
/-- what has been met suffices -/
def Cx (b : Nat → List (Nat × Nat)) : Nat → (Nat → Prop) → List (Nat × Nat) → Prop
  | 0, D, l => ∀ P i l', l = P ++ (1, i) :: l' → (∀ t, ¬ (2, t) ∈ P) → D i
  | h + 1, D, l => ∀ P t l', l = P ++ (2, t) :: l' → (∀ t', (2, t') ∈ P → ¬ dead b h (b t')) → Cx b h (acc b D P) (b t)
def NP (b : Nat → List (Nat × Nat)) : Nat → List (Nat × Nat) → Prop
  | 0, P => ∀ t, ¬ (2, t) ∈ P
  | h + 1, P => ∀ t, (2, t) ∈ P → ¬ dead b h (b t)
theorem NP_dead {b : Nat → List (Nat × Nat)} : ∀ {h : Nat} {l : List (Nat × Nat)}, NP b h l → ¬ dead b h l
  | 0, _, hn, ⟨t, ht⟩ => hn t ht
  | _ + 1, _, hn, ⟨t, ht, hd⟩ => hn t ht hd
theorem LL {i t : Nat} {A B : List (Nat × Nat)} : ∀ {P P2 : List (Nat × Nat)}, P ++ (2, t) :: A = P2 ++ (1, i) :: B → (∀ t, ¬ (2, t) ∈ P2) → (1, i) ∈ P
  | [], [], h, _ => by
    have := (List.cons.inj h).1
    exact absurd (show (2 : Nat) = 1 from congrArg Prod.fst this) (by decide)
  | [], x :: P2, h, hn => by
    have e := (List.cons.inj h).1
    exact absurd (by rw [e]; exact List.mem_cons_self ..) (hn t)
  | y :: P, [], h, _ => by
    have e := (List.cons.inj h).1
    rw [e]
    exact List.mem_cons_self ..
  | y :: P, x :: P2, h, hn => by
    obtain ⟨e, h2⟩ := List.cons.inj h
    exact List.mem_cons_of_mem _ (LL h2 (fun t q => hn t (List.mem_cons_of_mem _ q)))
theorem LC2 {x y : Nat × Nat} {A B : List (Nat × Nat)} (hxy : x ≠ y) : ∀ {P P2 : List (Nat × Nat)}, P ++ x :: A = P2 ++ y :: B → y ∈ P ∨ x ∈ P2
  | [], [], h => absurd (List.cons.inj h).1 hxy
  | [], z :: P2, h => Or.inr (by rw [(List.cons.inj h).1]; exact List.mem_cons_self ..)
  | z :: P, [], h => Or.inl (by rw [(List.cons.inj h).1]; exact List.mem_cons_self ..)
  | z :: P, w :: P2, h => (LC2 hxy (List.cons.inj h).2).imp (List.mem_cons_of_mem _) (List.mem_cons_of_mem _)
theorem Cx_2 {b : Nat → List (Nat × Nat)} (hb : ∀ j, j = 1 ∨ j = 2 → ∀ t, (2, t) ∈ b j → t = 1 ∨ t = 2) {D : Nat → Prop} {j : Nat} (hj : j = 1 ∨ j = 2) : Cx b 2 D (b j) := by
  intro P tg l' e1 n1 P' t2 l2 e2 n2 P2 i l3 e3 n3
  have m1 : (2, tg) ∈ b j := by rw [e1]; exact List.mem_append.mpr (Or.inr (List.mem_cons_self ..))
  have m2 : (2, t2) ∈ b tg := by rw [e2]; exact List.mem_append.mpr (Or.inr (List.mem_cons_self ..))
  have m3 : (1, i) ∈ b t2 := by rw [e3]; exact List.mem_append.mpr (Or.inr (List.mem_cons_self ..))
  have h1 := hb j hj tg m1
  have h2 := hb tg h1 t2 m2
  by_cases q1 : t2 = tg
  · subst q1
    exact Or.inr (Or.inl (LL (e2.symm.trans e3) n3))
  · by_cases q2 : t2 = j
    · subst q2
      exact Or.inl (Or.inr (Or.inl (LL (e1.symm.trans e3) n3)))
    · have q3 : j = tg := by omega
      subst q3
      have ne : ((2, j) : Nat × Nat) ≠ (2, t2) := fun q => q1 (congrArg Prod.snd q).symm
      rcases LC2 ne (e1.symm.trans e2) with q | q
      · exact Or.inl (Or.inr (Or.inr ⟨t2, q, m3⟩))
      · exact absurd ⟨t2, m2⟩ (n2 j q)
theorem Cx_b {b : Nat → List (Nat × Nat)} (hb : ∀ j, j = 1 ∨ j = 2 → ∀ t, (2, t) ∈ b j → t = 1 ∨ t = 2) : ∀ {h : Nat} {D : Nat → Prop} {j : Nat}, j = 1 ∨ j = 2 → Cx b (h + 2) D (b j)
  | 0, _, _, hj => Cx_2 hb hj
  | h + 1, D, j, hj => by
    intro P t l' e1 _
    have m1 : (2, t) ∈ b j := by rw [e1]; exact List.mem_append.mpr (Or.inr (List.mem_cons_self ..))
    exact Cx_b hb (h := h) (hb j hj t m1)
theorem Cx_l {b : Nat → List (Nat × Nat)} (hb : ∀ j, j = 1 ∨ j = 2 → ∀ t, (2, t) ∈ b j → t = 1 ∨ t = 2) {h : Nat} {D : Nat → Prop} {l : List (Nat × Nat)} (hl : ∀ t, (2, t) ∈ l → t = 1 ∨ t = 2) : Cx b (h + 3) D l := by
  intro P t l' e1 _
  exact Cx_b hb (h := h) (hl t (by rw [e1]; exact List.mem_append.mpr (Or.inr (List.mem_cons_self ..))))
