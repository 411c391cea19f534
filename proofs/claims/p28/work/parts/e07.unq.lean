/-! NO TWO TAGS OF A BODY STAND AT ONE PLACE -/
section D10
variable {A : Nat → Prop} {G : mj_G} {hm : Int32} {w : Nat → Nat}
theorem un_app {L1 L2 : List (Nat × Nat)} {m : Nat} (h1 : ∀ y, y ∈ L1 → y.1 < m) (h2 : ∀ y, y ∈ L2 → m ≤ y.1) (u1 : ∀ y, y ∈ L1 → ∀ y', y' ∈ L1 → y.1 = y'.1 → y = y') (u2 : ∀ y, y ∈ L2 → ∀ y', y' ∈ L2 → y.1 = y'.1 → y = y') : ∀ y, y ∈ L1 ++ L2 → ∀ y', y' ∈ L1 ++ L2 → y.1 = y'.1 → y = y' := by
  intro y hy y' hy' e
  rcases List.mem_append.mp hy with a | a
  · rcases List.mem_append.mp hy' with b | b
    · exact u1 y a y' b e
    · have := h1 y a
      have := h2 y' b
      omega
  · rcases List.mem_append.mp hy' with b | b
    · have := h2 y a
      have := h1 y' b
      omega
    · exact u2 y a y' b e
theorem tb_un : ∀ {k : Nat} {b : Int32} {r p q : Nat} {L : List (Nat × Nat)}, tb_B k A G hm b r w p q L → (∀ y, y ∈ L → p ≤ y.1 ∧ y.1 < q) ∧ ∀ y, y ∈ L → ∀ y', y' ∈ L → y.1 = y'.1 → y = y'
  | 0, _, _, _, _, _, h => h.elim
  | k + 1, b, r, p, q, L, h => by
    rcases h with ⟨-, -, rfl⟩ | ⟨-, -, -, -, -, -, -, -, -, -, h⟩ | ⟨h1, h2, h3, h4, h5, h6, h7, h8, e, m, L1, L2, he, hH, h125, rfl, h13, h14⟩
    · exact ⟨fun y hy => absurd hy List.not_mem_nil, fun y hy => absurd hy List.not_mem_nil⟩
    · obtain ⟨a1, a2⟩ := tb_un h
      exact ⟨fun y hy => by have := a1 y hy; omega, a2⟩
    · obtain ⟨b1, b2⟩ := tb_un h13
      have hmq := tb_le h13
      have hL1 : e + 1 ≤ m ∧ (∀ y, y ∈ L1 → e + 1 ≤ y.1 ∧ y.1 < m) ∧ ∀ y, y ∈ L1 → ∀ y', y' ∈ L1 → y.1 = y'.1 → y = y' := by
        rcases h14 with ⟨-, c1, rfl, -⟩ | ⟨-, -, -, q1, a4, -, -, -, rfl⟩ | ⟨-, q1, q2, La, Lb, a2, -, -, -, a6, -, -, -, rfl, rfl⟩
        · exact ⟨by omega, fun y hy => absurd hy List.not_mem_nil, fun y hy => absurd hy List.not_mem_nil⟩
        · obtain ⟨c1, c2⟩ := tb_un a4
          have := tb_le a4
          exact ⟨by omega, fun y hy => by have := c1 y hy; omega, c2⟩
        · obtain ⟨c1, c2⟩ := tb_un a2
          obtain ⟨d1, d2⟩ := tb_un a6
          have l1 := tb_le a2
          have l2 := tb_le a6
          refine ⟨by omega, fun y hy => ?_, un_app (m := q1) (fun y hy => (c1 y hy).2) (fun y hy => by have := d1 y hy; omega) c2 d2⟩
          rcases List.mem_append.mp hy with a | a
          · have := c1 y a
            omega
          · have := d1 y a
            omega
      obtain ⟨m1, m2, m3⟩ := hL1
      have hA := un_app (m := m) (fun y hy => (m2 y hy).2) (fun y hy => (b1 y hy).1) m3 b2
      have hR : ∀ y, y ∈ L1 ++ L2 → p < y.1 ∧ y.1 < q := fun y hy => by
        rcases List.mem_append.mp hy with a | a
        · have := m2 y a
          omega
        · have := b1 y a
          omega
      refine ⟨fun y hy => ?_, fun y hy y' hy' e => ?_⟩
      · rcases List.mem_cons.mp hy with rfl | hy
        · show p ≤ p ∧ p < q
          omega
        · have := hR y hy
          omega
      · rcases List.mem_cons.mp hy with rfl | hy
        · rcases List.mem_cons.mp hy' with rfl | hy'
          · rfl
          · have h9 := (hR y' hy').1
            rw [← e] at h9
            exact absurd h9 (Nat.lt_irrefl _)
        · rcases List.mem_cons.mp hy' with rfl | hy'
          · have h9 := (hR y hy).1
            rw [e] at h9
            exact absurd h9 (Nat.lt_irrefl _)
          · exact hA y hy y' hy' e
theorem UL_of {u : wo} (hu : uP u) : UL u := fun T hT p r r' h1 h2 => by
  obtain ⟨-, -, s, k, -, hB⟩ := hu.2.2.2 T hT
  exact congrArg Prod.snd ((tb_un hB).2 _ h1 _ h2 rfl)
end D10
