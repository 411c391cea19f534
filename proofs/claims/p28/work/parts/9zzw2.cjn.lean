/-! RUNS ARE DETERMINED: what two runs promise holds of one -/
theorem cj_and {c A B C : Prop} (h : (c ∧ A) ∧ (c ∧ B)) (k : A ∧ B → C) : c ∧ C := ⟨h.1.1, k ⟨h.1.2, h.2.2⟩⟩
theorem cj_if {c A1 A2 B1 B2 C1 C2 : Prop} (h : ((c → A1) ∧ (¬ c → A2)) ∧ ((c → B1) ∧ (¬ c → B2))) (k1 : A1 ∧ B1 → C1) (k2 : A2 ∧ B2 → C2) : (c → C1) ∧ (¬ c → C2) := ⟨fun q => k1 ⟨h.1.1 q, h.2.1 q⟩, fun q => k2 ⟨h.1.2 q, h.2.2 q⟩⟩
theorem cj_if' {c A1 A2 B1 B2 C1 C2 : Prop} (h : ((¬ c → A1) ∧ (c → A2)) ∧ ((¬ c → B1) ∧ (c → B2))) (k1 : A1 ∧ B1 → C1) (k2 : A2 ∧ B2 → C2) : (¬ c → C1) ∧ (c → C2) := ⟨fun q => k1 ⟨h.1.1 q, h.2.1 q⟩, fun q => k2 ⟨h.1.2 q, h.2.2 q⟩⟩
theorem cj_br {pc : Nat} {off : Int} {K1 K2 : Nat → Prop} (h : mj_br pc off K1 ∧ mj_br pc off K2) : mj_br pc off (fun t => K1 t ∧ K2 t) := by
  unfold mj_br at h ⊢
  split at h
  · exact h
  · exact h.1.elim
theorem cj_sw {x : Int32} {pc : Nat} {d : Int} {K1 K2 : Nat → Prop} : ∀ l : List (Int × Int), mj_sw x (mj_br pc d K1) (fun o => mj_br pc o K1) l ∧ mj_sw x (mj_br pc d K2) (fun o => mj_br pc o K2) l → mj_sw x (mj_br pc d (fun t => K1 t ∧ K2 t)) (fun o => mj_br pc o (fun t => K1 t ∧ K2 t)) l
  | [], h => cj_br h
  | (k, o) :: ps, h => cj_if h cj_br (cj_sw ps)
theorem cj_bif {b : Bool} {A B : Prop} (h : (bif b then A else False) ∧ (bif b then B else False)) : bif b then A ∧ B else False := by
  cases b
  · exact h.1
  · exact h
theorem cj_nb {b : Bool} {A B : Prop} (h : (bif b then False else A) ∧ (bif b then False else B)) : bif b then False else A ∧ B := by
  cases b
  · exact h
  · exact h.1
set_option maxHeartbeats 4000000 in
theorem cj_s1 {own : Nat} {ini : Bool} {i : Instr} {len pc : Nat} {ls : List (Option mj_V)} {st : List mj_V} {G : mj_G} {K1 K2 : mj_K} (h : mj_s1 own ini i len pc ls st G K1 ∧ mj_s1 own ini i len pc ls st G K2) : mj_s1 own ini i len pc ls st G (fun q ls st G => K1 q ls st G ∧ K2 q ls st G) := by
  cases i
  case if_acmp c off =>
    cases c
    · unfold mj_s1 at h
      exact h.1.elim
    · unfold mj_s1 at h ⊢
      dsimp only at h ⊢
      split at h
      · exact cj_and h fun h => cj_and h fun h => cj_and h fun h => cj_and h fun h => cj_if' h cj_br id
      · exact h.1.elim
  all_goals (unfold mj_s1 at h ⊢; try unfold mj_b2 at *; try unfold mj_b2l at *; try unfold mj_ldi at *; try unfold mj_ldl at *; try unfold mj_lda at *; try unfold mj_sti at *; try unfold mj_stl at *; try unfold mj_sta at *; try unfold mj_ald at *; try unfold mj_ast at *; dsimp only at h ⊢)
  all_goals (try exact h)
  all_goals (try exact h.1.elim)
  all_goals (repeat' (split at h; all_goals (try dsimp only at h ⊢)))
  all_goals (try exact h.1.elim)
  all_goals (try exact h)
  all_goals first
    | exact cj_br h
    | exact cj_sw _ h
    | exact cj_if h cj_br id
    | exact cj_if' h cj_br id
    | exact cj_bif h
    | exact cj_and h fun h => h
    | exact cj_and h fun h => cj_and h fun h => h
    | exact cj_and h fun h => cj_and h fun h => cj_bif h
    | exact cj_and h fun h => cj_and h fun h => cj_and h fun h => h
    | exact cj_and h fun h => cj_and h fun h => cj_and h fun h => cj_bif h
    | exact cj_and h fun h => cj_and h fun h => cj_and h fun h => cj_and h fun h => h
    | exact cj_and h fun h => cj_and h fun h => cj_and h fun h => cj_and h fun h => cj_and h fun h => h
    | exact cj_and h fun h => cj_and h fun h => cj_and h fun h => cj_and h fun h => cj_and h fun h => cj_and h fun h => cj_and h fun h => cj_and h fun h => cj_and h fun h => cj_and h fun h => h
    | exact cj_nb h
    | exact h.1.2.elim
theorem cj_XF : ∀ {f d mi pc : Nat} {ls : List (Option mj_V)} {st : List mj_V} {G : mj_G} {Q1 Q2 : mj_O → mj_G → Prop}, mj_XF f d mi pc ls st G Q1 ∧ mj_XF f d mi pc ls st G Q2 → mj_XF f d mi pc ls st G (fun o G => Q1 o G ∧ Q2 o G)
  | 0, _, _, _, _, _, _, _, _, h => h.1.elim
  | f + 1, d, mi, pc, ls, st, G, Q1, Q2, h => by
    unfold mj_XF at h ⊢
    cases hat : mj_at mi pc with
    | none => rw [hat] at h; exact h.1.elim
    | some il =>
      obtain ⟨i, len⟩ := il
      rw [hat] at h
      dsimp only at h ⊢
      cases htg : mj_tg (mi / 1000) i with
      | some mt =>
        rw [htg] at h
        dsimp only at h ⊢
        cases htk : mj_tk (mj_na mt) [] st with
        | none => rw [htk] at h; exact h.1.elim
        | some ar =>
          obtain ⟨as, rest⟩ := ar
          rw [htk] at h
          dsimp only at h ⊢
          obtain ⟨⟨a1, a2, d1, a3, a4⟩, -, -, d2, b3, b4⟩ := h
          obtain rfl : d1 = d2 := by omega
          refine ⟨a1, a2, d1, a3, mj_XF_mono (cj_XF ⟨a4, b4⟩) fun o G' ho => ?_⟩
          split at ho
          · exact cj_XF ho
          · exact cj_XF ho
          · obtain ⟨⟨x1, x2, x3⟩, -, -, y3⟩ := ho
            refine ⟨x1, x2, ?_⟩
            split at x3
            · exact x3.elim
            · rename_i q x hhn
              rw [hhn] at y3
              exact cj_XF ⟨x3, y3⟩
      | none =>
        rw [htg] at h
        dsimp only at h ⊢
        split at h
        · split at h
          · exact cj_and h id
          · exact h.1.elim
        · split at h
          · exact cj_and h id
          · exact h.1.elim
        · split at h
          · exact cj_and h id
          · exact h.1.elim
        · split at h
          · exact cj_and h id
          · exact h.1.elim
        · rename_i k
          cases hcl : mj_cl (mi / 1000) k with
          | none => rw [hcl] at h; exact h.1.elim
          | some c =>
            rw [hcl] at h
            dsimp only at h ⊢
            cases hb : Nat.ble 15 c with
            | true =>
              rw [hb] at h
              exact cj_and h fun h => cj_and h fun h => cj_and h fun h => h
            | false =>
              rw [hb] at h
              simp only [cond_false] at h ⊢
              exact mj_s1_mono (cj_s1 h) fun q ls st G' hh => cj_XF hh
        · exact mj_s1_mono (cj_s1 h) fun q ls st G' hh => cj_XF hh
/-- what two runs promise holds of one -/
theorem cj_X {d mi pc : Nat} {ls : List (Option mj_V)} {st : List mj_V} {G : mj_G} {Q1 Q2 : mj_O → mj_G → Prop} (h1 : mj_X d mi pc ls st G Q1) (h2 : mj_X d mi pc ls st G Q2) : mj_X d mi pc ls st G (fun o G => Q1 o G ∧ Q2 o G) := by
  obtain ⟨f1, g1⟩ := h1
  obtain ⟨f2, g2⟩ := h2
  have g2' := mj_XF_fuel g2 f1
  rw [Nat.add_comm] at g2'
  exact ⟨f1 + f2, cj_XF ⟨mj_XF_fuel g1 f2, g2'⟩⟩
