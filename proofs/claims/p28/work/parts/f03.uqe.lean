/-! TWO RUNS OF ONE THING end alike -/
def uq_S (F : mj_K → Prop) : Prop := ∀ K, F K → ∃ q ls st G', K q ls st G' ∧ ∀ K2 : mj_K, F K2 → K2 q ls st G'
theorem uq_k {G' : mj_G} {q : Nat} {ls : List (Option mj_V)} {st : List mj_V} : uq_S (fun K => K q ls st G') := fun _ h => ⟨_, _, _, _, h, fun _ h => h⟩
theorem uq_b {c : Prop} {F1 F2 : mj_K → Prop} (h1 : uq_S F1) (h2 : uq_S F2) : uq_S (fun K => (c → F1 K) ∧ (¬ c → F2 K)) := fun K h => by
  by_cases hc : c
  · obtain ⟨q, ls, st, G', a, e⟩ := h1 K (h.1 hc)
    exact ⟨q, ls, st, G', a, fun K' h => e K' (h.1 hc)⟩
  · obtain ⟨q, ls, st, G', a, e⟩ := h2 K (h.2 hc)
    exact ⟨q, ls, st, G', a, fun K' h => e K' (h.2 hc)⟩
theorem uq_b' {c : Prop} {F1 F2 : mj_K → Prop} (h1 : uq_S F1) (h2 : uq_S F2) : uq_S (fun K => (¬ c → F1 K) ∧ (c → F2 K)) := fun K h => by
  by_cases hc : c
  · obtain ⟨q, ls, st, G', a, e⟩ := h2 K (h.2 hc)
    exact ⟨q, ls, st, G', a, fun K' h => e K' (h.2 hc)⟩
  · obtain ⟨q, ls, st, G', a, e⟩ := h1 K (h.1 hc)
    exact ⟨q, ls, st, G', a, fun K' h => e K' (h.1 hc)⟩
theorem uq_r {G : mj_G} {pc : Nat} {off : Int} {ls : List (Option mj_V)} {st : List mj_V} : uq_S (fun K => mj_br pc off (fun t => K t ls st G)) := fun K h => by
  unfold mj_br at h ⊢
  split at h
  · exact ⟨_, _, _, _, h, fun K' h => by simp_all⟩
  · exact h.elim
theorem uq_s {G : mj_G} {x : Int32} {pc : Nat} {d : Int} {ls : List (Option mj_V)} {st : List mj_V} : ∀ l : List (Int × Int), uq_S (fun K => mj_sw x (mj_br pc d (fun t => K t ls st G)) (fun o => mj_br pc o (fun t => K t ls st G)) l)
  | [] => uq_r
  | (k, o) :: ps => uq_b uq_r (uq_s ps)
theorem uq_c {b : Bool} {F : mj_K → Prop} (h : uq_S F) : uq_S (fun K => bif b then F K else False) := by
  cases b
  · exact fun K h => h.elim
  · exact h
set_option maxHeartbeats 4000000 in
theorem uq_s1 {own : Nat} {ini : Bool} {i : Instr} {len pc : Nat} {ls : List (Option mj_V)} {st : List mj_V} {G : mj_G} : uq_S (fun K => mj_s1 own ini i len pc ls st G K) := by
  have k0 : ∀ {q ls st G}, uq_S (fun K => K q ls st G) := uq_k
  cases i
  case if_acmp c off =>
    cases c
    · unfold mj_s1
      exact fun K h => h.elim
    · unfold mj_s1
      intro K h
      dsimp only at h ⊢
      repeat' split at h
      · obtain ⟨h1, h2, h3, h4, h⟩ := h
        obtain ⟨q, ls', st', G', a, e⟩ := uq_b' (F1 := fun K => mj_br _ _ (fun t => K t _ _ G)) (F2 := fun K => K _ _ _ G) uq_r k0 K h
        exact ⟨q, ls', st', G', a, fun K' hK => e K' hK.2.2.2.2⟩
      · exact h.elim
  all_goals (unfold mj_s1; intro K h; try unfold mj_b2 at *; try unfold mj_b2l at *; try unfold mj_ldi at *; try unfold mj_ldl at *; try unfold mj_lda at *; try unfold mj_sti at *; try unfold mj_stl at *; try unfold mj_sta at *; try unfold mj_ald at *; try unfold mj_ast at *; dsimp only at h ⊢)
  all_goals (try exact k0 K h)
  all_goals (try exact h.elim)
  all_goals (repeat' split at h)
  all_goals (try exact h.elim)
  all_goals (try exact k0 K h)
  all_goals first
    | exact ⟨_, _, _, _, h.2, fun _ hK => hK.2⟩
    | exact ⟨_, _, _, _, h.2.2, fun _ hK => hK.2.2⟩
    | exact ⟨_, _, _, _, h.2.2.2, fun _ hK => hK.2.2.2⟩
    | exact ⟨_, _, _, _, h.2.2.2.2, fun _ hK => hK.2.2.2.2⟩
    | exact ⟨_, _, _, _, h.2.2.2.2.2, fun _ hK => hK.2.2.2.2.2⟩
    | exact ⟨_, _, _, _, h.2.2.2.2.2.2.2.2.2.2, fun _ hK => hK.2.2.2.2.2.2.2.2.2.2⟩
    | exact uq_c (F := fun K => K _ _ _ _) k0 K h
    | exact uq_r K h
    | exact uq_b (F1 := fun K => mj_br _ _ (fun t => K t _ _ G)) (F2 := fun K => K _ _ _ G) uq_r k0 K h
    | exact uq_b' (F1 := fun K => mj_br _ _ (fun t => K t _ _ G)) (F2 := fun K => K _ _ _ G) uq_r k0 K h
    | exact uq_s _ K h
    | exact (by cases hb : Nat.ble 15 _ <;> rw [hb] at h <;> first | exact False.elim h | exact ⟨_, _, _, _, h, fun _ hK => hK⟩)
    | (obtain ⟨h1, h2, h⟩ := h
       obtain ⟨q, ls', st', G', a, e⟩ := uq_c (F := fun K => K _ _ _ _) k0 K h
       exact ⟨q, ls', st', G', a, fun K' hK => e K' hK.2.2⟩)
    | exact h.2.elim
theorem uq_XF : ∀ {f f' d mi pc : Nat} {ls : List (Option mj_V)} {st : List mj_V} {G : mj_G} {Q Q' : mj_O → mj_G → Prop}, mj_XF f d mi pc ls st G Q → mj_XF f' d mi pc ls st G Q' → ∃ o G', Q o G' ∧ Q' o G'
  | 0, _, _, _, _, _, _, _, _, _, h, _ => h.elim
  | _ + 1, 0, _, _, _, _, _, _, _, _, _, h => h.elim
  | f + 1, f' + 1, d, mi, pc, ls, st, G, Q, Q', h, h' => by
    unfold mj_XF at h h'
    cases hat : mj_at mi pc with
    | none =>
      rw [hat] at h
      exact h.elim
    | some il =>
      obtain ⟨i, len⟩ := il
      rw [hat] at h h'
      dsimp only at h h'
      cases htg : mj_tg (mi / 1000) i with
      | some mt =>
        rw [htg] at h h'
        dsimp only at h h'
        cases htk : mj_tk (mj_na mt) [] st with
        | none =>
          rw [htk] at h
          exact h.elim
        | some ar =>
          obtain ⟨as, rest⟩ := ar
          rw [htk] at h h'
          dsimp only at h h'
          obtain ⟨-, -, d1, e1, h⟩ := h
          obtain ⟨-, -, d2, e2, h'⟩ := h'
          obtain rfl : d1 = d2 := by omega
          obtain ⟨o1, G1, a, a'⟩ := uq_XF h h'
          cases o1 with
          | inl v =>
            cases v with
            | none => exact uq_XF a a'
            | some v => exact uq_XF a a'
          | inr k =>
            obtain ⟨-, -, a⟩ := a
            obtain ⟨-, -, a'⟩ := a'
            cases hh : mj_hn mi k with
            | none =>
              rw [hh] at a
              exact a.elim
            | some qx =>
              obtain ⟨q, x⟩ := qx
              rw [hh] at a a'
              exact uq_XF a a'
      | none =>
        rw [htg] at h h'
        dsimp only at h h'
        have gen : mj_s1 (mi / 1000) (bif (mj_y mi).name == "<init>" then true else false) i len pc ls st G (fun pc ls st G => mj_XF f d mi pc ls st G Q) → mj_s1 (mi / 1000) (bif (mj_y mi).name == "<init>" then true else false) i len pc ls st G (fun pc ls st G => mj_XF f' d mi pc ls st G Q') → ∃ o G', Q o G' ∧ Q' o G' := fun g g' => by
          obtain ⟨q, ls', st', G', a, b⟩ := uq_s1 _ g
          exact uq_XF a (b _ g')
        cases i
        case ireturn =>
          dsimp only at h h'
          split at h
          · exact ⟨_, _, h.2, h'.2⟩
          · exact h.elim
        case lreturn =>
          dsimp only at h h'
          split at h
          · exact ⟨_, _, h.2, h'.2⟩
          · exact h.elim
        case areturn =>
          dsimp only at h h'
          split at h
          · exact ⟨_, _, h.2, h'.2⟩
          · exact h.elim
        case return_ =>
          dsimp only at h h'
          split at h
          · exact ⟨_, _, h.2, h'.2⟩
          · exact h.elim
        case new k =>
          dsimp only at h h'
          cases hcl : mj_cl (mi / 1000) k with
          | none =>
            rw [hcl] at h
            exact h.elim
          | some c =>
            rw [hcl] at h h'
            dsimp only at h h'
            cases hb : Nat.ble 15 c with
            | true =>
              rw [hb] at h h'
              exact ⟨_, _, h.2.2.2, h'.2.2.2⟩
            | false =>
              rw [hb] at h h'
              exact gen h h'
        all_goals exact gen h h'
theorem uq_X {d mi pc : Nat} {ls : List (Option mj_V)} {st : List mj_V} {G : mj_G} {Q Q' : mj_O → mj_G → Prop} (h : mj_X d mi pc ls st G Q) (h' : mj_X d mi pc ls st G Q') : ∃ o G', Q o G' ∧ Q' o G' := by
  obtain ⟨f, h⟩ := h
  obtain ⟨f', h'⟩ := h'
  exact uq_XF h h'
