/-! WHAT EVERY RUN KEEPS OF A HEAP: the booleans of Values, and rows of characters no longer than the slots that were taken -/
def iv_J (u0 : Nat) (G : mj_G) : Prop := u0 ≤ mj_u G ∧ (∀ a, mj_k G a = 12 → mj_b (mj_i G a 2)) ∧ ∀ a, mj_k G a = 22 → mj_l G a ≤ 10000 ∨ mj_l G a + u0 ≤ mj_u G
def iv_st (G G' : mj_G) : Prop := ∀ u0, iv_J u0 G → iv_J u0 G'
theorem iv_r {G : mj_G} : iv_st G G := fun _ h => h
theorem iv_R {G : mj_G} {a k v : Nat} : iv_st G (mj_pR G a k v) := fun _ h => h
theorem iv_Jl {G : mj_G} {a k : Nat} {v : Int64} : iv_st G (mj_pJ G a k v) := fun _ h => h
theorem iv_I {G : mj_G} {a k : Nat} {v : Int32} (hz : mj_k G a = 12 → k = 2 → mj_b v) : iv_st G (mj_pI G a k v) := fun u0 h => ⟨h.1, fun c hc => by
  show mj_b (if c = a ∧ 2 = k then v else mj_i G c 2)
  by_cases hq : c = a ∧ 2 = k
  · rw [if_pos hq]
    exact hz (by rw [← hq.1]; exact hc) hq.2.symm
  · rw [if_neg hq]
    exact h.2.1 c hc, h.2.2⟩
theorem iv_Ik {G : mj_G} {a k kk : Nat} {v : Int32} (h : mj_k G a = kk) (hk : kk ≠ 12) : iv_st G (mj_pI G a k v) := iv_I fun q => absurd (h.symm.trans q) hk
theorem iv_If {G : mj_G} {a j c : Nat} {v : Int32} (h : mj_k G a = c + 1) (hf : mj_fit (mj_T c j) v) : iv_st G (mj_pI G a j v) := iv_I fun q t => by
  have hc : c = 11 := by rw [h] at q; omega
  subst hc
  subst t
  exact hf
theorem iv_cp {G : mj_G} {a0 sp a dp n : Nat} (h : mj_k G a = 20 ∨ mj_k G a = 22) : iv_st G (mj_cp G a0 sp a dp n) := fun u0 hJ => ⟨hJ.1, fun c hc => by
  show mj_b (if c = a ∧ _ then _ else mj_i G c 2)
  rw [if_neg (fun q => by
    have hc' : mj_k G c = 12 := hc
    rw [q.1] at hc'
    omega)]
  exact hJ.2.1 c hc, hJ.2.2⟩
theorem iv_A {G : mj_G} {kd len : Nat} {row : Nat → Int32} (h : kd = 12 → mj_b (row 2)) : iv_st G (mj_al G kd len row) := fun u0 hJ => by
  have h1 := hJ.1
  refine ⟨Nat.le_trans h1 (Nat.le_add_right _ _), fun c hc => ?_, fun c hc => ?_⟩
  · show mj_b (if c = mj_n G then row 2 else mj_i G c 2)
    by_cases q : c = mj_n G
    · rw [if_pos q]
      exact h ((if_pos q : (if c = mj_n G then kd else mj_k G c) = kd).symm.trans hc)
    · rw [if_neg q]
      exact hJ.2.1 c ((if_neg q : (if c = mj_n G then kd else mj_k G c) = mj_k G c).symm.trans hc)
  · show (if c = mj_n G then len else mj_l G c) ≤ 10000 ∨ (if c = mj_n G then len else mj_l G c) + u0 ≤ mj_u G + len
    by_cases q : c = mj_n G
    · rw [if_pos q]
      exact Or.inr (by omega)
    · rw [if_neg q]
      rcases hJ.2.2 c ((if_neg q : (if c = mj_n G then kd else mj_k G c) = mj_k G c).symm.trans hc) with t | t
      · exact Or.inl t
      · exact Or.inr (by omega)
theorem iv_A0 {G : mj_G} {kd len : Nat} : iv_st G (mj_al G kd len (fun _ => 0)) := iv_A fun _ => Or.inl rfl
theorem iv_A2 {G : mj_G} {len : Nat} {row : Nat → Int32} : iv_st G (mj_al G 20 len row) := iv_A fun h => absurd h (by decide)
def iv_dt (G : mj_G) (F : mj_K → Prop) : Prop := ∀ K, F K → ∃ q ls st G', K q ls st G' ∧ iv_st G G' ∧ ∀ K' : mj_K, K' q ls st G' → F K'
theorem iv_dt_k {G G' : mj_G} {q : Nat} {ls : List (Option mj_V)} {st : List mj_V} (hn : iv_st G G') : iv_dt G (fun K => K q ls st G') := fun _ h => ⟨_, _, _, _, h, hn, fun _ h => h⟩
theorem iv_dt_f {G : mj_G} : iv_dt G (fun _ => False) := fun _ h => h.elim
theorem iv_dt_b {G : mj_G} {c : Prop} {F1 F2 : mj_K → Prop} (h1 : iv_dt G F1) (h2 : iv_dt G F2) : iv_dt G (fun K => (c → F1 K) ∧ (¬ c → F2 K)) := fun K h => by
  by_cases hc : c
  · obtain ⟨q, ls, st, G', a, b, e⟩ := h1 K (h.1 hc)
    exact ⟨q, ls, st, G', a, b, fun K' h => ⟨fun _ => e K' h, fun n => absurd hc n⟩⟩
  · obtain ⟨q, ls, st, G', a, b, e⟩ := h2 K (h.2 hc)
    exact ⟨q, ls, st, G', a, b, fun K' h => ⟨fun n => absurd n hc, fun _ => e K' h⟩⟩
theorem iv_dt_b' {G : mj_G} {c : Prop} {F1 F2 : mj_K → Prop} (h1 : iv_dt G F1) (h2 : iv_dt G F2) : iv_dt G (fun K => (¬ c → F1 K) ∧ (c → F2 K)) := fun K h => by
  by_cases hc : c
  · obtain ⟨q, ls, st, G', a, b, e⟩ := h2 K (h.2 hc)
    exact ⟨q, ls, st, G', a, b, fun K' h => ⟨fun n => absurd hc n, fun _ => e K' h⟩⟩
  · obtain ⟨q, ls, st, G', a, b, e⟩ := h1 K (h.1 hc)
    exact ⟨q, ls, st, G', a, b, fun K' h => ⟨fun _ => e K' h, fun n => absurd n hc⟩⟩
theorem iv_dt_r {G : mj_G} {pc : Nat} {off : Int} {ls : List (Option mj_V)} {st : List mj_V} : iv_dt G (fun K => mj_br pc off (fun t => K t ls st G)) := fun K h => by
  unfold mj_br at h ⊢
  split at h
  · exact ⟨_, _, _, _, h, iv_r, fun K' h => by simp_all⟩
  · exact h.elim
theorem iv_dt_s {G : mj_G} {x : Int32} {pc : Nat} {d : Int} {ls : List (Option mj_V)} {st : List mj_V} : ∀ l : List (Int × Int), iv_dt G (fun K => mj_sw x (mj_br pc d (fun t => K t ls st G)) (fun o => mj_br pc o (fun t => K t ls st G)) l)
  | [] => iv_dt_r
  | (k, o) :: ps => iv_dt_b iv_dt_r (iv_dt_s ps)
theorem iv_dt_c {G : mj_G} {b : Bool} {F : mj_K → Prop} (h : iv_dt G F) : iv_dt G (fun K => bif b then F K else False) := by
  cases b
  · exact iv_dt_f
  · exact h
set_option maxHeartbeats 4000000 in
theorem iv_s1 {own : Nat} {ini : Bool} {i : Instr} {len pc : Nat} {ls : List (Option mj_V)} {st : List mj_V} {G : mj_G} : iv_dt G (fun K => mj_s1 own ini i len pc ls st G K) := by
  have k0 : ∀ {q ls st}, iv_dt G (fun K => K q ls st G) := iv_dt_k iv_r
  have kA : ∀ {q ls st k n}, iv_dt G (fun K => K q ls st (mj_al G k n (fun _ => 0))) := iv_dt_k iv_A0
  cases i
  case if_acmp c off =>
    cases c
    · unfold mj_s1
      exact iv_dt_f
    · unfold mj_s1
      intro K h
      dsimp only at h ⊢
      repeat' split at h
      · obtain ⟨h1, h2, h3, h4, h⟩ := h
        obtain ⟨q, ls', st', G', a, b, e⟩ := iv_dt_b' (F1 := fun K => mj_br _ _ (fun t => K t _ _ G)) (F2 := fun K => K _ _ _ G) iv_dt_r k0 K h
        exact ⟨q, ls', st', G', a, b, fun K' hK => ⟨h1, h2, h3, h4, e K' hK⟩⟩
      · exact h.elim
  all_goals (unfold mj_s1; intro K h; try unfold mj_b2 at *; try unfold mj_b2l at *; try unfold mj_ldi at *; try unfold mj_ldl at *; try unfold mj_lda at *; try unfold mj_sti at *; try unfold mj_stl at *; try unfold mj_sta at *; try unfold mj_ald at *; try unfold mj_ast at *; dsimp only at h ⊢)
  all_goals (try exact k0 K h)
  all_goals (try exact h.elim)
  all_goals (repeat' split at h)
  all_goals (try exact h.elim)
  all_goals (try exact k0 K h)
  all_goals first
    | exact ⟨_, _, _, _, h.2, by first | exact iv_r | exact iv_R | exact iv_Jl | exact iv_A0, fun _ hK => ⟨h.1, hK⟩⟩
    | exact ⟨_, _, _, _, h.2.2, by first | exact iv_r | exact iv_R | exact iv_Jl | exact iv_A0, fun _ hK => ⟨h.1, h.2.1, hK⟩⟩
    | exact ⟨_, _, _, _, h.2.2.2, by first | exact iv_r | exact iv_R | exact iv_Jl | exact iv_A0, fun _ hK => ⟨h.1, h.2.1, h.2.2.1, hK⟩⟩
    | exact ⟨_, _, _, _, h.2.2.2.2, by first | exact iv_r | exact iv_R | exact iv_Jl | exact iv_A0 | exact iv_A2 | exact iv_Ik h.1 (by decide) | exact iv_If h.2.1 h.2.2.2.1, fun _ hK => ⟨h.1, h.2.1, h.2.2.1, h.2.2.2.1, hK⟩⟩
    | exact ⟨_, _, _, _, h.2.2.2.2.2, by first | exact iv_r | exact iv_R | exact iv_A0 | exact iv_A2, fun _ hK => ⟨h.1, h.2.1, h.2.2.1, h.2.2.2.1, h.2.2.2.2.1, hK⟩⟩
    | exact ⟨_, _, _, _, h.2.2.2.2.2.2.2.2.2.2, iv_cp h.2.1, fun _ hK => ⟨h.1, h.2.1, h.2.2.1, h.2.2.2.1, h.2.2.2.2.1, h.2.2.2.2.2.1, h.2.2.2.2.2.2.1, h.2.2.2.2.2.2.2.1, h.2.2.2.2.2.2.2.2.1, h.2.2.2.2.2.2.2.2.2.1, hK⟩⟩
    | exact iv_dt_c (F := fun K => K _ _ _ G) k0 K h
    | exact iv_dt_r K h
    | exact iv_dt_b (F1 := fun K => mj_br _ _ (fun t => K t _ _ G)) (F2 := fun K => K _ _ _ G) iv_dt_r k0 K h
    | exact iv_dt_b' (F1 := fun K => mj_br _ _ (fun t => K t _ _ G)) (F2 := fun K => K _ _ _ G) iv_dt_r k0 K h
    | exact iv_dt_s _ K h
    | exact iv_dt_c (F := fun K => K _ _ _ (mj_al G _ _ _)) kA K h
    | exact (by cases hb : Nat.ble 15 _ <;> rw [hb] at h <;> first | exact False.elim h | exact ⟨_, _, _, _, h, iv_A0, fun _ hK => hK⟩)
    | (obtain ⟨h1, h2, h⟩ := h
       obtain ⟨q, ls', st', G', a, b, e⟩ := iv_dt_c (F := fun K => K _ _ _ _) (by first | exact k0 | exact kA) K h
       exact ⟨q, ls', st', G', a, b, fun K' hK => ⟨h1, h2, e K' hK⟩⟩)
    | exact h.2.elim
theorem iv_s1J {own : Nat} {ini : Bool} {i : Instr} {len pc u0 : Nat} {ls : List (Option mj_V)} {st : List mj_V} {G : mj_G} {K K' : mj_K} (h : mj_s1 own ini i len pc ls st G K) (hJ : iv_J u0 G) (hk : ∀ q ls st G', K q ls st G' → iv_J u0 G' → K' q ls st G') : mj_s1 own ini i len pc ls st G K' := by
  obtain ⟨q, ls', st', G', a, b, d⟩ := iv_s1 K h
  exact d K' (hk _ _ _ _ a (b u0 hJ))
theorem iv_XF : ∀ {f d mi pc u0 : Nat} {ls : List (Option mj_V)} {st : List mj_V} {G : mj_G} {Q Q' : mj_O → mj_G → Prop}, mj_XF f d mi pc ls st G Q → iv_J u0 G → (∀ o G, Q o G → iv_J u0 G → Q' o G) → mj_XF f d mi pc ls st G Q'
  | 0, _, _, _, _, _, _, _, _, _, h, _, _ => h.elim
  | f + 1, d, mi, pc, u0, ls, st, G, Q, Q', h, hJ, hQ => by
    unfold mj_XF at h ⊢
    split at h
    · exact h.elim
    rename_i i len hat
    split at h
    · rename_i mt htg
      split at h
      · exact h.elim
      · rename_i as rest htk
        obtain ⟨h1, h2, d', h3, h4⟩ := h
        refine ⟨h1, h2, d', h3, iv_XF h4 hJ fun o G' ho hJ' => ?_⟩
        split at ho
        · exact iv_XF ho hJ' hQ
        · exact iv_XF ho hJ' hQ
        · obtain ⟨a, b, c⟩ := ho
          refine ⟨a, b, ?_⟩
          split at c
          · exact c.elim
          · rename_i q x hhn
            exact iv_XF c hJ' hQ
    · rename_i htg
      split at h
      · split at h
        · exact ⟨h.1, hQ _ _ h.2 hJ⟩
        · exact h.elim
      · split at h
        · exact ⟨h.1, hQ _ _ h.2 hJ⟩
        · exact h.elim
      · split at h
        · exact ⟨h.1, hQ _ _ h.2 hJ⟩
        · exact h.elim
      · split at h
        · exact ⟨h.1, hQ _ _ h.2 hJ⟩
        · exact h.elim
      · split at h
        · rename_i k c hcl
          cases hb : Nat.ble 15 c with
          | true =>
            rw [hb] at h
            exact ⟨h.1, h.2.1, h.2.2.1, hQ _ _ h.2.2.2 (iv_A0 u0 hJ)⟩
          | false =>
            rw [hb] at h
            simp only [cond_false] at h ⊢
            exact iv_s1J h hJ fun q ls st G' hh hJ' => iv_XF hh hJ' hQ
        · exact h.elim
      · exact iv_s1J h hJ fun q ls st G' hh hJ' => iv_XF hh hJ' hQ
/-- a run, with what it keeps -/
theorem iv_X {d mi pc u0 : Nat} {ls : List (Option mj_V)} {st : List mj_V} {G : mj_G} {Q Q' : mj_O → mj_G → Prop} (h : mj_X d mi pc ls st G Q) (hJ : iv_J u0 G) (hQ : ∀ o G', Q o G' → iv_J u0 G' → Q' o G') : mj_X d mi pc ls st G Q' := by
  obtain ⟨f, hf⟩ := h
  exact ⟨f, iv_XF hf hJ hQ⟩
/-- behind a run that takes few slots, heaps are as before -/
theorem iv_hb {G : mj_G} (h : hb G) : iv_J (mj_u G) G := ⟨Nat.le_refl _, h.1, fun a ha => Or.inl (h.2 a ha)⟩
theorem iv_end {G : mj_G} {u0 : Nat} (h : iv_J u0 G) (hu : mj_u G ≤ u0 + 10000) : hb G := ⟨h.2.1, fun a ha => by
  rcases h.2.2 a ha with q | q
  · exact q
  · omega⟩
