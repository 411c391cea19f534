/-! RUNS OF THE CLASS have no longs in cells (wip/p28/genh00.py) -/
def jw_J (G : mj_G) : Prop := (∀ a, a ≠ 1767 → mj_k G a ≠ 21) ∧ ∀ a j, a ≠ 1767 → mj_j G a j = 0
def jw_st (G G' : mj_G) : Prop := jw_J G → jw_J G'
theorem jw_r {G : mj_G} : jw_st G G := fun h => h
theorem jw_R {G : mj_G} {a k v : Nat} : jw_st G (mj_pR G a k v) := fun h => h
theorem jw_I {G : mj_G} {a k : Nat} {v : Int32} : jw_st G (mj_pI G a k v) := fun h => h
theorem jw_cp {G : mj_G} {a0 sp a dp n : Nat} : jw_st G (mj_cp G a0 sp a dp n) := fun h => h
theorem jw_A {G : mj_G} {kd len : Nat} {row : Nat → Int32} (h : kd ≠ 21) : jw_st G (mj_al G kd len row) := fun hJ => by
  refine ⟨fun a ha => ?_, fun a j ha => ?_⟩
  · show (if a = mj_n G then kd else mj_k G a) ≠ 21
    by_cases q : a = mj_n G
    · rw [if_pos q]; exact h
    · rw [if_neg q]; exact hJ.1 a ha
  · show (if a = mj_n G then (0 : Int64) else mj_j G a j) = 0
    by_cases q : a = mj_n G
    · rw [if_pos q]
    · rw [if_neg q]; exact hJ.2 a j ha
theorem jw_Jl {G : mj_G} {a k : Nat} {v : Int64} (h : mj_k G a = 21) : jw_st G (mj_pJ G a k v) := fun hJ => by
  refine ⟨hJ.1, fun b j hb => ?_⟩
  show (if b = a ∧ j = k then v else mj_j G b j) = 0
  by_cases q : b = a ∧ j = k
  · exact absurd ((congrArg (mj_k G) q.1).trans h) (hJ.1 b hb)
  · rw [if_neg q]
    exact hJ.2 b j hb
theorem jw_clA : ∀ o, o < 13 → (mj_clL o).all (fun r => Nat.blt r.2.1 20) = true := by decide +kernel
theorem jw_cl {o k c : Nat} (h : o < 13) (hf : mj_cl o k = some c) : c < 20 := by
  unfold mj_cl at hf
  split at hf
  · rename_i r hr
    cases hf
    exact Nat.blt_eq.mp (List.all_eq_true.mp (jw_clA o h) _ (rj_lk_mem hr))
  · cases hf
theorem jw_b {c : Nat} (hb : Nat.ble 15 c = false) : c + 1 ≠ 21 := fun e => by
  have : c = 20 := by omega
  subst this
  cases hb
/-- what the class throws -/
def jw_o : mj_O → Prop
  | .inl _ => True
  | .inr k => k = 15 ∨ k = 16 ∨ k = 17
theorem jw_ceA : ∀ o, o < 13 → (mj_clL o).all (fun r => !(Nat.ble 15 r.2.1) || Nat.beq r.2.1 15 || Nat.beq r.2.1 16 || Nat.beq r.2.1 17) = true := by decide +kernel
theorem jw_ce {o k c : Nat} (h : o < 13) (hf : mj_cl o k = some c) (hb : Nat.ble 15 c = true) : c = 15 ∨ c = 16 ∨ c = 17 := by
  unfold mj_cl at hf
  split at hf
  · rename_i r hr
    cases hf
    have h1 := List.all_eq_true.mp (jw_ceA o h) _ (rj_lk_mem hr)
    dsimp only at h1
    rw [hb] at h1
    rw [Bool.or_eq_true, Bool.or_eq_true, Bool.or_eq_true] at h1
    rcases h1 with ((h1 | h1) | h1) | h1
    · cases h1
    · exact Or.inl (Nat.eq_of_beq_eq_true h1)
    · exact Or.inr (Or.inl (Nat.eq_of_beq_eq_true h1))
    · exact Or.inr (Or.inr (Nat.eq_of_beq_eq_true h1))
  · cases hf
def jw_dt (G : mj_G) (F : mj_K → Prop) : Prop := ∀ K, F K → ∃ q ls st G', K q ls st G' ∧ jw_st G G' ∧ ∀ K' : mj_K, K' q ls st G' → F K'
theorem jw_dt_k {G G' : mj_G} {q : Nat} {ls : List (Option mj_V)} {st : List mj_V} (hn : jw_st G G') : jw_dt G (fun K => K q ls st G') := fun _ h => ⟨_, _, _, _, h, hn, fun _ h => h⟩
theorem jw_dt_f {G : mj_G} : jw_dt G (fun _ => False) := fun _ h => h.elim
theorem jw_dt_b {G : mj_G} {c : Prop} {F1 F2 : mj_K → Prop} (h1 : jw_dt G F1) (h2 : jw_dt G F2) : jw_dt G (fun K => (c → F1 K) ∧ (¬ c → F2 K)) := fun K h => by
  by_cases hc : c
  · obtain ⟨q, ls, st, G', a, b, e⟩ := h1 K (h.1 hc)
    exact ⟨q, ls, st, G', a, b, fun K' h => ⟨fun _ => e K' h, fun n => absurd hc n⟩⟩
  · obtain ⟨q, ls, st, G', a, b, e⟩ := h2 K (h.2 hc)
    exact ⟨q, ls, st, G', a, b, fun K' h => ⟨fun n => absurd n hc, fun _ => e K' h⟩⟩
theorem jw_dt_b' {G : mj_G} {c : Prop} {F1 F2 : mj_K → Prop} (h1 : jw_dt G F1) (h2 : jw_dt G F2) : jw_dt G (fun K => (¬ c → F1 K) ∧ (c → F2 K)) := fun K h => by
  by_cases hc : c
  · obtain ⟨q, ls, st, G', a, b, e⟩ := h2 K (h.2 hc)
    exact ⟨q, ls, st, G', a, b, fun K' h => ⟨fun n => absurd hc n, fun _ => e K' h⟩⟩
  · obtain ⟨q, ls, st, G', a, b, e⟩ := h1 K (h.1 hc)
    exact ⟨q, ls, st, G', a, b, fun K' h => ⟨fun _ => e K' h, fun n => absurd n hc⟩⟩
theorem jw_dt_r {G : mj_G} {pc : Nat} {off : Int} {ls : List (Option mj_V)} {st : List mj_V} : jw_dt G (fun K => mj_br pc off (fun t => K t ls st G)) := fun K h => by
  unfold mj_br at h ⊢
  split at h
  · exact ⟨_, _, _, _, h, jw_r, fun K' h => by simp_all⟩
  · exact h.elim
theorem jw_dt_s {G : mj_G} {x : Int32} {pc : Nat} {d : Int} {ls : List (Option mj_V)} {st : List mj_V} : ∀ l : List (Int × Int), jw_dt G (fun K => mj_sw x (mj_br pc d (fun t => K t ls st G)) (fun o => mj_br pc o (fun t => K t ls st G)) l)
  | [] => jw_dt_r
  | (k, o) :: ps => jw_dt_b jw_dt_r (jw_dt_s ps)
theorem jw_dt_c {G : mj_G} {b : Bool} {F : mj_K → Prop} (h : jw_dt G F) : jw_dt G (fun K => bif b then F K else False) := by
  cases b
  · exact jw_dt_f
  · exact h
set_option maxHeartbeats 4000000 in
theorem jw_s1 {own : Nat} {ini : Bool} {i : Instr} {len pc : Nat} {ls : List (Option mj_V)} {st : List mj_V} {G : mj_G} (hok : zv_ok i = true) : jw_dt G (fun K => mj_s1 own ini i len pc ls st G K) := by
  have k0 : ∀ {q ls st}, jw_dt G (fun K => K q ls st G) := jw_dt_k jw_r
  have kA : ∀ {q ls st c n}, jw_dt G (fun K => K q ls st (mj_al G (c + 30) n (fun _ => 0))) := jw_dt_k (jw_A (by omega))
  cases i
  case if_acmp c off =>
    cases c
    · unfold mj_s1
      exact jw_dt_f
    · unfold mj_s1
      intro K h
      dsimp only at h ⊢
      repeat' split at h
      · obtain ⟨h1, h2, h3, h4, h⟩ := h
        obtain ⟨q, ls', st', G', a, b, e⟩ := jw_dt_b' (F1 := fun K => mj_br _ _ (fun t => K t _ _ G)) (F2 := fun K => K _ _ _ G) jw_dt_r k0 K h
        exact ⟨q, ls', st', G', a, b, fun K' hK => ⟨h1, h2, h3, h4, e K' hK⟩⟩
      · exact h.elim
  case newarray t =>
    unfold mj_s1
    intro K h
    dsimp only at h ⊢
    split at h
    · obtain ⟨h1, h2, h3, h⟩ := h
      exact ⟨_, _, _, _, h, jw_A (by cases t <;> first | exact absurd hok (by decide) | decide), fun _ hK => ⟨h1, h2, h3, hK⟩⟩
    · exact h.elim
  all_goals (unfold mj_s1; intro K h; try unfold mj_b2 at *; try unfold mj_b2l at *; try unfold mj_ldi at *; try unfold mj_ldl at *; try unfold mj_lda at *; try unfold mj_sti at *; try unfold mj_stl at *; try unfold mj_sta at *; try unfold mj_ald at *; try unfold mj_ast at *; dsimp only at h ⊢)
  all_goals (try exact k0 K h)
  all_goals (try exact h.elim)
  all_goals (repeat' split at h)
  all_goals (try exact h.elim)
  all_goals (try exact k0 K h)
  all_goals first
    | exact ⟨_, _, _, _, h.2, by first | exact jw_r | exact jw_R | exact jw_Jl h.1 | exact jw_A (by first | decide | omega), fun _ hK => ⟨h.1, hK⟩⟩
    | exact ⟨_, _, _, _, h.2.2, by first | exact jw_r | exact jw_R | exact jw_Jl h.1 | exact jw_A (by first | decide | omega), fun _ hK => ⟨h.1, h.2.1, hK⟩⟩
    | exact ⟨_, _, _, _, h.2.2.2, by first | exact jw_r | exact jw_R | exact jw_Jl h.1 | exact jw_A (by first | decide | omega), fun _ hK => ⟨h.1, h.2.1, h.2.2.1, hK⟩⟩
    | exact ⟨_, _, _, _, h.2.2.2.2, by first | exact jw_r | exact jw_R | exact jw_Jl h.1 | exact jw_A (by first | decide | omega) | exact jw_A (by decide) | exact jw_I, fun _ hK => ⟨h.1, h.2.1, h.2.2.1, h.2.2.2.1, hK⟩⟩
    | exact ⟨_, _, _, _, h.2.2.2.2.2, by first | exact jw_r | exact jw_R | exact jw_A (by first | decide | omega) | exact jw_A (by decide), fun _ hK => ⟨h.1, h.2.1, h.2.2.1, h.2.2.2.1, h.2.2.2.2.1, hK⟩⟩
    | exact ⟨_, _, _, _, h.2.2.2.2.2.2.2.2.2.2, jw_cp, fun _ hK => ⟨h.1, h.2.1, h.2.2.1, h.2.2.2.1, h.2.2.2.2.1, h.2.2.2.2.2.1, h.2.2.2.2.2.2.1, h.2.2.2.2.2.2.2.1, h.2.2.2.2.2.2.2.2.1, h.2.2.2.2.2.2.2.2.2.1, hK⟩⟩
    | exact jw_dt_c (F := fun K => K _ _ _ G) k0 K h
    | exact jw_dt_r K h
    | exact jw_dt_b (F1 := fun K => mj_br _ _ (fun t => K t _ _ G)) (F2 := fun K => K _ _ _ G) jw_dt_r k0 K h
    | exact jw_dt_b' (F1 := fun K => mj_br _ _ (fun t => K t _ _ G)) (F2 := fun K => K _ _ _ G) jw_dt_r k0 K h
    | exact jw_dt_s _ K h
    | exact jw_dt_c (F := fun K => K _ _ _ (mj_al G _ _ _)) kA K h
    | exact (by cases hb : Nat.ble 15 _ <;> rw [hb] at h <;> first | exact False.elim h | exact ⟨_, _, _, _, h, jw_A (jw_b hb), fun _ hK => hK⟩)
    | (obtain ⟨h1, h2, h⟩ := h
       obtain ⟨q, ls', st', G', a, b, e⟩ := jw_dt_c (F := fun K => K _ _ _ _) (by first | exact k0 | exact kA) K h
       exact ⟨q, ls', st', G', a, b, fun K' hK => ⟨h1, h2, e K' hK⟩⟩)
    | exact h.2.elim
theorem jw_s1J {own : Nat} {ini : Bool} {i : Instr} {len pc : Nat} {ls : List (Option mj_V)} {st : List mj_V} {G : mj_G} {K K' : mj_K} (hok : zv_ok i = true) (h : mj_s1 own ini i len pc ls st G K) (hJ : jw_J G) (hk : ∀ q ls st G', K q ls st G' → jw_J G' → K' q ls st G') : mj_s1 own ini i len pc ls st G K' := by
  obtain ⟨q, ls', st', G', a, b, d⟩ := jw_s1 hok K h
  exact d K' (hk _ _ _ _ a (b hJ))
theorem jw_XF : ∀ {f d mi pc : Nat} {ls : List (Option mj_V)} {st : List mj_V} {G : mj_G} {Q Q' : mj_O → mj_G → Prop}, mi / 1000 < 13 → mj_XF f d mi pc ls st G Q → jw_J G → (∀ o G, Q o G → jw_J G → jw_o o → Q' o G) → mj_XF f d mi pc ls st G Q'
  | 0, _, _, _, _, _, _, _, _, _, h, _, _ => h.elim
  | f + 1, d, mi, pc, ls, st, G, Q, Q', hm, h, hJ, hQ => by
    unfold mj_XF at h ⊢
    split at h
    · exact h.elim
    rename_i i len hat
    split at h
    · rename_i mt htg
      split at h
      · exact h.elim
      · rename_i as rest htk
        obtain ⟨h1, h2, d', h3, h4⟩ := h
        refine ⟨h1, h2, d', h3, jw_XF (ta_mt hm htg) h4 hJ fun o G' ho hJ' _ => ?_⟩
        split at ho
        · exact jw_XF hm ho hJ' hQ
        · exact jw_XF hm ho hJ' hQ
        · obtain ⟨a, b, c⟩ := ho
          refine ⟨a, b, ?_⟩
          split at c
          · exact c.elim
          · rename_i q x hhn
            exact jw_XF hm c hJ' hQ
    · rename_i htg
      split at h
      · split at h
        · exact ⟨h.1, hQ _ _ h.2 hJ trivial⟩
        · exact h.elim
      · split at h
        · exact ⟨h.1, hQ _ _ h.2 hJ trivial⟩
        · exact h.elim
      · split at h
        · exact ⟨h.1, hQ _ _ h.2 hJ trivial⟩
        · exact h.elim
      · split at h
        · exact ⟨h.1, hQ _ _ h.2 hJ trivial⟩
        · exact h.elim
      · split at h
        · rename_i k c hcl
          cases hb : Nat.ble 15 c with
          | true =>
            rw [hb] at h
            exact ⟨h.1, h.2.1, h.2.2.1, hQ _ _ h.2.2.2 (jw_A (by have := jw_cl hm hcl; omega) hJ) (jw_ce hm hcl hb)⟩
          | false =>
            rw [hb] at h
            simp only [cond_false] at h ⊢
            exact jw_s1J (ta_ok hm hat) h hJ fun q ls st G' hh hJ' => jw_XF hm hh hJ' hQ
        · exact h.elim
      · exact jw_s1J (ta_ok hm hat) h hJ fun q ls st G' hh hJ' => jw_XF hm hh hJ' hQ
/-- a run, with what it keeps -/
theorem jw_X {d mi pc : Nat} {ls : List (Option mj_V)} {st : List mj_V} {G : mj_G} {Q Q' : mj_O → mj_G → Prop} (hm : mi / 1000 < 13) (h : mj_X d mi pc ls st G Q) (hJ : jw_J G) (hQ : ∀ o G', Q o G' → jw_J G' → jw_o o → Q' o G') : mj_X d mi pc ls st G Q' := by
  obtain ⟨f, hf⟩ := h
  exact ⟨f, jw_XF hm hf hJ hQ⟩
