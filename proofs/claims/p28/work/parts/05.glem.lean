/-! LEMMAS of the small machine (out of whole's parts 10, 11, 15) -/
theorem mj_p_len : ∀ (ls : List (Option mj_V)) (k : Nat) (v : Option mj_V), (mj_p ls k v).length = ls.length
  | [], _, _ => rfl
  | _ :: xs, 0, v => rfl
  | x :: xs, n + 1, v => by simp only [mj_p, List.length_cons, mj_p_len xs n v]
theorem mj_g_p : ∀ (ls : List (Option mj_V)) (k j : Nat) (v : Option mj_V), mj_g (mj_p ls k v) j = if j = k ∧ k < ls.length then v else mj_g ls j
  | [], k, j, v => by simp [mj_p, mj_g]
  | x :: xs, 0, 0, v => by simp [mj_p, mj_g]
  | x :: xs, 0, j + 1, v => by simp [mj_p, mj_g]
  | x :: xs, n + 1, 0, v => by simp [mj_p, mj_g]
  | x :: xs, n + 1, j + 1, v => by simp [mj_p, mj_g, mj_g_p xs n j v]
theorem mj_g_lt : ∀ {ls : List (Option mj_V)} {k : Nat} {v : mj_V}, mj_g ls k = some v → k < ls.length
  | [], k, v, h => by simp [mj_g] at h
  | x :: xs, 0, v, h => by simp
  | x :: xs, n + 1, v, h => by
    have := mj_g_lt (ls := xs) (k := n) (v := v) h
    simp only [List.length_cons]
    omega
theorem mj_cl0_len (ls : List (Option mj_V)) (k : Nat) : (mj_cl0 ls k).length = ls.length := by
  unfold mj_cl0
  split
  · rfl
  · cases hL : mj_L (mj_g ls _) <;> simp [mj_p_len]
theorem mj_g_cl0 {ls : List (Option mj_V)} {k j : Nat} {v : mj_V} (h : mj_g (mj_cl0 ls k) j = some v) : mj_g ls j = some v ∧ ¬ (j + 1 = k ∧ mj_L (some v) = true) := by
  unfold mj_cl0 at h
  split at h
  · exact ⟨h, by omega⟩
  · rename_i n
    cases hL : mj_L (mj_g ls n) with
    | true =>
      rw [hL] at h
      simp only [cond_true] at h
      rw [mj_g_p] at h
      split at h
      · cases h
      · rename_i hn
        refine ⟨h, fun hq => hn ⟨by omega, ?_⟩⟩
        have := mj_g_lt h
        omega
    | false =>
      rw [hL] at h
      simp only [cond_false] at h
      refine ⟨h, fun hq => ?_⟩
      have e : j = n := by omega
      rw [e] at h
      rw [h, hq.2] at hL
      cases hL
/-! THE SMALL MACHINE IS DETERMINED, and takes room only -/
def mj_dt (G : mj_G) (F : mj_K → Prop) : Prop := ∀ K, F K → ∃ q ls st G', K q ls st G' ∧ mj_n G ≤ mj_n G' ∧ mj_u G ≤ mj_u G' ∧ ∀ K' : mj_K, K' q ls st G' → F K'
theorem mj_dt_k {G G' : mj_G} {q : Nat} {ls : List (Option mj_V)} {st : List mj_V} (hn : mj_n G ≤ mj_n G') (hu : mj_u G ≤ mj_u G') : mj_dt G (fun K => K q ls st G') := fun _ h => ⟨_, _, _, _, h, hn, hu, fun _ h => h⟩
theorem mj_dt_f {G : mj_G} : mj_dt G (fun _ => False) := fun _ h => h.elim
theorem mj_dt_a {G : mj_G} {c : Prop} {F : mj_K → Prop} (h : mj_dt G F) : mj_dt G (fun K => c ∧ F K) := fun K ⟨h1, h2⟩ => by
  obtain ⟨q, ls, st, G', a, b, c, d⟩ := h K h2
  exact ⟨q, ls, st, G', a, b, c, fun K' h => ⟨h1, d K' h⟩⟩
theorem mj_dt_b {G : mj_G} {c : Prop} {F1 F2 : mj_K → Prop} (h1 : mj_dt G F1) (h2 : mj_dt G F2) : mj_dt G (fun K => (c → F1 K) ∧ (¬ c → F2 K)) := fun K h => by
  by_cases hc : c
  · obtain ⟨q, ls, st, G', a, b, d, e⟩ := h1 K (h.1 hc)
    exact ⟨q, ls, st, G', a, b, d, fun K' h => ⟨fun _ => e K' h, fun n => absurd hc n⟩⟩
  · obtain ⟨q, ls, st, G', a, b, d, e⟩ := h2 K (h.2 hc)
    exact ⟨q, ls, st, G', a, b, d, fun K' h => ⟨fun n => absurd n hc, fun _ => e K' h⟩⟩
theorem mj_dt_b' {G : mj_G} {c : Prop} {F1 F2 : mj_K → Prop} (h1 : mj_dt G F1) (h2 : mj_dt G F2) : mj_dt G (fun K => (¬ c → F1 K) ∧ (c → F2 K)) := fun K h => by
  by_cases hc : c
  · obtain ⟨q, ls, st, G', a, b, d, e⟩ := h2 K (h.2 hc)
    exact ⟨q, ls, st, G', a, b, d, fun K' h => ⟨fun n => absurd hc n, fun _ => e K' h⟩⟩
  · obtain ⟨q, ls, st, G', a, b, d, e⟩ := h1 K (h.1 hc)
    exact ⟨q, ls, st, G', a, b, d, fun K' h => ⟨fun _ => e K' h, fun n => absurd n hc⟩⟩
theorem mj_dt_r {G : mj_G} {pc : Nat} {off : Int} {ls : List (Option mj_V)} {st : List mj_V} : mj_dt G (fun K => mj_br pc off (fun t => K t ls st G)) := fun K h => by
  unfold mj_br at h ⊢
  split at h
  · exact ⟨_, _, _, _, h, Nat.le_refl _, Nat.le_refl _, fun K' h => by simp_all⟩
  · exact h.elim
theorem mj_dt_s {G : mj_G} {x : Int32} {pc : Nat} {d : Int} {ls : List (Option mj_V)} {st : List mj_V} : ∀ l : List (Int × Int), mj_dt G (fun K => mj_sw x (mj_br pc d (fun t => K t ls st G)) (fun o => mj_br pc o (fun t => K t ls st G)) l)
  | [] => mj_dt_r
  | (k, o) :: ps => mj_dt_b mj_dt_r (mj_dt_s ps)
theorem mj_al_n (G : mj_G) (k n : Nat) (row : Nat → Int32) : mj_n G ≤ mj_n (mj_al G k n row) := Nat.le_succ _
theorem mj_al_u (G : mj_G) (k n : Nat) (row : Nat → Int32) : mj_u G ≤ mj_u (mj_al G k n row) := Nat.le_add_right _ _
theorem mj_dt_c {G : mj_G} {b : Bool} {F : mj_K → Prop} (h : mj_dt G F) : mj_dt G (fun K => bif b then F K else False) := by
  cases b
  · exact mj_dt_f
  · exact h
set_option maxHeartbeats 4000000 in
theorem mj_s1_dt {own : Nat} {ini : Bool} {i : Instr} {len pc : Nat} {ls : List (Option mj_V)} {st : List mj_V} {G : mj_G} : mj_dt G (fun K => mj_s1 own ini i len pc ls st G K) := by
  have e0 := @Nat.le_refl (mj_n G)
  have e1 := @Nat.le_refl (mj_u G)
  have k0 : ∀ {q ls st}, mj_dt G (fun K => K q ls st G) := mj_dt_k e0 e1
  have kI : ∀ {q ls st a k v}, mj_dt G (fun K => K q ls st (mj_pI G a k v)) := mj_dt_k e0 e1
  have kR : ∀ {q ls st a k v}, mj_dt G (fun K => K q ls st (mj_pR G a k v)) := mj_dt_k e0 e1
  have kJ : ∀ {q ls st a k v}, mj_dt G (fun K => K q ls st (mj_pJ G a k v)) := mj_dt_k e0 e1
  have kC : ∀ {q ls st a0 sp a dp n}, mj_dt G (fun K => K q ls st (mj_cp G a0 sp a dp n)) := mj_dt_k e0 e1
  have kA : ∀ {q ls st k n row}, mj_dt G (fun K => K q ls st (mj_al G k n row)) := mj_dt_k (mj_al_n _ _ _ _) (mj_al_u _ _ _ _)
  cases i
  case if_acmp c off =>
    cases c
    · unfold mj_s1
      exact mj_dt_f
    · unfold mj_s1
      intro K h
      dsimp only at h ⊢
      repeat' split at h
      · obtain ⟨h1, h2, h3, h4, h⟩ := h
        obtain ⟨q, ls', st', G', a, b, d, e⟩ := mj_dt_b' (F1 := fun K => mj_br _ _ (fun t => K t _ _ G)) (F2 := fun K => K _ _ _ G) mj_dt_r k0 K h
        exact ⟨q, ls', st', G', a, b, d, fun K' hK => ⟨h1, h2, h3, h4, e K' hK⟩⟩
      · exact h.elim
  all_goals (unfold mj_s1; intro K h; try unfold mj_b2 at *; try unfold mj_b2l at *; try unfold mj_ldi at *; try unfold mj_ldl at *; try unfold mj_lda at *; try unfold mj_sti at *; try unfold mj_stl at *; try unfold mj_sta at *; try unfold mj_ald at *; try unfold mj_ast at *; dsimp only at h ⊢)
  all_goals (try exact k0 K h)
  all_goals (try exact h.elim)
  all_goals (repeat' split at h)
  all_goals (try exact h.elim)
  all_goals (try exact k0 K h)
  all_goals first
    | exact ⟨_, _, _, _, h.2, Nat.le_refl _, Nat.le_refl _, fun _ hK => ⟨h.1, hK⟩⟩
    | exact ⟨_, _, _, _, h.2, mj_al_n _ _ _ _, mj_al_u _ _ _ _, fun _ hK => ⟨h.1, hK⟩⟩
    | exact ⟨_, _, _, _, h.2.2, Nat.le_refl _, Nat.le_refl _, fun _ hK => ⟨h.1, h.2.1, hK⟩⟩
    | exact ⟨_, _, _, _, h.2.2, mj_al_n _ _ _ _, mj_al_u _ _ _ _, fun _ hK => ⟨h.1, h.2.1, hK⟩⟩
    | exact ⟨_, _, _, _, h.2.2.2, Nat.le_refl _, Nat.le_refl _, fun _ hK => ⟨h.1, h.2.1, h.2.2.1, hK⟩⟩
    | exact ⟨_, _, _, _, h.2.2.2, mj_al_n _ _ _ _, mj_al_u _ _ _ _, fun _ hK => ⟨h.1, h.2.1, h.2.2.1, hK⟩⟩
    | exact ⟨_, _, _, _, h.2.2.2.2, Nat.le_refl _, Nat.le_refl _, fun _ hK => ⟨h.1, h.2.1, h.2.2.1, h.2.2.2.1, hK⟩⟩
    | exact ⟨_, _, _, _, h.2.2.2.2, mj_al_n _ _ _ _, mj_al_u _ _ _ _, fun _ hK => ⟨h.1, h.2.1, h.2.2.1, h.2.2.2.1, hK⟩⟩
    | exact ⟨_, _, _, _, h.2.2.2.2.2, Nat.le_refl _, Nat.le_refl _, fun _ hK => ⟨h.1, h.2.1, h.2.2.1, h.2.2.2.1, h.2.2.2.2.1, hK⟩⟩
    | exact ⟨_, _, _, _, h.2.2.2.2.2.2, Nat.le_refl _, Nat.le_refl _, fun _ hK => ⟨h.1, h.2.1, h.2.2.1, h.2.2.2.1, h.2.2.2.2.1, h.2.2.2.2.2.1, hK⟩⟩
    | exact ⟨_, _, _, _, h.2.2.2.2.2.2.2, Nat.le_refl _, Nat.le_refl _, fun _ hK => ⟨h.1, h.2.1, h.2.2.1, h.2.2.2.1, h.2.2.2.2.1, h.2.2.2.2.2.1, h.2.2.2.2.2.2.1, hK⟩⟩
    | exact ⟨_, _, _, _, h.2.2.2.2.2.2.2.2, Nat.le_refl _, Nat.le_refl _, fun _ hK => ⟨h.1, h.2.1, h.2.2.1, h.2.2.2.1, h.2.2.2.2.1, h.2.2.2.2.2.1, h.2.2.2.2.2.2.1, h.2.2.2.2.2.2.2.1, hK⟩⟩
    | exact ⟨_, _, _, _, h.2.2.2.2.2.2.2.2.2, Nat.le_refl _, Nat.le_refl _, fun _ hK => ⟨h.1, h.2.1, h.2.2.1, h.2.2.2.1, h.2.2.2.2.1, h.2.2.2.2.2.1, h.2.2.2.2.2.2.1, h.2.2.2.2.2.2.2.1, h.2.2.2.2.2.2.2.2.1, hK⟩⟩
    | exact ⟨_, _, _, _, h.2.2.2.2.2.2.2.2.2.2, Nat.le_refl _, Nat.le_refl _, fun _ hK => ⟨h.1, h.2.1, h.2.2.1, h.2.2.2.1, h.2.2.2.2.1, h.2.2.2.2.2.1, h.2.2.2.2.2.2.1, h.2.2.2.2.2.2.2.1, h.2.2.2.2.2.2.2.2.1, h.2.2.2.2.2.2.2.2.2.1, hK⟩⟩
    | exact ⟨_, _, _, _, h, mj_al_n _ _ _ _, mj_al_u _ _ _ _, fun _ hK => hK⟩
    | exact mj_dt_c (F := fun K => K _ _ _ G) k0 K h
    | exact mj_dt_r K h
    | exact mj_dt_b (F1 := fun K => mj_br _ _ (fun t => K t _ _ G)) (F2 := fun K => K _ _ _ G) mj_dt_r k0 K h
    | exact mj_dt_b' (F1 := fun K => mj_br _ _ (fun t => K t _ _ G)) (F2 := fun K => K _ _ _ G) mj_dt_r k0 K h
    | exact mj_dt_s _ K h
    | exact mj_dt_c (F := fun K => K _ _ _ (mj_al G _ _ _)) kA K h
    | exact (by cases hb : Nat.ble 15 _ <;> rw [hb] at h <;> first | exact False.elim h | exact ⟨_, _, _, _, h, mj_al_n _ _ _ _, mj_al_u _ _ _ _, fun _ hK => hK⟩)
    | (obtain ⟨h1, h2, h⟩ := h
       obtain ⟨q, ls', st', G', a, b, d, e⟩ := mj_dt_c (F := fun K => K _ _ _ _) (by first | exact k0 | exact kA) K h
       exact ⟨q, ls', st', G', a, b, d, fun K' hK => ⟨h1, h2, e K' hK⟩⟩)
    | exact h.2.elim
theorem mj_s1_mono {own : Nat} {ini : Bool} {i : Instr} {len pc : Nat} {ls : List (Option mj_V)} {st : List mj_V} {G : mj_G} {K K' : mj_K} (h : mj_s1 own ini i len pc ls st G K) (hk : ∀ q ls st G', K q ls st G' → K' q ls st G') : mj_s1 own ini i len pc ls st G K' := by
  obtain ⟨q, ls', st', G', a, -, -, d⟩ := mj_s1_dt K h
  exact d K' (hk _ _ _ _ a)
theorem mj_XF_mono : ∀ {f d mi pc : Nat} {ls : List (Option mj_V)} {st : List mj_V} {G : mj_G} {Q Q' : mj_O → mj_G → Prop}, mj_XF f d mi pc ls st G Q → (∀ o G, Q o G → Q' o G) → mj_XF f d mi pc ls st G Q'
  | 0, _, _, _, _, _, _, _, _, h, _ => h.elim
  | f + 1, d, mi, pc, ls, st, G, Q, Q', h, hQ => by
    unfold mj_XF at h ⊢
    split at h
    · exact h.elim
    rename_i i len hat
    split at h
    · rename_i mt htg
      split at h
      · exact h.elim
      · rename_i as rest htk
        obtain ⟨h1, h2, d', h3, h4⟩ := h
        refine ⟨h1, h2, d', h3, mj_XF_mono h4 fun o G' ho => ?_⟩
        split at ho
        · exact mj_XF_mono ho hQ
        · exact mj_XF_mono ho hQ
        · obtain ⟨a, b, c⟩ := ho
          refine ⟨a, b, ?_⟩
          split at c
          · exact c.elim
          · rename_i q x hhn
            exact mj_XF_mono c hQ
    · rename_i htg
      split at h
      · split at h
        · exact ⟨h.1, hQ _ _ h.2⟩
        · exact h.elim
      · split at h
        · exact ⟨h.1, hQ _ _ h.2⟩
        · exact h.elim
      · split at h
        · exact ⟨h.1, hQ _ _ h.2⟩
        · exact h.elim
      · split at h
        · exact ⟨h.1, hQ _ _ h.2⟩
        · exact h.elim
      · split at h
        · rename_i k c hcl
          cases hb : Nat.ble 15 c with
          | true =>
            rw [hb] at h
            exact ⟨h.1, h.2.1, h.2.2.1, hQ _ _ h.2.2.2⟩
          | false =>
            rw [hb] at h
            simp only [cond_false] at h ⊢
            exact mj_s1_mono h fun q ls st G' hh => mj_XF_mono hh hQ
        · exact h.elim
      · exact mj_s1_mono h fun q ls st G' hh => mj_XF_mono hh hQ
theorem mj_XF_det : ∀ {f d mi pc : Nat} {ls : List (Option mj_V)} {st : List mj_V} {G : mj_G} {Q : mj_O → mj_G → Prop}, mj_XF f d mi pc ls st G Q → ∃ o G', Q o G' ∧ mj_n G ≤ mj_n G' ∧ mj_u G ≤ mj_u G' ∧ mj_XF f d mi pc ls st G (fun a b => a = o ∧ b = G')
  | 0, _, _, _, _, _, _, _, h => h.elim
  | f + 1, d, mi, pc, ls, st, G, Q, h => by
    unfold mj_XF at h ⊢
    split at h
    · exact h.elim
    rename_i i len hat
    split at h
    · rename_i mt htg
      split at h
      · exact h.elim
      · rename_i as rest htk
        obtain ⟨h1, h2, d', h3, h4⟩ := h
        obtain ⟨o1, G1, a1, a2, a3, a4⟩ := mj_XF_det h4
        split at a1
        · obtain ⟨o, G', b1, b2, b3, b4⟩ := mj_XF_det a1
          refine ⟨o, G', b1, Nat.le_trans a2 b2, Nat.le_trans a3 b3, h1, h2, d', h3, mj_XF_mono a4 fun x y hxy => ?_⟩
          obtain ⟨rfl, rfl⟩ := hxy
          exact b4
        · obtain ⟨o, G', b1, b2, b3, b4⟩ := mj_XF_det a1
          refine ⟨o, G', b1, Nat.le_trans a2 b2, Nat.le_trans a3 b3, h1, h2, d', h3, mj_XF_mono a4 fun x y hxy => ?_⟩
          obtain ⟨rfl, rfl⟩ := hxy
          exact b4
        · obtain ⟨c1, c2, c3⟩ := a1
          split at c3
          · exact c3.elim
          · rename_i q x hhn
            obtain ⟨o, G', b1, b2, b3, b4⟩ := mj_XF_det c3
            refine ⟨o, G', b1, Nat.le_trans a2 b2, Nat.le_trans a3 b3, h1, h2, d', h3, mj_XF_mono a4 fun x y hxy => ?_⟩
            obtain ⟨rfl, rfl⟩ := hxy
            refine ⟨c1, c2, ?_⟩
            rw [hhn]
            exact b4
    · rename_i htg
      split at h
      · split at h
        · exact ⟨_, _, h.2, Nat.le_refl _, Nat.le_refl _, h.1, rfl, rfl⟩
        · exact h.elim
      · split at h
        · exact ⟨_, _, h.2, Nat.le_refl _, Nat.le_refl _, h.1, rfl, rfl⟩
        · exact h.elim
      · split at h
        · exact ⟨_, _, h.2, Nat.le_refl _, Nat.le_refl _, h.1, rfl, rfl⟩
        · exact h.elim
      · split at h
        · exact ⟨_, _, h.2, Nat.le_refl _, Nat.le_refl _, h.1, rfl, rfl⟩
        · exact h.elim
      · split at h
        · rename_i k c hcl
          cases hb : Nat.ble 15 c with
          | true =>
            rw [hb] at h
            exact ⟨_, _, h.2.2.2, mj_al_n _ _ _ _, mj_al_u _ _ _ _, h.1, h.2.1, h.2.2.1, rfl, rfl⟩
          | false =>
            rw [hb] at h
            simp only [cond_false] at h ⊢
            obtain ⟨q, ls', st', G1, a1, a2, a3, a4⟩ := mj_s1_dt _ h
            obtain ⟨o, G', b1, b2, b3, b4⟩ := mj_XF_det a1
            exact ⟨o, G', b1, Nat.le_trans a2 b2, Nat.le_trans a3 b3, a4 _ b4⟩
        · exact h.elim
      · obtain ⟨q, ls', st', G1, a1, a2, a3, a4⟩ := mj_s1_dt _ h
        obtain ⟨o, G', b1, b2, b3, b4⟩ := mj_XF_det a1
        exact ⟨o, G', b1, Nat.le_trans a2 b2, Nat.le_trans a3 b3, a4 _ b4⟩

theorem mj_ldi_e {ls : List (Option mj_V)} {k : Nat} {K : mj_V → Prop} (h : mj_ldi ls k K) : ∃ x, mj_g ls k = some (.inl x) ∧ K (.inl x) := by
  unfold mj_ldi at h
  split at h
  · rename_i x hx
    exact ⟨x, hx, h⟩
  · exact h.elim
theorem mj_ldl_e {ls : List (Option mj_V)} {k : Nat} {K : mj_V → Prop} (h : mj_ldl ls k K) : ∃ x, mj_g ls k = some (.inr (.inl x)) ∧ K (.inr (.inl x)) := by
  unfold mj_ldl at h
  split at h
  · rename_i x hx
    exact ⟨x, hx, h⟩
  · exact h.elim
theorem mj_lda_e {ls : List (Option mj_V)} {k : Nat} {K : mj_V → Prop} (h : mj_lda ls k K) : ∃ x, mj_g ls k = some (.inr (.inr x)) ∧ K (.inr (.inr x)) := by
  unfold mj_lda at h
  split at h
  · rename_i x hx
    exact ⟨x, hx, h⟩
  · exact h.elim
theorem mj_cond_e {b : Bool} {P : Prop} (h : bif b then P else False) : b = true ∧ P := by
  cases b with
  | true => exact ⟨rfl, h⟩
  | false => exact h.elim
theorem mj_sti_e {ls : List (Option mj_V)} {k : Nat} {st : List mj_V} {K : List (Option mj_V) → List mj_V → Prop} (h : mj_sti ls k st K) : ∃ x st', st = .inl x :: st' ∧ k < ls.length ∧ K (mj_s ls k (.inl x)) st' := by
  unfold mj_sti at h
  split at h
  · obtain ⟨h1, h2⟩ := mj_cond_e h
    exact ⟨_, _, rfl, of_decide_eq_true h1, h2⟩
  · exact h.elim
theorem mj_stl_e {ls : List (Option mj_V)} {k : Nat} {st : List mj_V} {K : List (Option mj_V) → List mj_V → Prop} (h : mj_stl ls k st K) : ∃ x st', st = .inr (.inl x) :: st' ∧ k + 1 < ls.length ∧ K (mj_sL ls k (.inr (.inl x))) st' := by
  unfold mj_stl at h
  split at h
  · obtain ⟨h1, h2⟩ := mj_cond_e h
    exact ⟨_, _, rfl, of_decide_eq_true h1, h2⟩
  · exact h.elim
theorem mj_sta_e {ls : List (Option mj_V)} {k : Nat} {st : List mj_V} {K : List (Option mj_V) → List mj_V → Prop} (h : mj_sta ls k st K) : ∃ x st', st = .inr (.inr x) :: st' ∧ k < ls.length ∧ K (mj_s ls k (.inr (.inr x))) st' := by
  unfold mj_sta at h
  split at h
  · obtain ⟨h1, h2⟩ := mj_cond_e h
    exact ⟨_, _, rfl, of_decide_eq_true h1, h2⟩
  · exact h.elim
def mj_G0 (L : Nat) (xs : Nat → Int32) : mj_G := (3, 0, fun a => if a = 1 then 20 else if a = 2 then 22 else 0, fun a => if a = 1 then L else 0, fun a k => if a = 1 then xs k else 0, fun _ _ => 0, fun _ _ => 0)
