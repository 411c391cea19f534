/-! THE SMALL MACHINE IS DETERMINED, and takes room only -/
def rj_dt (G : mj_G) (F : mj_K → Prop) : Prop := ∀ K, F K → ∃ q ls st G', K q ls st G' ∧ mj_n G ≤ mj_n G' ∧ mj_u G ≤ mj_u G' ∧ ∀ K' : mj_K, K' q ls st G' → F K'
theorem rj_dt_k {G G' : mj_G} {q : Nat} {ls : List (Option mj_V)} {st : List mj_V} (hn : mj_n G ≤ mj_n G') (hu : mj_u G ≤ mj_u G') : rj_dt G (fun K => K q ls st G') := fun _ h => ⟨_, _, _, _, h, hn, hu, fun _ h => h⟩
theorem rj_dt_f {G : mj_G} : rj_dt G (fun _ => False) := fun _ h => h.elim
theorem rj_dt_a {G : mj_G} {c : Prop} {F : mj_K → Prop} (h : rj_dt G F) : rj_dt G (fun K => c ∧ F K) := fun K ⟨h1, h2⟩ => by
  obtain ⟨q, ls, st, G', a, b, c, d⟩ := h K h2
  exact ⟨q, ls, st, G', a, b, c, fun K' h => ⟨h1, d K' h⟩⟩
theorem rj_dt_b {G : mj_G} {c : Prop} {F1 F2 : mj_K → Prop} (h1 : rj_dt G F1) (h2 : rj_dt G F2) : rj_dt G (fun K => (c → F1 K) ∧ (¬ c → F2 K)) := fun K h => by
  by_cases hc : c
  · obtain ⟨q, ls, st, G', a, b, d, e⟩ := h1 K (h.1 hc)
    exact ⟨q, ls, st, G', a, b, d, fun K' h => ⟨fun _ => e K' h, fun n => absurd hc n⟩⟩
  · obtain ⟨q, ls, st, G', a, b, d, e⟩ := h2 K (h.2 hc)
    exact ⟨q, ls, st, G', a, b, d, fun K' h => ⟨fun n => absurd n hc, fun _ => e K' h⟩⟩
theorem rj_dt_b' {G : mj_G} {c : Prop} {F1 F2 : mj_K → Prop} (h1 : rj_dt G F1) (h2 : rj_dt G F2) : rj_dt G (fun K => (¬ c → F1 K) ∧ (c → F2 K)) := fun K h => by
  by_cases hc : c
  · obtain ⟨q, ls, st, G', a, b, d, e⟩ := h2 K (h.2 hc)
    exact ⟨q, ls, st, G', a, b, d, fun K' h => ⟨fun n => absurd hc n, fun _ => e K' h⟩⟩
  · obtain ⟨q, ls, st, G', a, b, d, e⟩ := h1 K (h.1 hc)
    exact ⟨q, ls, st, G', a, b, d, fun K' h => ⟨fun _ => e K' h, fun n => absurd n hc⟩⟩
theorem rj_dt_r {G : mj_G} {pc : Nat} {off : Int} {ls : List (Option mj_V)} {st : List mj_V} : rj_dt G (fun K => mj_br pc off (fun t => K t ls st G)) := fun K h => by
  unfold mj_br at h ⊢
  split at h
  · exact ⟨_, _, _, _, h, Nat.le_refl _, Nat.le_refl _, fun K' h => by simp_all⟩
  · exact h.elim
theorem rj_dt_s {G : mj_G} {x : Int32} {pc : Nat} {d : Int} {ls : List (Option mj_V)} {st : List mj_V} : ∀ l : List (Int × Int), rj_dt G (fun K => mj_sw x (mj_br pc d (fun t => K t ls st G)) (fun o => mj_br pc o (fun t => K t ls st G)) l)
  | [] => rj_dt_r
  | (k, o) :: ps => rj_dt_b rj_dt_r (rj_dt_s ps)
theorem rj_al_n (G : mj_G) (k n : Nat) (row : Nat → Int32) : mj_n G ≤ mj_n (mj_al G k n row) := Nat.le_succ _
theorem rj_al_u (G : mj_G) (k n : Nat) (row : Nat → Int32) : mj_u G ≤ mj_u (mj_al G k n row) := Nat.le_add_right _ _
theorem rj_dt_c {G : mj_G} {b : Bool} {F : mj_K → Prop} (h : rj_dt G F) : rj_dt G (fun K => bif b then F K else False) := by
  cases b
  · exact rj_dt_f
  · exact h
set_option maxHeartbeats 4000000 in
theorem rj_s1_dt {own : Nat} {ini : Bool} {i : Instr} {len pc : Nat} {ls : List (Option mj_V)} {st : List mj_V} {G : mj_G} : rj_dt G (fun K => rj_s1 own ini i len pc ls st G K) := by
  have e0 := @Nat.le_refl (mj_n G)
  have e1 := @Nat.le_refl (mj_u G)
  have k0 : ∀ {q ls st}, rj_dt G (fun K => K q ls st G) := rj_dt_k e0 e1
  have kI : ∀ {q ls st a k v}, rj_dt G (fun K => K q ls st (mj_pI G a k v)) := rj_dt_k e0 e1
  have kR : ∀ {q ls st a k v}, rj_dt G (fun K => K q ls st (mj_pR G a k v)) := rj_dt_k e0 e1
  have kJ : ∀ {q ls st a k v}, rj_dt G (fun K => K q ls st (mj_pJ G a k v)) := rj_dt_k e0 e1
  have kC : ∀ {q ls st a0 sp a dp n}, rj_dt G (fun K => K q ls st (mj_cp G a0 sp a dp n)) := rj_dt_k e0 e1
  have kA : ∀ {q ls st k n row}, rj_dt G (fun K => K q ls st (mj_al G k n row)) := rj_dt_k (rj_al_n _ _ _ _) (rj_al_u _ _ _ _)
  cases i
  case if_acmp c off =>
    cases c
    · unfold rj_s1
      exact rj_dt_f
    · unfold rj_s1
      intro K h
      dsimp only at h ⊢
      repeat' split at h
      · obtain ⟨h1, h2, h3, h4, h⟩ := h
        obtain ⟨q, ls', st', G', a, b, d, e⟩ := rj_dt_b' (F1 := fun K => mj_br _ _ (fun t => K t _ _ G)) (F2 := fun K => K _ _ _ G) rj_dt_r k0 K h
        exact ⟨q, ls', st', G', a, b, d, fun K' hK => ⟨h1, h2, h3, h4, e K' hK⟩⟩
      · exact h.elim
  all_goals (unfold rj_s1; intro K h; try unfold mj_b2 at *; try unfold mj_b2l at *; try unfold mj_ldi at *; try unfold mj_ldl at *; try unfold mj_lda at *; try unfold mj_sti at *; try unfold mj_stl at *; try unfold mj_sta at *; try unfold mj_ald at *; try unfold mj_ast at *; dsimp only at h ⊢)
  all_goals (try exact k0 K h)
  all_goals (try exact h.elim)
  all_goals (repeat' split at h)
  all_goals (try exact h.elim)
  all_goals (try exact k0 K h)
  all_goals first
    | exact ⟨_, _, _, _, h.2, Nat.le_refl _, Nat.le_refl _, fun _ hK => ⟨h.1, hK⟩⟩
    | exact ⟨_, _, _, _, h.2, rj_al_n _ _ _ _, rj_al_u _ _ _ _, fun _ hK => ⟨h.1, hK⟩⟩
    | exact ⟨_, _, _, _, h.2.2, Nat.le_refl _, Nat.le_refl _, fun _ hK => ⟨h.1, h.2.1, hK⟩⟩
    | exact ⟨_, _, _, _, h.2.2, rj_al_n _ _ _ _, rj_al_u _ _ _ _, fun _ hK => ⟨h.1, h.2.1, hK⟩⟩
    | exact ⟨_, _, _, _, h.2.2.2, Nat.le_refl _, Nat.le_refl _, fun _ hK => ⟨h.1, h.2.1, h.2.2.1, hK⟩⟩
    | exact ⟨_, _, _, _, h.2.2.2, rj_al_n _ _ _ _, rj_al_u _ _ _ _, fun _ hK => ⟨h.1, h.2.1, h.2.2.1, hK⟩⟩
    | exact ⟨_, _, _, _, h.2.2.2.2, Nat.le_refl _, Nat.le_refl _, fun _ hK => ⟨h.1, h.2.1, h.2.2.1, h.2.2.2.1, hK⟩⟩
    | exact ⟨_, _, _, _, h.2.2.2.2, rj_al_n _ _ _ _, rj_al_u _ _ _ _, fun _ hK => ⟨h.1, h.2.1, h.2.2.1, h.2.2.2.1, hK⟩⟩
    | exact ⟨_, _, _, _, h.2.2.2.2.2, Nat.le_refl _, Nat.le_refl _, fun _ hK => ⟨h.1, h.2.1, h.2.2.1, h.2.2.2.1, h.2.2.2.2.1, hK⟩⟩
    | exact ⟨_, _, _, _, h.2.2.2.2.2.2, Nat.le_refl _, Nat.le_refl _, fun _ hK => ⟨h.1, h.2.1, h.2.2.1, h.2.2.2.1, h.2.2.2.2.1, h.2.2.2.2.2.1, hK⟩⟩
    | exact ⟨_, _, _, _, h.2.2.2.2.2.2.2, Nat.le_refl _, Nat.le_refl _, fun _ hK => ⟨h.1, h.2.1, h.2.2.1, h.2.2.2.1, h.2.2.2.2.1, h.2.2.2.2.2.1, h.2.2.2.2.2.2.1, hK⟩⟩
    | exact ⟨_, _, _, _, h.2.2.2.2.2.2.2.2, Nat.le_refl _, Nat.le_refl _, fun _ hK => ⟨h.1, h.2.1, h.2.2.1, h.2.2.2.1, h.2.2.2.2.1, h.2.2.2.2.2.1, h.2.2.2.2.2.2.1, h.2.2.2.2.2.2.2.1, hK⟩⟩
    | exact ⟨_, _, _, _, h.2.2.2.2.2.2.2.2.2, Nat.le_refl _, Nat.le_refl _, fun _ hK => ⟨h.1, h.2.1, h.2.2.1, h.2.2.2.1, h.2.2.2.2.1, h.2.2.2.2.2.1, h.2.2.2.2.2.2.1, h.2.2.2.2.2.2.2.1, h.2.2.2.2.2.2.2.2.1, hK⟩⟩
    | exact ⟨_, _, _, _, h.2.2.2.2.2.2.2.2.2.2, Nat.le_refl _, Nat.le_refl _, fun _ hK => ⟨h.1, h.2.1, h.2.2.1, h.2.2.2.1, h.2.2.2.2.1, h.2.2.2.2.2.1, h.2.2.2.2.2.2.1, h.2.2.2.2.2.2.2.1, h.2.2.2.2.2.2.2.2.1, h.2.2.2.2.2.2.2.2.2.1, hK⟩⟩
    | exact ⟨_, _, _, _, h, rj_al_n _ _ _ _, rj_al_u _ _ _ _, fun _ hK => hK⟩
    | exact rj_dt_c (F := fun K => K _ _ _ G) k0 K h
    | exact rj_dt_r K h
    | exact rj_dt_b (F1 := fun K => mj_br _ _ (fun t => K t _ _ G)) (F2 := fun K => K _ _ _ G) rj_dt_r k0 K h
    | exact rj_dt_b' (F1 := fun K => mj_br _ _ (fun t => K t _ _ G)) (F2 := fun K => K _ _ _ G) rj_dt_r k0 K h
    | exact rj_dt_s _ K h
    | exact rj_dt_c (F := fun K => K _ _ _ (mj_al G _ _ _)) kA K h
    | exact (by cases hb : Nat.ble 15 _ <;> rw [hb] at h <;> first | exact False.elim h | exact ⟨_, _, _, _, h, rj_al_n _ _ _ _, rj_al_u _ _ _ _, fun _ hK => hK⟩)
    | (obtain ⟨h1, h2, h⟩ := h
       obtain ⟨q, ls', st', G', a, b, d, e⟩ := rj_dt_c (F := fun K => K _ _ _ _) (by first | exact k0 | exact kA) K h
       exact ⟨q, ls', st', G', a, b, d, fun K' hK => ⟨h1, h2, e K' hK⟩⟩)
    | exact h.2.elim
theorem rj_s1_mono {own : Nat} {ini : Bool} {i : Instr} {len pc : Nat} {ls : List (Option mj_V)} {st : List mj_V} {G : mj_G} {K K' : mj_K} (h : rj_s1 own ini i len pc ls st G K) (hk : ∀ q ls st G', K q ls st G' → K' q ls st G') : rj_s1 own ini i len pc ls st G K' := by
  obtain ⟨q, ls', st', G', a, -, -, d⟩ := rj_s1_dt K h
  exact d K' (hk _ _ _ _ a)
theorem rj_XF_mono : ∀ {f d mi pc : Nat} {ls : List (Option mj_V)} {st : List mj_V} {G : mj_G} {Q Q' : mj_O → mj_G → Prop}, rj_XF f d mi pc ls st G Q → (∀ o G, Q o G → Q' o G) → rj_XF f d mi pc ls st G Q'
  | 0, _, _, _, _, _, _, _, _, h, _ => h.elim
  | f + 1, d, mi, pc, ls, st, G, Q, Q', h, hQ => by
    unfold rj_XF at h ⊢
    split at h
    · exact h.elim
    rename_i i len hat
    split at h
    · rename_i mt htg
      split at h
      · exact h.elim
      · rename_i as rest htk
        obtain ⟨h1, h2, d', h3, h4⟩ := h
        refine ⟨h1, h2, d', h3, rj_XF_mono h4 fun o G' ho => ?_⟩
        split at ho
        · exact rj_XF_mono ho hQ
        · exact rj_XF_mono ho hQ
        · obtain ⟨b, c⟩ := ho
          refine ⟨b, ?_⟩
          split at c
          · exact ⟨c.1, hQ _ _ c.2⟩
          · rename_i q x hhn
            exact ⟨c.1, rj_XF_mono c.2 hQ⟩
    · rename_i htg
      split at h
      · split at h
        · exact ⟨h.1, hQ _ _ h.2⟩
        · exact h.elim
      · split at h
        · exact ⟨h.1, hQ _ _ h.2⟩
        · exact h.elim
      · split at h
        · exact ⟨h.1, hQ _ _ h.2⟩
        · exact h.elim
      · split at h
        · exact ⟨h.1, hQ _ _ h.2⟩
        · exact h.elim
      · split at h
        · rename_i k c hcl
          cases hb : Nat.ble 15 c with
          | true =>
            rw [hb] at h
            exact ⟨h.1, h.2.1, h.2.2.1, hQ _ _ h.2.2.2⟩
          | false =>
            rw [hb] at h
            simp only [cond_false] at h ⊢
            exact rj_s1_mono h fun q ls st G' hh => rj_XF_mono hh hQ
        · exact h.elim
      · exact rj_s1_mono h fun q ls st G' hh => rj_XF_mono hh hQ
theorem rj_XF_det : ∀ {f d mi pc : Nat} {ls : List (Option mj_V)} {st : List mj_V} {G : mj_G} {Q : mj_O → mj_G → Prop}, rj_XF f d mi pc ls st G Q → ∃ o G', Q o G' ∧ mj_n G ≤ mj_n G' ∧ mj_u G ≤ mj_u G' ∧ rj_XF f d mi pc ls st G (fun a b => a = o ∧ b = G')
  | 0, _, _, _, _, _, _, _, h => h.elim
  | f + 1, d, mi, pc, ls, st, G, Q, h => by
    unfold rj_XF at h ⊢
    split at h
    · exact h.elim
    rename_i i len hat
    split at h
    · rename_i mt htg
      split at h
      · exact h.elim
      · rename_i as rest htk
        obtain ⟨h1, h2, d', h3, h4⟩ := h
        obtain ⟨o1, G1, a1, a2, a3, a4⟩ := rj_XF_det h4
        split at a1
        · obtain ⟨o, G', b1, b2, b3, b4⟩ := rj_XF_det a1
          refine ⟨o, G', b1, Nat.le_trans a2 b2, Nat.le_trans a3 b3, h1, h2, d', h3, rj_XF_mono a4 fun x y hxy => ?_⟩
          obtain ⟨rfl, rfl⟩ := hxy
          exact b4
        · obtain ⟨o, G', b1, b2, b3, b4⟩ := rj_XF_det a1
          refine ⟨o, G', b1, Nat.le_trans a2 b2, Nat.le_trans a3 b3, h1, h2, d', h3, rj_XF_mono a4 fun x y hxy => ?_⟩
          obtain ⟨rfl, rfl⟩ := hxy
          exact b4
        · obtain ⟨c2, c3⟩ := a1
          split at c3
          · rename_i hhn
            refine ⟨_, _, c3.2, a2, a3, h1, h2, d', h3, rj_XF_mono a4 fun x y hxy => ?_⟩
            obtain ⟨rfl, rfl⟩ := hxy
            refine ⟨c2, ?_⟩
            rw [hhn]
            exact ⟨c3.1, rfl, rfl⟩
          · rename_i q x hhn
            obtain ⟨o, G', b1, b2, b3, b4⟩ := rj_XF_det c3.2
            refine ⟨o, G', b1, Nat.le_trans a2 b2, Nat.le_trans a3 b3, h1, h2, d', h3, rj_XF_mono a4 fun x y hxy => ?_⟩
            obtain ⟨rfl, rfl⟩ := hxy
            refine ⟨c2, ?_⟩
            rw [hhn]
            exact ⟨c3.1, b4⟩
    · rename_i htg
      split at h
      · split at h
        · exact ⟨_, _, h.2, Nat.le_refl _, Nat.le_refl _, h.1, rfl, rfl⟩
        · exact h.elim
      · split at h
        · exact ⟨_, _, h.2, Nat.le_refl _, Nat.le_refl _, h.1, rfl, rfl⟩
        · exact h.elim
      · split at h
        · exact ⟨_, _, h.2, Nat.le_refl _, Nat.le_refl _, h.1, rfl, rfl⟩
        · exact h.elim
      · split at h
        · exact ⟨_, _, h.2, Nat.le_refl _, Nat.le_refl _, h.1, rfl, rfl⟩
        · exact h.elim
      · split at h
        · rename_i k c hcl
          cases hb : Nat.ble 15 c with
          | true =>
            rw [hb] at h
            exact ⟨_, _, h.2.2.2, rj_al_n _ _ _ _, rj_al_u _ _ _ _, h.1, h.2.1, h.2.2.1, rfl, rfl⟩
          | false =>
            rw [hb] at h
            simp only [cond_false] at h ⊢
            obtain ⟨q, ls', st', G1, a1, a2, a3, a4⟩ := rj_s1_dt _ h
            obtain ⟨o, G', b1, b2, b3, b4⟩ := rj_XF_det a1
            exact ⟨o, G', b1, Nat.le_trans a2 b2, Nat.le_trans a3 b3, a4 _ b4⟩
        · exact h.elim
      · obtain ⟨q, ls', st', G1, a1, a2, a3, a4⟩ := rj_s1_dt _ h
        obtain ⟨o, G', b1, b2, b3, b4⟩ := rj_XF_det a1
        exact ⟨o, G', b1, Nat.le_trans a2 b2, Nat.le_trans a3 b3, a4 _ b4⟩
