/-! RUNS WITH FUEL ENOUGH (out of whole's 24c, 30, 31) -/
theorem rj_XF_fuel1 : ∀ {f d mi pc : Nat} {ls : List (Option mj_V)} {st : List mj_V} {G : mj_G} {Q : mj_O → mj_G → Prop}, rj_XF f d mi pc ls st G Q → rj_XF (f + 1) d mi pc ls st G Q
  | 0, _, _, _, _, _, _, _, h => h.elim
  | f + 1, d, mi, pc, ls, st, G, Q, h => by
    unfold rj_XF at h ⊢
    cases hat : rj_at mi pc with
    | none => rw [hat] at h; exact h.elim
    | some il =>
      obtain ⟨i, len⟩ := il
      rw [hat] at h
      dsimp only at h ⊢
      cases htg : rj_tg (mi / 1000) i with
      | some mt =>
        rw [htg] at h
        dsimp only at h ⊢
        cases htk : mj_tk (rj_na mt) [] st with
        | none => rw [htk] at h; exact h.elim
        | some ar =>
          obtain ⟨as, rest⟩ := ar
          rw [htk] at h
          dsimp only at h ⊢
          obtain ⟨hw, hrc, d', hd, hX⟩ := h
          refine ⟨hw, hrc, d', hd, rj_XF_mono (rj_XF_fuel1 hX) fun o G' hm => ?_⟩
          rcases o with (_ | v) | k
          · exact rj_XF_fuel1 hm
          · exact rj_XF_fuel1 hm
          · obtain ⟨g2, g3⟩ := hm
            refine ⟨g2, ?_⟩
            cases hhn : rj_hn mi k with
            | none => rw [hhn] at g3; exact g3
            | some qx =>
              obtain ⟨q, x⟩ := qx
              rw [hhn] at g3
              exact ⟨g3.1, rj_XF_fuel1 g3.2⟩
      | none =>
        rw [htg] at h
        dsimp only at h ⊢
        split at h
        · exact h
        · exact h
        · exact h
        · exact h
        · rename_i k
          cases hc : rj_cl (mi / 1000) k with
          | none => rw [hc] at h; exact h.elim
          | some c =>
            rw [hc] at h
            dsimp only at h ⊢
            cases hb : Nat.ble 15 c with
            | true => rw [hb] at h; exact h
            | false =>
              rw [hb] at h
              simp only [cond_false] at h ⊢
              exact rj_s1_mono h fun _ _ _ _ hk => rj_XF_fuel1 hk
        · exact rj_s1_mono h fun _ _ _ _ hk => rj_XF_fuel1 hk
theorem rj_XF_fuel {f d mi pc : Nat} {ls : List (Option mj_V)} {st : List mj_V} {G : mj_G} {Q : mj_O → mj_G → Prop} (h : rj_XF f d mi pc ls st G Q) : ∀ k, rj_XF (f + k) d mi pc ls st G Q
  | 0 => h
  | k + 1 => rj_XF_fuel1 (rj_XF_fuel h k)
/-- with fuel enough -/
def rj_X (d mi pc : Nat) (ls : List (Option mj_V)) (st : List mj_V) (G : mj_G) (Q : mj_O → mj_G → Prop) : Prop := ∃ f, rj_XF f d mi pc ls st G Q
theorem rj_X_call {d mi pc len mt : Nat} {i : Instr} {ls : List (Option mj_V)} {st as rest : List mj_V} {G G1 : mj_G} {o1 : mj_O} {Q : mj_O → mj_G → Prop} (hat : rj_at mi pc = some (i, len)) (htg : rj_tg (mi / 1000) i = some mt) (htk : mj_tk (rj_na mt) [] st = some (as, rest)) (hw : mj_w rest ≤ 8) (hrc : rj_rc G mt as)
    (h1 : rj_X d mt 0 (mj_en as (rj_mL mt)) [] G (fun a b => a = o1 ∧ b = G1))
    (h2 : match o1 with
      | .inl none => rj_X (d + 1) mi (pc + len) ls rest G1 Q
      | .inl (some v) => rj_X (d + 1) mi (pc + len) ls (v :: rest) G1 Q
      | .inr k => rj_kd mt = 1 ∧ (match rj_hn mi k with | none => rj_kd mi = 1 ∧ Q (.inr k) G1 | some (q, x) => rj_kd mi = 2 ∧ rj_X (d + 1) mi q (mj_p (mj_cl0 ls x) x none) [] G1 Q)) : rj_X (d + 1) mi pc ls st G Q := by
  obtain ⟨f1, h1⟩ := h1
  have key : ∀ f2, (match o1 with
      | .inl none => rj_XF f2 (d + 1) mi (pc + len) ls rest G1 Q
      | .inl (some v) => rj_XF f2 (d + 1) mi (pc + len) ls (v :: rest) G1 Q
      | .inr k => rj_kd mt = 1 ∧ (match rj_hn mi k with | none => rj_kd mi = 1 ∧ Q (.inr k) G1 | some (q, x) => rj_kd mi = 2 ∧ rj_XF f2 (d + 1) mi q (mj_p (mj_cl0 ls x) x none) [] G1 Q)) → rj_X (d + 1) mi pc ls st G Q := by
    intro f2 h2
    refine ⟨f1 + f2 + 1, ?_⟩
    unfold rj_XF
    rw [hat]
    dsimp only
    rw [htg]
    dsimp only
    rw [htk]
    dsimp only
    refine ⟨hw, hrc, d, rfl, rj_XF_mono (rj_XF_fuel h1 f2) fun o G' hm => ?_⟩
    obtain ⟨rfl, rfl⟩ := hm
    have up : ∀ {q ls st G}, rj_XF f2 (d + 1) mi q ls st G Q → rj_XF (f1 + f2) (d + 1) mi q ls st G Q := fun h => by
      rw [Nat.add_comm]
      exact rj_XF_fuel h f1
    rcases o with (_ | v) | k
    · exact up h2
    · exact up h2
    · obtain ⟨g2, g3⟩ := h2
      refine ⟨g2, ?_⟩
      cases hhn : rj_hn mi k with
      | none => rw [hhn] at g3; exact g3
      | some qx =>
        obtain ⟨q, x⟩ := qx
        rw [hhn] at g3
        exact ⟨g3.1, up g3.2⟩
  rcases o1 with (_ | v) | k
  · obtain ⟨f2, h2⟩ := h2
    exact key f2 h2
  · obtain ⟨f2, h2⟩ := h2
    exact key f2 h2
  · obtain ⟨g2, g3⟩ := h2
    cases hhn : rj_hn mi k with
    | none =>
      rw [hhn] at g3
      refine key 0 ⟨g2, ?_⟩
      rw [hhn]
      exact g3
    | some qx =>
      obtain ⟨q, x⟩ := qx
      rw [hhn] at g3
      obtain ⟨g1, f2, h2⟩ := g3
      refine key f2 ⟨g2, ?_⟩
      rw [hhn]
      exact ⟨g1, h2⟩
section X22
variable {i : Instr} {f d mi len pc : Nat}
theorem rj_XF_ir {ls : List (Option mj_V)} {G : mj_G} {Q : mj_O → mj_G → Prop} {x : Int32} (hat : rj_at mi pc = some (.ireturn, len)) (h : rj_ro mi x ∧ Q (.inl (some (.inl x))) G) : rj_XF (f + 1) d mi pc ls [.inl x] G Q := by
  unfold rj_XF
  rw [hat]
  exact h
theorem rj_XF_lr {ls : List (Option mj_V)} {G : mj_G} {Q : mj_O → mj_G → Prop} {x : Int64} (hat : rj_at mi pc = some (.lreturn, len)) (h : rj_rt mi = some .long ∧ Q (.inl (some (.inr (.inl x)))) G) : rj_XF (f + 1) d mi pc ls [.inr (.inl x)] G Q := by
  unfold rj_XF
  rw [hat]
  exact h
theorem rj_XF_ar {ls : List (Option mj_V)} {G : mj_G} {Q : mj_O → mj_G → Prop} {x : Nat} (hat : rj_at mi pc = some (.areturn, len)) (h : rj_rr mi = true ∧ Q (.inl (some (.inr (.inr x)))) G) : rj_XF (f + 1) d mi pc ls [.inr (.inr x)] G Q := by
  unfold rj_XF
  rw [hat]
  exact h
theorem rj_XF_vr {ls : List (Option mj_V)} {G : mj_G} {Q : mj_O → mj_G → Prop} (hat : rj_at mi pc = some (.return_, len)) (h : rj_rt mi = none ∧ Q (.inl none) G) : rj_XF (f + 1) d mi pc ls [] G Q := by
  unfold rj_XF
  rw [hat]
  exact h
theorem rj_XF_th {ls : List (Option mj_V)} {G : mj_G} {Q : mj_O → mj_G → Prop} {k c : Nat} (hat : rj_at mi pc = some (.new k, len)) (hc : rj_cl (mi / 1000) k = some c) (hb : Nat.ble 15 c = true) (h : rj_kd mi = 1 ∧ 8 ≤ d ∧ Q (.inr c) (mj_al G (c + 1) 6 (fun _ => 0))) : rj_XF (f + 1) d mi pc ls [] G Q := by
  unfold rj_XF
  rw [hat]
  show (match rj_cl (mi / 1000) k with | some c => (bif Nat.ble 15 c then ([] : List mj_V) = [] ∧ rj_kd mi = 1 ∧ 8 ≤ d ∧ Q (.inr c) (mj_al G (c + 1) 6 (fun _ => 0)) else _) | none => False)
  rw [hc]
  dsimp only
  rw [hb]
  exact ⟨rfl, h⟩
theorem rj_XF_st {ls : List (Option mj_V)} {st : List mj_V} {G : mj_G} {Q : mj_O → mj_G → Prop} (hat : rj_at mi pc = some (i, len)) (htg : rj_tg (mi / 1000) i = none)
    (h : ∀ K : mj_K, (∀ q ls st G, rj_XF f d mi q ls st G Q → K q ls st G) → rj_s1 (mi / 1000) (bif (rj_y mi).name == "<init>" then true else false) i len pc ls st G K) : rj_XF (f + 1) d mi pc ls st G Q := by
  have h0 := h (fun pc ls st G => rj_XF f d mi pc ls st G Q) (fun _ _ _ _ h => h)
  unfold rj_XF
  rw [hat]
  dsimp only
  rw [htg]
  dsimp only
  split
  · exact h0.elim
  · exact h0.elim
  · exact h0.elim
  · exact h0.elim
  · rename_i k
    have h1 : (match rj_cl (mi / 1000) k with | some c => (bif Nat.ble 15 c then False else _) | none => False) := h0
    cases hc : rj_cl (mi / 1000) k with
    | none => rw [hc] at h1; exact h1.elim
    | some c =>
      rw [hc] at h1
      dsimp only at h1 ⊢
      cases hb : Nat.ble 15 c with
      | true => rw [hb] at h1; exact h1.elim
      | false => exact h0
  · exact h0
end X22
