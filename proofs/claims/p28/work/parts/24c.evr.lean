/-! THE EVALUATOR'S RUNS ARE THE MACHINE'S -/
theorem mj_XF_fuel1 : ∀ {f d mi pc : Nat} {ls : List (Option mj_V)} {st : List mj_V} {G : mj_G} {Q : mj_O → mj_G → Prop}, mj_XF f d mi pc ls st G Q → mj_XF (f + 1) d mi pc ls st G Q
  | 0, _, _, _, _, _, _, _, h => h.elim
  | f + 1, d, mi, pc, ls, st, G, Q, h => by
    unfold mj_XF at h ⊢
    cases hat : mj_at mi pc with
    | none => rw [hat] at h; exact h.elim
    | some il =>
      obtain ⟨i, len⟩ := il
      rw [hat] at h
      dsimp only at h ⊢
      cases htg : mj_tg (mi / 1000) i with
      | some mt =>
        rw [htg] at h
        dsimp only at h ⊢
        cases htk : mj_tk (mj_na mt) [] st with
        | none => rw [htk] at h; exact h.elim
        | some ar =>
          obtain ⟨as, rest⟩ := ar
          rw [htk] at h
          dsimp only at h ⊢
          obtain ⟨hw, hrc, d', hd, hX⟩ := h
          refine ⟨hw, hrc, d', hd, mj_XF_mono (mj_XF_fuel1 hX) fun o G' hm => ?_⟩
          rcases o with (_ | v) | k
          · exact mj_XF_fuel1 hm
          · exact mj_XF_fuel1 hm
          · obtain ⟨g1, g2, g3⟩ := hm
            refine ⟨g1, g2, ?_⟩
            cases hhn : mj_hn mi k with
            | none => rw [hhn] at g3; exact g3.elim
            | some qx =>
              obtain ⟨q, x⟩ := qx
              rw [hhn] at g3
              exact mj_XF_fuel1 g3
      | none =>
        rw [htg] at h
        dsimp only at h ⊢
        split at h
        · exact h
        · exact h
        · exact h
        · exact h
        · rename_i k
          cases hc : mj_cl (mi / 1000) k with
          | none => rw [hc] at h; exact h.elim
          | some c =>
            rw [hc] at h
            dsimp only at h ⊢
            cases hb : Nat.ble 15 c with
            | true => rw [hb] at h; exact h
            | false =>
              rw [hb] at h
              simp only [cond_false] at h ⊢
              exact mj_s1_mono h fun _ _ _ _ hk => mj_XF_fuel1 hk
        · exact mj_s1_mono h fun _ _ _ _ hk => mj_XF_fuel1 hk
theorem mj_XF_fuel {f d mi pc : Nat} {ls : List (Option mj_V)} {st : List mj_V} {G : mj_G} {Q : mj_O → mj_G → Prop} (h : mj_XF f d mi pc ls st G Q) : ∀ k, mj_XF (f + k) d mi pc ls st G Q
  | 0 => h
  | k + 1 => mj_XF_fuel1 (mj_XF_fuel h k)
/-- with fuel enough -/
def mj_X (d mi pc : Nat) (ls : List (Option mj_V)) (st : List mj_V) (G : mj_G) (Q : mj_O → mj_G → Prop) : Prop := ∃ f, mj_XF f d mi pc ls st G Q
theorem mj_X_call {d mi pc len mt : Nat} {i : Instr} {ls : List (Option mj_V)} {st as rest : List mj_V} {G G1 : mj_G} {o1 : mj_O} {Q : mj_O → mj_G → Prop} (hat : mj_at mi pc = some (i, len)) (htg : mj_tg (mi / 1000) i = some mt) (htk : mj_tk (mj_na mt) [] st = some (as, rest)) (hw : mj_w rest ≤ 8) (hrc : mj_rc G mt as)
    (h1 : mj_X d mt 0 (mj_en as (mj_mL mt)) [] G (fun a b => a = o1 ∧ b = G1))
    (h2 : match o1 with
      | .inl none => mj_X (d + 1) mi (pc + len) ls rest G1 Q
      | .inl (some v) => mj_X (d + 1) mi (pc + len) ls (v :: rest) G1 Q
      | .inr k => mj_kd mi = 2 ∧ mj_kd mt = 1 ∧ (match mj_hn mi k with | none => False | some (q, x) => mj_X (d + 1) mi q (mj_p (mj_cl0 ls x) x none) [] G1 Q)) : mj_X (d + 1) mi pc ls st G Q := by
  obtain ⟨f1, h1⟩ := h1
  have key : ∀ f2, (match o1 with
      | .inl none => mj_XF f2 (d + 1) mi (pc + len) ls rest G1 Q
      | .inl (some v) => mj_XF f2 (d + 1) mi (pc + len) ls (v :: rest) G1 Q
      | .inr k => mj_kd mi = 2 ∧ mj_kd mt = 1 ∧ (match mj_hn mi k with | none => False | some (q, x) => mj_XF f2 (d + 1) mi q (mj_p (mj_cl0 ls x) x none) [] G1 Q)) → mj_X (d + 1) mi pc ls st G Q := by
    intro f2 h2
    refine ⟨f1 + f2 + 1, ?_⟩
    unfold mj_XF
    rw [hat]
    dsimp only
    rw [htg]
    dsimp only
    rw [htk]
    dsimp only
    refine ⟨hw, hrc, d, rfl, mj_XF_mono (mj_XF_fuel h1 f2) fun o G' hm => ?_⟩
    obtain ⟨rfl, rfl⟩ := hm
    have up : ∀ {q ls st G}, mj_XF f2 (d + 1) mi q ls st G Q → mj_XF (f1 + f2) (d + 1) mi q ls st G Q := fun h => by
      rw [Nat.add_comm]
      exact mj_XF_fuel h f1
    rcases o with (_ | v) | k
    · exact up h2
    · exact up h2
    · obtain ⟨g1, g2, g3⟩ := h2
      refine ⟨g1, g2, ?_⟩
      cases hhn : mj_hn mi k with
      | none => rw [hhn] at g3; exact g3.elim
      | some qx =>
        obtain ⟨q, x⟩ := qx
        rw [hhn] at g3
        exact up g3
  rcases o1 with (_ | v) | k
  · obtain ⟨f2, h2⟩ := h2
    exact key f2 h2
  · obtain ⟨f2, h2⟩ := h2
    exact key f2 h2
  · obtain ⟨g1, g2, g3⟩ := h2
    cases hhn : mj_hn mi k with
    | none => rw [hhn] at g3; exact g3.elim
    | some qx =>
      obtain ⟨q, x⟩ := qx
      rw [hhn] at g3
      obtain ⟨f2, h2⟩ := g3
      refine key f2 ⟨g1, g2, ?_⟩
      rw [hhn]
      exact h2
section MVR
variable {ρ : Nat → Int32} {tb : mv_T} {i : Instr} {f d mi len pc : Nat} {ls : mv_L} {st : List mv_V} {H H' : mv_H} {bs bs' : List Bool} {fs fs' : mv_F} {o : mv_O}
theorem mv_rcv_e {mt : Nat} {as : List mv_V} (h : mv_rcv H mt as = true) : mj_rc (mv_dG ρ H) mt (mv_dS ρ as) := by
  unfold mv_rcv at h
  rw [Bool.and_eq_true] at h
  obtain ⟨h1, h2⟩ := h
  refine ⟨?_, ?_⟩
  · rw [← mv_eD, mv_lenL]
    exact Nat.le_of_ble_eq_true h1
  · cases hsc : mj_sc mt with
    | true => trivial
    | false =>
      rw [hsc] at h2
      match as, h2 with
      | .inr (.inr a) :: as', h2 => exact Nat.eq_of_beq_eq_true h2
theorem mj_XF_ir {ls : List (Option mj_V)} {G : mj_G} {Q : mj_O → mj_G → Prop} {x : Int32} (hat : mj_at mi pc = some (.ireturn, len)) (h : mj_ro mi x ∧ Q (.inl (some (.inl x))) G) : mj_XF (f + 1) d mi pc ls [.inl x] G Q := by
  unfold mj_XF
  rw [hat]
  exact h
theorem mj_XF_lr {ls : List (Option mj_V)} {G : mj_G} {Q : mj_O → mj_G → Prop} {x : Int64} (hat : mj_at mi pc = some (.lreturn, len)) (h : mj_rt mi = some .long ∧ Q (.inl (some (.inr (.inl x)))) G) : mj_XF (f + 1) d mi pc ls [.inr (.inl x)] G Q := by
  unfold mj_XF
  rw [hat]
  exact h
theorem mj_XF_ar {ls : List (Option mj_V)} {G : mj_G} {Q : mj_O → mj_G → Prop} {x : Nat} (hat : mj_at mi pc = some (.areturn, len)) (h : mj_rr mi = true ∧ Q (.inl (some (.inr (.inr x)))) G) : mj_XF (f + 1) d mi pc ls [.inr (.inr x)] G Q := by
  unfold mj_XF
  rw [hat]
  exact h
theorem mj_XF_vr {ls : List (Option mj_V)} {G : mj_G} {Q : mj_O → mj_G → Prop} (hat : mj_at mi pc = some (.return_, len)) (h : mj_rt mi = none ∧ Q (.inl none) G) : mj_XF (f + 1) d mi pc ls [] G Q := by
  unfold mj_XF
  rw [hat]
  exact h
theorem mj_XF_th {ls : List (Option mj_V)} {G : mj_G} {Q : mj_O → mj_G → Prop} {k c : Nat} (hat : mj_at mi pc = some (.new k, len)) (hc : mj_cl (mi / 1000) k = some c) (hb : Nat.ble 15 c = true) (h : mj_kd mi = 1 ∧ 8 ≤ d ∧ Q (.inr c) (mj_al G (c + 1) 6 (fun _ => 0))) : mj_XF (f + 1) d mi pc ls [] G Q := by
  unfold mj_XF
  rw [hat]
  show (match mj_cl (mi / 1000) k with | some c => (bif Nat.ble 15 c then ([] : List mj_V) = [] ∧ mj_kd mi = 1 ∧ 8 ≤ d ∧ Q (.inr c) (mj_al G (c + 1) 6 (fun _ => 0)) else _) | none => False)
  rw [hc]
  dsimp only
  rw [hb]
  exact ⟨rfl, h⟩
theorem mv_end_e (hat : mj_at mi pc = some (i, len)) (h : mv_end d mi i st H fs = some (o, H', fs')) : (∀ z ∈ fs, z ∈ fs') ∧ ((∀ z ∈ fs', mv_hold ρ z) → ∀ Q : mj_O → mj_G → Prop, Q (mv_dO ρ o) (mv_dG ρ H') → mj_XF (f + 1) d mi pc (mv_dL ρ ls) (mv_dS ρ st) (mv_dG ρ H) Q) := by
  unfold mv_end at h
  split at h
  · match st, h with
    | [.inl x], h =>
      cases hro : mv_ro mi x fs with
      | none => simp [hro] at h
      | some fs2 =>
        simp only [hro, Option.some.injEq, Prod.mk.injEq] at h
        obtain ⟨rfl, rfl, rfl⟩ := h
        unfold mv_ro at hro
        split at hro
        · rename_i hr
          cases hro
          exact ⟨fun z hz => hz, fun _ Q hQ => mj_XF_ir hat ⟨by unfold mj_ro; rw [hr]; trivial, hQ⟩⟩
        · rename_i hr
          obtain ⟨f1, f2⟩ := mv_fit_e (ρ := ρ) hro
          exact ⟨f1, fun hf Q hQ => mj_XF_ir hat ⟨by unfold mj_ro; rw [hr]; exact f2 hf, hQ⟩⟩
        · rename_i hr
          obtain ⟨f1, f2⟩ := mv_fit_e (ρ := ρ) hro
          exact ⟨f1, fun hf Q hQ => mj_XF_ir hat ⟨by unfold mj_ro; rw [hr]; exact f2 hf, hQ⟩⟩
        · cases hro
    | [], h => simp at h
    | .inr _ :: _, h => simp at h
    | .inl _ :: _ :: _, h => simp at h
  · match st, h with
    | [.inr (.inl x)], h =>
      cases hb : decide (mj_rt mi = some .long) with
      | false => simp [hb] at h
      | true =>
        rw [hb] at h
        cases h
        exact ⟨fun z hz => hz, fun _ Q hQ => mj_XF_lr hat ⟨of_decide_eq_true hb, hQ⟩⟩
    | [], h => simp at h
    | .inl _ :: _, h => simp at h
    | .inr (.inr _) :: _, h => simp at h
    | .inr (.inl _) :: _ :: _, h => simp at h
  · match st, h with
    | [.inr (.inr x)], h =>
      cases hb : mj_rr mi with
      | false => simp [hb] at h
      | true =>
        rw [hb] at h
        cases h
        exact ⟨fun z hz => hz, fun _ Q hQ => mj_XF_ar hat ⟨hb, hQ⟩⟩
    | [], h => simp at h
    | .inl _ :: _, h => simp at h
    | .inr (.inl _) :: _, h => simp at h
    | .inr (.inr _) :: _ :: _, h => simp at h
  · match st, h with
    | [], h =>
      cases hb : decide (mj_rt mi = none) with
      | false => simp [hb] at h
      | true =>
        rw [hb] at h
        cases h
        exact ⟨fun z hz => hz, fun _ Q hQ => mj_XF_vr hat ⟨of_decide_eq_true hb, hQ⟩⟩
    | _ :: _, h => simp at h
  · rename_i k
    cases hc : mj_cl (mi / 1000) k with
    | none => rw [hc] at h; cases h
    | some c =>
      rw [hc] at h
      dsimp only at h
      cases hb : (Nat.ble 15 c && (Nat.beq (mj_kd mi) 1 && Nat.ble 8 d)) with
      | false => rw [hb] at h; cases h
      | true =>
        rw [hb] at h
        dsimp only [cond_true] at h
        rw [Bool.and_eq_true, Bool.and_eq_true] at hb
        match st, h with
        | [], h =>
          cases hH : mv_al H (c + 1) 6 [] with
          | none => simp [hH] at h
          | some H2 =>
            simp only [hH, Option.some.injEq, Prod.mk.injEq] at h
            obtain ⟨rfl, rfl, rfl⟩ := h
            refine ⟨fun z hz => hz, fun _ Q hQ => mj_XF_th hat hc hb.1 ⟨Nat.eq_of_beq_eq_true hb.2.1, Nat.le_of_ble_eq_true hb.2.2, ?_⟩⟩
            rw [(mv_al_e (ρ := ρ) hH).1] at hQ
            exact hQ
        | _ :: _, h => simp at h
  · cases h
theorem mj_XF_st {ls : List (Option mj_V)} {st : List mj_V} {G : mj_G} {Q : mj_O → mj_G → Prop} (hat : mj_at mi pc = some (i, len)) (htg : mj_tg (mi / 1000) i = none)
    (h : ∀ K : mj_K, (∀ q ls st G, mj_XF f d mi q ls st G Q → K q ls st G) → mj_s1 (mi / 1000) (bif (mj_y mi).name == "<init>" then true else false) i len pc ls st G K) : mj_XF (f + 1) d mi pc ls st G Q := by
  have h0 := h (fun pc ls st G => mj_XF f d mi pc ls st G Q) (fun _ _ _ _ h => h)
  unfold mj_XF
  rw [hat]
  dsimp only
  rw [htg]
  dsimp only
  split
  · exact h0.elim
  · exact h0.elim
  · exact h0.elim
  · exact h0.elim
  · rename_i k
    have h1 : (match mj_cl (mi / 1000) k with | some c => (bif Nat.ble 15 c then False else _) | none => False) := h0
    cases hc : mj_cl (mi / 1000) k with
    | none => rw [hc] at h1; exact h1.elim
    | some c =>
      rw [hc] at h1
      dsimp only at h1 ⊢
      cases hb : Nat.ble 15 c with
      | true => rw [hb] at h1; exact h1.elim
      | false => exact h0
  · exact h0
theorem mv_ev_e (ht : mv_okT ρ tb) : ∀ {f d mi pc : Nat} {ls : mv_L} {st : List mv_V} {H H' : mv_H} {bs bs' : List Bool} {fs fs' : mv_F} {o : mv_O}, mv_ev tb f d mi pc ls st H bs fs = some (o, H', bs', fs') →
    (∀ z ∈ fs, z ∈ fs') ∧ ((∀ z ∈ fs', mv_hold ρ z) → mj_XF f d mi pc (mv_dL ρ ls) (mv_dS ρ st) (mv_dG ρ H) (fun a b => a = mv_dO ρ o ∧ b = mv_dG ρ H'))
  | 0, _, _, _, _, _, _, _, _, _, _, _, _, h => by cases h
  | f + 1, d, mi, pc, ls, st, H, H', bs, bs', fs, fs', o, h => by
    unfold mv_ev at h
    cases hat : mj_at mi pc with
    | none => rw [hat] at h; cases h
    | some il =>
      obtain ⟨i, len⟩ := il
      rw [hat] at h
      dsimp only at h
      cases htg : mj_tg (mi / 1000) i with
      | some mt =>
        rw [htg] at h
        dsimp only at h
        cases htk : mv_tk (mj_na mt) [] st with
        | none => rw [htk] at h; cases h
        | some ar =>
          obtain ⟨as, rest⟩ := ar
          rw [htk] at h
          cases d with
          | zero => cases h
          | succ d' =>
            dsimp only at h
            cases hb : (Nat.ble (mv_w rest) 8 && mv_rcv H mt as) with
            | false => rw [hb] at h; cases h
            | true =>
              rw [hb] at h
              dsimp only [cond_true] at h
              rw [Bool.and_eq_true] at hb
              have hw : mj_w (mv_dS ρ rest) ≤ 8 := by rw [mv_wD]; exact Nat.le_of_ble_eq_true hb.1
              have htk' := mv_tkD ρ htk
              cases hc : mv_ev tb f d' mt 0 (mv_en as (mj_mL mt)) [] H bs fs with
              | none => rw [hc] at h; cases h
              | some r =>
                obtain ⟨o1, H1, bs1, fs1⟩ := r
                rw [hc] at h
                obtain ⟨c1, c2⟩ := mv_ev_e ht hc
                have fin : (∀ z ∈ fs1, z ∈ fs') → ((∀ z ∈ fs', mv_hold ρ z) → (match mv_dO ρ o1 with
                    | .inl none => mj_XF f (d' + 1) mi (pc + len) (mv_dL ρ ls) (mv_dS ρ rest) (mv_dG ρ H1) (fun a b => a = mv_dO ρ o ∧ b = mv_dG ρ H')
                    | .inl (some v) => mj_XF f (d' + 1) mi (pc + len) (mv_dL ρ ls) (v :: mv_dS ρ rest) (mv_dG ρ H1) (fun a b => a = mv_dO ρ o ∧ b = mv_dG ρ H')
                    | .inr k => mj_kd mi = 2 ∧ mj_kd mt = 1 ∧ (match mj_hn mi k with | none => False | some (q, x) => mj_XF f (d' + 1) mi q (mj_p (mj_cl0 (mv_dL ρ ls) x) x none) [] (mv_dG ρ H1) (fun a b => a = mv_dO ρ o ∧ b = mv_dG ρ H')))) →
                    (∀ z ∈ fs, z ∈ fs') ∧ ((∀ z ∈ fs', mv_hold ρ z) → mj_XF (f + 1) (d' + 1) mi pc (mv_dL ρ ls) (mv_dS ρ st) (mv_dG ρ H) (fun a b => a = mv_dO ρ o ∧ b = mv_dG ρ H')) := by
                  intro g1 g2
                  refine ⟨fun z hz => g1 z (c1 z hz), fun hf => ?_⟩
                  have c3 := c2 (fun z hz => hf z (g1 z hz))
                  have g3 := g2 hf
                  unfold mj_XF
                  rw [hat]
                  dsimp only
                  rw [htg]
                  dsimp only
                  have e0 : mv_dS ρ [] = [] := rfl
                  rw [e0] at htk' c3
                  rw [htk']
                  dsimp only
                  refine ⟨hw, mv_rcv_e hb.2, d', rfl, ?_⟩
                  rw [← mv_enD]
                  refine mj_XF_mono c3 fun a b hab => ?_
                  obtain ⟨rfl, rfl⟩ := hab
                  exact g3
                rcases o1 with (_ | v) | k
                · dsimp only at h
                  obtain ⟨d1, d2⟩ := mv_ev_e ht h
                  exact fin d1 (fun hf => d2 hf)
                · dsimp only at h
                  obtain ⟨d1, d2⟩ := mv_ev_e ht h
                  exact fin d1 (fun hf => d2 hf)
                · dsimp only at h
                  cases hb3 : (Nat.beq (mj_kd mi) 2 && Nat.beq (mj_kd mt) 1) with
                  | false => rw [hb3] at h; cases h
                  | true =>
                    rw [hb3] at h
                    dsimp only [cond_true] at h
                    rw [Bool.and_eq_true] at hb3
                    cases hhn : mj_hn mi k with
                    | none => rw [hhn] at h; cases h
                    | some qx =>
                      obtain ⟨q, x⟩ := qx
                      rw [hhn] at h
                      dsimp only at h
                      obtain ⟨d1, d2⟩ := mv_ev_e ht h
                      refine fin d1 (fun hf => ⟨Nat.eq_of_beq_eq_true hb3.1, Nat.eq_of_beq_eq_true hb3.2, ?_⟩)
                      have d3 := d2 hf
                      rw [mv_pL, mv_cl0L] at d3
                      rw [hhn]
                      exact d3
      | none =>
        rw [htg] at h
        dsimp only at h
        cases he : mv_end d mi i st H fs with
        | some r =>
          obtain ⟨o1, H1, fs1⟩ := r
          rw [he] at h
          cases h
          obtain ⟨e1, e2⟩ := mv_end_e (ρ := ρ) (f := f) (ls := ls) hat he
          exact ⟨e1, fun hf => e2 hf _ ⟨rfl, rfl⟩⟩
        | none =>
          rw [he] at h
          dsimp only at h
          cases hs : mv_s1 tb (mi / 1000) (mv_ini mi) i len pc ls st H bs fs with
          | none => rw [hs] at h; cases h
          | some r =>
            obtain ⟨pc1, ls1, st1, H1, bs1, fs1⟩ := r
            rw [hs] at h
            dsimp only at h
            obtain ⟨d1, d2⟩ := mv_ev_e ht h
            refine ⟨fun z hz => d1 z ((mv_s1_e (K := fun _ _ _ _ => True) (ρ := ρ) ht hs).1 z hz), fun hf => mj_XF_st hat htg fun K hK => ?_⟩
            exact (mv_s1_e (ρ := ρ) ht hs).2 (fun z hz => hf z (d1 z hz)) (hK _ _ _ _ (d2 hf))
/-- a stretch of a frame's run: up to a place, with a place of a value (none: whichever) -/
def mv_at9 (P : Nat) (x : Option (Nat × Int32)) (pc : Nat) (ls : mv_L) : Bool := Nat.beq pc P && (match x with
  | none => true
  | some (k, v) => decide (mv_g ls k = some (.inl (.inl v))))
def mv_pv (tb : mv_T) (P : Nat) (x : Option (Nat × Int32)) : Nat → Nat → Nat → Nat → mv_L → List mv_V → mv_H → List Bool → mv_F → Option (mv_L × List mv_V × mv_H × List Bool × mv_F)
  | 0, _, _, _, _, _, _, _, _ => none
  | f + 1, d, mi, pc, ls, st, H, bs, fs => match mj_at mi pc with
    | none => none
    | some (i, len) => match mj_tg (mi / 1000) i with
      | some mt => (match mv_tk (mj_na mt) [] st, d with
        | some (as, rest), d' + 1 => bif Nat.ble (mv_w rest) 8 && mv_rcv H mt as then
          (match mv_ev tb f d' mt 0 (mv_en as (mj_mL mt)) [] H bs fs with
            | some (.inl none, H, bs, fs) => bif mv_at9 P x (pc + len) ls then some (ls, rest, H, bs, fs) else mv_pv tb P x f (d' + 1) mi (pc + len) ls rest H bs fs
            | some (.inl (some v), H, bs, fs) => mv_pv tb P x f (d' + 1) mi (pc + len) ls (v :: rest) H bs fs
            | _ => none) else none
        | _, _ => none)
      | none => (match mv_s1 tb (mi / 1000) (mv_ini mi) i len pc ls st H bs fs with
          | some (pc, ls, st, H, bs, fs) => bif mv_at9 P x pc ls then some (ls, st, H, bs, fs) else mv_pv tb P x f d mi pc ls st H bs fs
          | none => none)
theorem mv_at9_e {P : Nat} {x : Option (Nat × Int32)} (h : mv_at9 P x pc ls = true) : pc = P := by
  unfold mv_at9 at h
  rw [Bool.and_eq_true] at h
  exact Nat.eq_of_beq_eq_true h.1
theorem mv_pv_e (ht : mv_okT ρ tb) {P : Nat} {x : Option (Nat × Int32)} : ∀ {f d mi pc : Nat} {ls ls' : mv_L} {st st' : List mv_V} {H H' : mv_H} {bs bs' : List Bool} {fs fs' : mv_F}, mv_pv tb P x f d mi pc ls st H bs fs = some (ls', st', H', bs', fs') →
    (∀ z ∈ fs, z ∈ fs') ∧ ((∀ z ∈ fs', mv_hold ρ z) → ∀ Q, mj_X d mi P (mv_dL ρ ls') (mv_dS ρ st') (mv_dG ρ H') Q → mj_X d mi pc (mv_dL ρ ls) (mv_dS ρ st) (mv_dG ρ H) Q)
  | 0, _, _, _, _, _, _, _, _, _, _, _, _, _, h => by cases h
  | f + 1, d, mi, pc, ls, ls', st, st', H, H', bs, bs', fs, fs', h => by
    unfold mv_pv at h
    cases hat : mj_at mi pc with
    | none => rw [hat] at h; cases h
    | some il =>
      obtain ⟨i, len⟩ := il
      rw [hat] at h
      dsimp only at h
      cases htg : mj_tg (mi / 1000) i with
      | some mt =>
        rw [htg] at h
        dsimp only at h
        cases htk : mv_tk (mj_na mt) [] st with
        | none => rw [htk] at h; cases h
        | some ar =>
          obtain ⟨as, rest⟩ := ar
          rw [htk] at h
          cases d with
          | zero => cases h
          | succ d' =>
            dsimp only at h
            cases hb : (Nat.ble (mv_w rest) 8 && mv_rcv H mt as) with
            | false => rw [hb] at h; cases h
            | true =>
              rw [hb] at h
              dsimp only [cond_true] at h
              rw [Bool.and_eq_true] at hb
              have hw : mj_w (mv_dS ρ rest) ≤ 8 := by rw [mv_wD]; exact Nat.le_of_ble_eq_true hb.1
              have htk' := mv_tkD ρ htk
              cases hc : mv_ev tb f d' mt 0 (mv_en as (mj_mL mt)) [] H bs fs with
              | none => rw [hc] at h; cases h
              | some r =>
                obtain ⟨o1, H1, bs1, fs1⟩ := r
                rw [hc] at h
                obtain ⟨c1, c2⟩ := mv_ev_e ht hc
                have e0 : mv_dS ρ [] = [] := rfl
                rcases o1 with (_ | v) | k
                · dsimp only at h
                  cases h9 : mv_at9 P x (pc + len) ls with
                  | true =>
                    rw [h9] at h
                    cases h
                    have q1 := mv_at9_e h9
                    refine ⟨c1, fun hf Q hQ => mj_X_call hat htg htk' hw (mv_rcv_e hb.2) ⟨f, ?_⟩ (o1 := .inl none) (G1 := mv_dG ρ H') ?_⟩
                    · rw [← mv_enD]
                      exact c2 hf
                    · rw [← q1] at hQ
                      exact hQ
                  | false =>
                    rw [h9] at h
                    obtain ⟨d1, d2⟩ := mv_pv_e ht h
                    refine ⟨fun z hz => d1 z (c1 z hz), fun hf Q hQ => mj_X_call hat htg htk' hw (mv_rcv_e hb.2) ⟨f, ?_⟩ (o1 := .inl none) (G1 := mv_dG ρ H1) (d2 hf Q hQ)⟩
                    rw [← mv_enD]
                    exact c2 (fun z hz => hf z (d1 z hz))
                · dsimp only at h
                  obtain ⟨d1, d2⟩ := mv_pv_e ht h
                  refine ⟨fun z hz => d1 z (c1 z hz), fun hf Q hQ => mj_X_call hat htg htk' hw (mv_rcv_e hb.2) ⟨f, ?_⟩ (o1 := .inl (some (mv_dV ρ v))) (G1 := mv_dG ρ H1) (d2 hf Q hQ)⟩
                  rw [← mv_enD]
                  exact c2 (fun z hz => hf z (d1 z hz))
                · cases h
      | none =>
        rw [htg] at h
        dsimp only at h
        cases hs : mv_s1 tb (mi / 1000) (mv_ini mi) i len pc ls st H bs fs with
        | none => rw [hs] at h; cases h
        | some r =>
          obtain ⟨pc1, ls1, st1, H1, bs1, fs1⟩ := r
          rw [hs] at h
          dsimp only at h
          have s1 := (mv_s1_e (K := fun _ _ _ _ => True) (ρ := ρ) ht hs).1
          cases h9 : mv_at9 P x pc1 ls1 with
          | true =>
            rw [h9] at h
            cases h
            have q1 := mv_at9_e h9
            subst q1
            refine ⟨s1, fun hf Q hQ => ?_⟩
            obtain ⟨g, hQ⟩ := hQ
            exact ⟨g + 1, mj_XF_st hat htg fun K hK => (mv_s1_e (ρ := ρ) ht hs).2 hf (hK _ _ _ _ hQ)⟩
          | false =>
            rw [h9] at h
            obtain ⟨d1, d2⟩ := mv_pv_e ht h
            refine ⟨fun z hz => d1 z (s1 z hz), fun hf Q hQ => ?_⟩
            obtain ⟨g, hQ⟩ := d2 hf Q hQ
            exact ⟨g + 1, mj_XF_st hat htg fun K hK => (mv_s1_e (ρ := ρ) ht hs).2 (fun z hz => hf z (d1 z hz)) (hK _ _ _ _ hQ)⟩
end MVR
