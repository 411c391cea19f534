/-! NEW CELLS BETWEEN THE CALLS, AND NEW DATA -/
section ZZX
variable {s : lst} {ρ ρ' : Nat → Nat} {G G1 G' : mj_G} {D : Nat → rv} {I : Nat → Nat → rv} {a b l x : Nat} {v : rv} {it : Nat → rv} {P : Nat → Prop}
theorem pw_ext {x y : Nat} (ho : ho ρ G) (hG : 1768 ≤ mj_n G) (F : fn_F G G') : pw x y G' = pw x y G := by
  refine pw_c (fun i hi => (F.2 _ (by omega)).2.2.1 7) (fun i hi => (F.2 _ (by omega)).2.2.1 7) (fun i hi => (F.2 _ (by omega)).2.2.1 18) (fun i hi => ⟨?_, fun h0 => ?_⟩)
  · have := fg_al hi
    exact (F.2 _ (by omega)).2.2.1 _
  · rcases ho.2.2.2.1 i hi with q | q
    · exact absurd q h0
    · exact (F.2 _ q.2.1).2.2.1 7
theorem hh_ext (h : hh ρ D I G) (F : fn_F G G') (hS : cs_S G') (hB : hb G') (he : ro_e ρ ρ' G) : hh ρ' D I G' := ⟨hS, ho_t h.2.1 F.1 he (fun c hc => ⟨(F.2 c hc).1, (F.2 c hc).2.1⟩) (hh_n h) (fun c i hc _ => (F.2 c hc).2.2.1 i), hB, dcx_f0 (W := fun _ => False) h.2.2.2 (f0_fn F) he (fun _ q => q.elim) (hh_n h)⟩
theorem LC_ext (h : LC s ρ G) (F : fn_F G G') (hS : cs_S G') (hB : hb G') (he : ro_e ρ ρ' G) : LC s ρ' G' := LC_f (W := fun _ => False) h (hh_ext h.1 F hS hB he) (f0_fn F) he (fun _ q => q.elim)
theorem yR_ext {c e : Nat} (h : LC s ρ G) (F : fn_F G G') (hn : mj_n G' ≤ mj_n G + c) (hu : mj_u G' ≤ mj_u G + e) : yR c e G G' := by
  have hG := hh_n h.1
  refine ⟨fun a ha => ⟨(F.2 a ha).1, (F.2 a ha).2.1⟩, fun a j h1 h2 => ⟨(F.2 a (by omega)).2.2.2 j, (F.2 a (by omega)).2.2.1 j⟩, F.1, ?_, ?_⟩
  · rw [pw_ext h.1.2.1 hG F]; omega
  · rw [pw_ext h.1.2.1 hG F]; omega
/-- something thrown: a new cell -/
theorem LC_al (h : LC s ρ G) {kd len : Nat} (hl : len ≤ 9999) : LC s ρ (mj_al G kd len (fun _ => 0)) ∧ yR 1 len G (mj_al G kd len (fun _ => 0)) :=
  ⟨LC_ext h fn_al (cs_al h.1.1) (iv_end (iv_A0 _ (iv_hb h.1.2.2.1)) (by show mj_u G + len ≤ _; omega)) ro_r, yR_ext h fn_al (Nat.le_refl _) (Nat.le_refl _)⟩
/-- a Value for a place of the data, with its items -/
def dv (ρ : Nat → Nat) (G : mj_G) (a l : Nat) (v : rv) (it : Nat → rv) : Prop := imm ρ a ∧ a < mj_n G ∧ 1768 ≤ a ∧ rv_ok v ∧ mj_k G a = 12 ∧ mj_b (mj_i G a 2) ∧ mj_i G a 0 = nI (rv_k (rv_t v)) ∧ (rv_t v = 1 → mj_i G a 1 = rv_n v) ∧
  (rv_t v = 2 → mj_i G a 4 = nI (rv_l v) ∧ mj_i G a 2 = bI (rv_s v) ∧ imm ρ (mj_r G a 3) ∧ 2 ≤ mj_r G a 3 ∧ mj_r G a 3 < mj_n G ∧ mj_k G (mj_r G a 3) = 22 ∧ rv_l v ≤ mj_l G (mj_r G a 3) ∧ ∀ j, j < rv_l v → mj_i G (mj_r G a 3) j = nI (rv_c v j)) ∧
  (rv_t v = 3 → rv_d v = l ∧ imm ρ (mj_r G a 5) ∧ mj_r G a 5 < mj_n G ∧ mj_k G (mj_r G a 5) = 41 ∧ mj_l G (mj_r G a 5) = rv_l v ∧ ∀ k, k < rv_l v → imm ρ (mj_r G (mj_r G a 5) k) ∧ mj_r G (mj_r G a 5) k < mj_n G ∧ cv (imm ρ) G (mj_r G (mj_r G a 5) k) (it k) ∧ rv_ok (it k) ∧ (rv_t (it k) = 1 ∨ (rv_t (it k) = 2 ∧ rv_s (it k) = false ∧ rv_l (it k) ≤ 40)) ∧ ¬ (1674 ≤ mj_r G (mj_r G a 5) k ∧ mj_r G (mj_r G a 5) k ≤ 1713))
theorem cv_12 (h : cv P G b v) (hb : b ≠ 12) (h3 : rv_t v = 3 → rv_d v ≠ l ∧ mj_r G 12 (rv_d v) ≠ 12) : cv P (mj_pR G 12 l a) b v := by
  obtain ⟨h1, h2, h4, h5, h6, h7⟩ := h
  refine ⟨h1, h2, h4, h5, fun q => ?_, fun q => ?_⟩
  · rw [z_rRn hb]
    exact h6 q
  · obtain ⟨q1, q2⟩ := h3 q
    rw [z_rRn hb, z_rRm q1, z_rRn q2]
    exact h7 q
/-- a place of the data told anew -/
theorem hh_dat (h : hh ρ D I G) (hl : l < 26) (hv : dv ρ G a l v it) : hh ρ (g_u D l v) (g_u I l it) (mj_pR G 12 l a) := by
  have hS := h.1
  have k12 : mj_k G 12 = 41 := cs_k hS rfl
  have l12 : mj_l G 12 = 26 := cs_l hS rfl
  have ne : ∀ b, mj_k G b = 12 → b ≠ 12 := fun b q t => by rw [t, k12] at q; exact absurd q (by decide)
  have nl : ∀ b, mj_l G b ≤ 8 → b ≠ 12 := fun b q t => by rw [t, l12] at q; exact absurd q (by decide)
  have hS' : cs_S (mj_pR G 12 l a) := cs_pRx hS rfl (by unfold cs_w; decide)
  refine ⟨hS', ho_R h.2.1 (hh_n h) (by unfold lz; omega), h.2.2.1, fun m hm => ?_⟩
  by_cases hml : m = l
  · subst hml
    obtain ⟨v1, v2, v0, v3, v4, v5, v6, v7, v8, v9⟩ := hv
    rw [z_rRs, g_us, g_us]
    refine ⟨v1, v2, ⟨v4, v5, v6, v7, fun q => by rw [z_rRn (ne a v4)]; exact v8 q, fun q => ?_⟩, v3, fun q => ?_⟩
    · rw [(v9 q).1, z_rRs]
    · obtain ⟨w1, w2, w3, w4, w5, w6⟩ := v9 q
      have e5 : ir (mj_pR G 12 m a) m = mj_r G a 5 := by unfold ir; rw [z_rRs, z_rRn (ne a v4)]
      rw [e5]
      have n5 : mj_r G a 5 ≠ 12 := nl _ (by rw [w5]; exact (v3.2.2.2.2 q).1)
      refine ⟨w1, w2, w3, w4, w5, fun k hk => ?_⟩
      rw [z_rRn n5]
      obtain ⟨y1, y2, y3, y4, y5, -⟩ := w6 k hk
      exact ⟨y1, y2, cv_12 y3 (ne _ y3.1) (fun t => by omega), y4, y5⟩
  · obtain ⟨a1, a2, a3, a4, a5⟩ := h.2.2.2 m hm
    rw [z_rRm hml, g_un hml, g_un hml]
    have n12 := ne _ a3.1
    refine ⟨a1, a2, cv_12 a3 n12 (fun q => by rw [(a5 q).1]; exact ⟨hml, n12⟩), a4, fun q => ?_⟩
    obtain ⟨w1, w2, w3, w4, w5, w6⟩ := a5 q
    have e5 : ir (mj_pR G 12 l a) m = ir G m := by unfold ir; rw [z_rRm hml, z_rRn n12]
    rw [e5]
    have n5 : ir G m ≠ 12 := nl _ (by rw [w5]; exact (a4.2.2.2.2 q).1)
    refine ⟨w1, w2, w3, w4, w5, fun k hk => ?_⟩
    rw [z_rRn n5]
    obtain ⟨y1, y2, y3, y4, y5⟩ := w6 k hk
    exact ⟨y1, y2, cv_12 y3 (ne _ y3.1) (fun t => by omega), y4, y5⟩
/-- the world with other data -/
def wo_d (u : wo) (D : Nat → rv) (I : Nat → Nat → rv) : wo := ((D, I), u.2)
def ls_d (s : lst) (D : Nat → rv) (I : Nat → Nat → rv) : lst := (wo_d s.1 D I, s.2)
theorem LC_dat (h : LC s ρ G) (hl : l < 26) (hv : dv ρ G a l v it) : LC (ls_d s (g_u (u_D (ls_u s)) l v) (g_u (u_I (ls_u s)) l it)) ρ (mj_pR G 12 l a) ∧ yR 0 0 G (mj_pR G 12 l a) := by
  obtain ⟨h1, h2, h3, h4, h5, h6, h7⟩ := h
  have hS := h1.1
  have k12 : mj_k G 12 = 41 := cs_k hS rfl
  have l12 : mj_l G 12 = 26 := cs_l hS rfl
  have ne : ∀ b, mj_k G b = 12 → b ≠ 12 := fun b q t => by rw [t, k12] at q; exact absurd q (by decide)
  have nl : ∀ b, mj_l G b ≤ 10 → b ≠ 12 := fun b q t => by rw [t, l12] at q; exact absurd q (by decide)
  have e7 : ∀ t, mj_r (mj_pR G 12 l a) 7 t = mj_r G 7 t := fun t => z_rRn (by decide)
  refine ⟨⟨hh_dat h1 hl hv, ?_, ?_, ?_, h5, h6, h7⟩, fun _ _ => ⟨rfl, rfl⟩, fun b j q1 q2 => ⟨rfl, z_rRn (by omega)⟩, Nat.le_refl _, ?_, ?_⟩
  · obtain ⟨⟨w1, w2, w3, w4, w5⟩, w6⟩ := h2
    have eT : ∀ t, t < 10 → ∀ j, mj_r (mj_pR G 12 l a) (mj_r G 7 t) j = mj_r G (mj_r G 7 t) j := fun t ht j => z_rRn (by have := (w1 t ht).1; unfold tp_C at this; omega)
    have tb : ∀ j g q, tB G j g q → tB (mj_pR G 12 l a) j g q := fun j g q hB t ht => by
      obtain ⟨g1, g2, g3, g4, g5⟩ := hB t ht
      rw [e7, eT t ht j, z_rRn (nl _ (by omega))]
      exact ⟨g1, g2, g3, g4, g5⟩
    have hyd : ∀ m, m < 26 → ¬ (1674 ≤ mj_r (mj_pR G 12 l a) 12 m ∧ mj_r (mj_pR G 12 l a) 12 m ≤ 1713) ∧ (rv_t (g_u (u_D (ls_u s)) l v m) = 3 → ∀ k, k < rv_l (g_u (u_D (ls_u s)) l v m) → ¬ (1674 ≤ mj_r (mj_pR G 12 l a) (ir (mj_pR G 12 l a) m) k ∧ mj_r (mj_pR G 12 l a) (ir (mj_pR G 12 l a) m) k ≤ 1713)) := fun m hm => by
      by_cases hml : m = l
      · subst hml
        obtain ⟨v1, v2, v0, v3, v4, v5, v6, v7, v8, v9⟩ := hv
        rw [z_rRs, g_us]
        refine ⟨by omega, fun q k hk => ?_⟩
        obtain ⟨x1, x2, x3, x4, x5, x6⟩ := v9 q
        have e5 : ir (mj_pR G 12 m a) m = mj_r G a 5 := by unfold ir; rw [z_rRs, z_rRn (ne a v4)]
        rw [e5, z_rRn (nl _ (by rw [x5]; have := (v3.2.2.2.2 q).1; omega))]
        exact (x6 k hk).2.2.2.2.2
      · rw [z_rRm hml, g_un hml]
        obtain ⟨b1, b2⟩ := w6.2 m hm
        obtain ⟨a1, a2, a3, a4, a5⟩ := h1.2.2.2 m hm
        refine ⟨b1, fun q k hk => ?_⟩
        have e5 : ir (mj_pR G 12 l a) m = ir G m := by unfold ir; rw [z_rRm hml, z_rRn (ne _ a3.1)]
        obtain ⟨x1, x2, x3, x4, x5, -⟩ := a5 q
        rw [e5, z_rRn (nl _ (by rw [x5]; have := (a4.2.2.2.2 q).1; omega))]
        exact b2 q k hk
    refine ⟨⟨fun t ht => ?_, fun g hg => ⟨tb _ _ _ (w2 g hg).1, tb _ _ _ (w2 g hg).2⟩, fun t ht j hj => ?_, fun c hc => ?_, fun j hj => ?_⟩, fun t ht => by rw [e7]; exact ⟨(w6.1 t ht).1, fun j hj => by rw [eT t ht j]; exact (w6.1 t ht).2 j hj⟩, hyd⟩
    · obtain ⟨g1, g2, g3, g4, g5, g6, g7⟩ := w1 t ht
      rw [e7, eT t ht 0]
      exact ⟨g1, g2, g3, g4, g5, g6, g7⟩
    · rw [e7, eT t ht j]
      exact w3 t ht j hj
    · obtain ⟨g1, g2, g3, g4, g5, g6, g7⟩ := w4 c hc
      exact ⟨g1, g2, g3, g4, g5, fun j => (z_rRn (by omega)).trans (g6 j), g7⟩
    · obtain ⟨g1, g2, g3⟩ := w5 j hj
      exact ⟨g1, g2, cv_12 g3 (by omega) (fun t => absurd (g2.symm.trans t) (by decide))⟩
  · have kv : ∀ {i c : Nat} {w : rv} {I0 : Nat → Nat → rv}, kvl ρ G i c w I0 → kvl ρ (mj_pR G 12 l a) i c w I0 := fun {i c w I0} hk => by
      obtain ⟨g1, g2, g3, g4, g5, g6, g7, g8, g9, g10⟩ := hk
      have nc : c ≠ 12 := by omega
      refine ⟨g1, g2, g3, g4, g5, g6, g7, g8, fun t => ?_, fun t => ?_⟩
      · rw [z_rRn nc]
        exact g9 t
      · obtain ⟨w1, w2, w3, w4, w5⟩ := g10 t
        have n5 : mj_r G c 5 ≠ 12 := nl _ (by rw [w4]; have := (g5.2.2.2.2 t).1; omega)
        rw [z_rRn nc]
        refine ⟨w1, w2, w3, w4, fun k hk => ?_⟩
        rw [z_rRn n5]
        obtain ⟨y1, y2, y3, y4, y5⟩ := w5 k hk
        exact ⟨y1, y2, cv_12 y3 (ne _ y3.1) (fun t => by omega), y4, y5⟩
    intro i hi
    obtain ⟨⟨q1, q2⟩, q3⟩ := h3 i hi
    have eF : ∀ b, 1594 ≤ b → b ≤ 1673 → ∀ j, mj_r (mj_pR G 12 l a) b j = mj_r G b j := fun b _ _ j => z_rRn (by omega)
    refine ⟨⟨fun q => ?_, fun q => ?_⟩, q3⟩
    · rw [eF _ (by omega) (by omega)]
      exact q1 q
    · obtain ⟨g1, g2, g3, g4, g5, g6, g7, g8, g9, g10, g11, g12, g13, g14, g15, g16⟩ := q2 q
      rw [eF _ (by omega) (by omega)]
      refine ⟨g1, g2, g3, g4, g5, g6, g7, g8, g9, g10, g11, g12, g13, g14, g15, fun m hm => ⟨fun t => ?_, fun t => ?_⟩⟩
      · rw [eF _ (by omega) (by omega)]
        exact kv ((g16 m hm).1 t)
      · rw [eF _ (by omega) (by omega)]
        exact kv ((g16 m hm).2 t)
  · obtain ⟨q1, q2, q3, q4, q5⟩ := h4
    have e9 : ∀ j, mj_r (mj_pR G 12 l a) 1589 j = mj_r G 1589 j := fun j => z_rRn (by decide)
    obtain ⟨p1, p2, p3, p4, p5, p6⟩ := q1
    refine ⟨⟨p1, by rw [e9]; exact p2, p3, p4, by rw [e9]; exact p5, p6⟩, by rw [e9]; exact q2, by rw [e9, e9]; exact q3, q4, by rw [e9]; exact q5⟩
  · rw [pw_R (by unfold lz; omega) (fun i hi q => by
      rcases h1.2.1.2.2.2.1 i hi with t | t
      · exact absurd t q
      · exact t.1)]
    exact Nat.le_add_right _ _
  · rw [pw_R (by unfold lz; omega) (fun i hi q => by
      rcases h1.2.1.2.2.2.1 i hi with t | t
      · exact absurd t q
      · exact t.1)]
    exact Nat.le_add_right _ _
end ZZX
