/-! THE CALLS OF THE LAW: add, addText -/
section ZZZ8
variable {s : lst} {ρ ρ' : Nat → Nat} {G G1 G' Gm Gz : mj_G} {f f' : mm_F} {n l m a R r2 : Nat} {w : Nat → Nat} {d : Nat} {D : Nat → rv} {I : Nat → Nat → rv}
/-- cells that stand, but for the count of the typed text -/
def f3 (G G' : mj_G) : Prop := mj_n G ≤ mj_n G' ∧ ∀ a, a < mj_n G → mj_k G' a = mj_k G a ∧ mj_l G' a = mj_l G a ∧ (∀ j, mj_r G' a j = mj_r G a j) ∧ (a ≠ 3 → ∀ j, mj_i G' a j = mj_i G a j)
theorem f3_fn (h : fn_F G G') : f3 G G' := ⟨h.1, fun a ha => ⟨(h.2 a ha).1, (h.2 a ha).2.1, (h.2 a ha).2.2.1, fun _ => (h.2 a ha).2.2.2⟩⟩
theorem f3_3 {x : Int32} : f3 G (mj_pI G 3 1 x) := ⟨Nat.le_refl _, fun _ _ => ⟨rfl, rfl, fun _ => rfl, fun q _ => z_iIn q⟩⟩
theorem f3_t (h1 : f3 G G1) (h2 : f3 G1 G') : f3 G G' := ⟨Nat.le_trans h1.1 h2.1, fun a ha => by
  obtain ⟨a1, a2, a3, a4⟩ := h1.2 a ha
  obtain ⟨b1, b2, b3, b4⟩ := h2.2 a (Nat.lt_of_lt_of_le ha h1.1)
  exact ⟨b1.trans a1, b2.trans a2, fun j => (b3 j).trans (a3 j), fun q j => (b4 q j).trans (a4 q j)⟩⟩
theorem f3_f0 (hG : 1768 ≤ mj_n G) (h : f3 G G') : f0 ρ (fun o => o = 3) G G' := ⟨h.1, trivial, trivial, fun a ha => by
  obtain ⟨a1, a2, a3, a4⟩ := h.2 a ha
  exact ⟨a1, a2, fun q => ⟨a3, a4 (fun t => q (by rw [t]; exact ow_s (by decide)))⟩⟩⟩
theorem pw_f3 {x y : Nat} (ho : ho ρ G) (hG : 1768 ≤ mj_n G) (F : f3 G G') : pw x y G' = pw x y G := by
  refine pw_c (fun i hi => (F.2 _ (by omega)).2.2.1 7) (fun i hi => (F.2 _ (by omega)).2.2.1 7) (fun i hi => (F.2 _ (by omega)).2.2.1 18) (fun i hi => ⟨?_, fun h0 => ?_⟩)
  · have := fg_al hi
    exact (F.2 _ (by omega)).2.2.1 _
  · rcases ho.2.2.2.1 i hi with q | q
    · exact absurd q h0
    · exact (F.2 _ q.2.1).2.2.1 7
theorem yR_f3 {c e : Nat} (h : LC s ρ G) (F : f3 G G') (hn : mj_n G' ≤ mj_n G + c) (hu : mj_u G' ≤ mj_u G + e) : yR c e G G' := by
  have hG := hh_n h.1
  refine ⟨fun a ha => ⟨(F.2 a ha).1, (F.2 a ha).2.1⟩, fun a j h1 h2 => ⟨(F.2 a (by omega)).2.2.2 (by omega) j, (F.2 a (by omega)).2.2.1 j⟩, F.1, ?_, ?_⟩
  · rw [pw_f3 h.1.2.1 hG F]; omega
  · rw [pw_f3 h.1.2.1 hG F]; omega
/-- new cells, and the typed text told anew meanwhile -/
theorem LC_3 {nn : Nat} {ww : Nat → Nat} (h : LC s ρ G) (F : f3 G G') (hS : cs_S G') (hB : hb G') (he : ro_e ρ ρ' G) (hT : yT G' nn ww) : LC (ls_z s nn ww (ls_k s)) ρ' G' := by
  have hG := hh_n h.1
  have hW : ∀ o, o = 3 → ¬ im_o o ∧ ¬ gW o ∧ ¬ oW o ∧ o ≠ 6 := fun o q => by subst q; unfold im_o gW oW; decide
  have F0 := f3_f0 (ρ := ρ) hG F
  exact LC_g (W := fun o => o = 3) h ⟨hS, ho_t h.1.2.1 F.1 he (fun c hc => ⟨(F.2 c hc).1, (F.2 c hc).2.1⟩) hG (fun c i hc _ => (F.2 c hc).2.2.1 i), hB, dcx_f0 h.1.2.2.2 F0 he (fun o q => (hW o q).1) hG⟩ F0 he hW hT (yS_f hG h.2.2.2.2.2.2 F0 (by decide))
/-- an item added, by the class: behind the list's new row -/
theorem c_item {K : Int32 ⊕ Nat → mj_G → Prop} {G0 : mj_G} {v0 : rv} {nn cc : Nat} {ww : Nat → Nat} (h : LC s ρ G0) (hl : l < 26) (hrt : rv_t (u_D (ls_u s) l) = 3) (hrl : rv_l (u_D (ls_u s) l) = n) (hn : n ≤ 7) (F : f3 G0 G) (hS : cs_S G) (hT : yT G nn ww) (hc : mj_n G ≤ mj_n G0 + cc) (hc9 : cc ≤ 900) (hu : mj_u G ≤ mj_u G0 + 60) (hr : mj_n G0 ≤ r2) (hrl2 : r2 < mj_n G) (hk2 : mj_k G r2 = 12)
    (ok0 : rv_ok v0) (al0 : rv_t v0 = 1 ∨ (rv_t v0 = 2 ∧ rv_s v0 = false ∧ rv_l v0 ≤ 40)) (hcv : ∀ Gz, fn_F G Gz → cv (imm (ro_0 ρ (mj_n G0))) Gz r2 v0) (hd : 1 ≤ d)
    (hK : ∀ ρ' G', LC (ls_v s l (rv_L l (n + 1)) (g_u (u_I (ls_u s) l) n v0) nn ww) ρ' G' → yF G0 G' → K (.inl (nI (n + 1))) G') : Tq_append d (nI l) r2 G (fun v G' => iv_J (mj_u G0) G' → K (.inl v) G') := by
  have hG := hh_n h.1
  obtain ⟨a1, a2, a3, a4, a5⟩ := h.1.2.2.2 l hl
  obtain ⟨b1, b2, b3, b4, b5, b6⟩ := a5 hrt
  have r12 : mj_r G 12 l = mj_r G0 12 l := (F.2 12 (by omega)).2.2.1 l
  have eR : mj_r G (mj_r G0 12 l) 5 = ir G0 l := (F.2 _ a2).2.2.1 5
  refine c_append (R := ir G0 l) (n := n) hS hl (by rw [r12, (F.2 _ a2).1]; exact a3.1) (by rw [r12]; exact eR) ((F.2 _ b3).1.trans b4) ((F.2 _ b3).2.1.trans (b5.trans hrl)) (Nat.lt_of_lt_of_le b3 F.1) hn (fun k hk => ?_) hk2 hrl2 hd (fun Gz sz Fz nz uz k1 i0 i2 r5 k4 l4 rk rn hJ => ?_)
  · obtain ⟨c1, c2, c3, -⟩ := b6 k (by omega)
    rw [(F.2 _ b3).2.2.1 k, (F.2 _ c2).1]
    exact ⟨c3.1, Nat.lt_of_lt_of_le c2 F.1⟩
  have F0z : f3 G0 Gz := f3_t F (f3_fn Fz)
  have hGG := F.1
  have x1 : LC (ls_z s nn ww (ls_k s)) (ro_0 ρ (mj_n G0)) Gz := LC_3 h F0z sz (iv_end (show iv_J (mj_u G0) Gz from hJ) (by omega)) ro_0e ⟨((Fz.2 3 (by omega)).2.2.2 1).trans hT.1, fun k hk => ((Fz.2 4 (by omega)).2.2.2 k).trans (hT.2 k hk)⟩
  obtain ⟨z1, z2, z3, z4, z5⟩ := x1.1.2.2.2 l hl
  obtain ⟨y1, y2, y3, y4, y5, y6⟩ := z5 hrt
  have irz : ir Gz l = ir G0 l := by
    unfold ir
    rw [(F0z.2 12 (by omega)).2.2.1 l]
    exact (F0z.2 _ a2).2.2.1 5
  have rv3 : rv_ok (rv_L l (n + 1)) := ⟨Nat.le_refl 3, fun q => absurd q (by show ¬ 3 ≤ 1; decide), fun _ => rfl, fun q => absurd q (by show ¬ 3 = 2; decide), fun _ => ⟨by show n + 1 ≤ 8; omega, hl⟩⟩
  have hitem : ∀ k, k < rv_l (rv_L l (n + 1)) → imm (ro_0 ρ (mj_n G0)) (mj_r Gz (mj_r Gz (mj_n G + 1) 5) k) ∧ mj_r Gz (mj_r Gz (mj_n G + 1) 5) k < mj_n Gz ∧ cv (imm (ro_0 ρ (mj_n G0))) Gz (mj_r Gz (mj_r Gz (mj_n G + 1) 5) k) (g_u (u_I (ls_u s) l) n v0 k) ∧ rv_ok (g_u (u_I (ls_u s) l) n v0 k) ∧ (rv_t (g_u (u_I (ls_u s) l) n v0 k) = 1 ∨ (rv_t (g_u (u_I (ls_u s) l) n v0 k) = 2 ∧ rv_s (g_u (u_I (ls_u s) l) n v0 k) = false ∧ rv_l (g_u (u_I (ls_u s) l) n v0 k) ≤ 40)) ∧ ¬ (1674 ≤ mj_r Gz (mj_r Gz (mj_n G + 1) 5) k ∧ mj_r Gz (mj_r Gz (mj_n G + 1) 5) k ≤ 1713) := fun k hk => by
    have hk' : k < n + 1 := hk
    rw [r5]
    by_cases q : k = n
    · subst q
      rw [rn, g_us]
      exact ⟨ro_0i (by omega) hr, by omega, hcv Gz Fz, ok0, al0, by omega⟩
    · obtain ⟨g1, g2, g3, g4, g5⟩ := y6 k (by show k < rv_l (u_D (ls_u s) l); omega)
      rw [rk k (by omega), g_un q]
      have e : mj_r Gz (ir Gz l) k = mj_r G (ir G0 l) k := by
        rw [irz]
        exact (Fz.2 _ (Nat.lt_of_lt_of_le b3 F.1)).2.2.1 k
      have g6 := (x1.2.1.2.2 l hl).2 hrt k (by show k < rv_l (u_D (ls_u s) l); omega)
      rw [e] at g1 g2 g3 g6
      exact ⟨g1, g2, g3, g4, g5, g6⟩
  obtain ⟨w1, w2⟩ := LC_dat (l := l) (a := mj_n G + 1) (v := rv_L l (n + 1)) (it := g_u (u_I (ls_u s) l) n v0) x1 hl ⟨ro_0i (by omega) (by omega), by omega, by omega, rv3, k1, by rw [i2]; exact Or.inl rfl, i0, fun q => absurd q (by show ¬ 3 = 1; decide), fun q => absurd q (by show ¬ 3 = 2; decide), fun _ => ⟨rfl, by rw [r5]; exact ro_0i (by omega) (by omega), by rw [r5]; omega, by rw [r5]; exact k4, by rw [r5]; exact l4, hitem⟩⟩
  exact hK _ _ w1 (yR_F (yR_t (yR_f3 (c := cc + 3) (e := 80) h F0z (by omega) (by omega)) w2) (by omega) (by decide))
/-- an item added, by the model: what holds then -/
theorem ml_item {v0 : rv} (h : ml f l (D l) (I l)) (hrt : rv_t (D l) = 3) (hrl : rv_l (D l) = n) (hn : n ≤ 7) (hl : l < 26) (ok0 : rv_ok v0) (al0 : rv_t v0 = 1 ∨ (rv_t v0 = 2 ∧ rv_s v0 = false ∧ rv_l v0 ≤ 40)) (e0 : f' 1720 l = f 1720 l) (e2 : f' 1722 l = nI (n + 1)) (e4 : f' 1724 (8 * l + n) = nI (rv_t v0)) (e5 : rv_t v0 = 1 → f' 1725 (8 * l + n) = rv_n v0) (e6 : rv_t v0 = 2 → f' 1726 (8 * l + n) = nI (rv_l v0) ∧ ∀ j, j < rv_l v0 → f' 1727 (40 * (8 * l + n) + j) = nI (rv_c v0 j)) (ho : ∀ k, k < n → (∀ a, 1724 ≤ a → a ≤ 1726 → f' a (8 * l + k) = f a (8 * l + k)) ∧ ∀ j, j < 40 → f' 1727 (40 * (8 * l + k) + j) = f 1727 (40 * (8 * l + k) + j)) : ml f' l (rv_L l (n + 1)) (g_u (I l) n v0) := by
  obtain ⟨a1, a2, a3, a4, a5, a6⟩ := h
  refine ⟨⟨Nat.le_refl 3, fun q => absurd q (by show ¬ 3 ≤ 1; decide), fun _ => rfl, fun q => absurd q (by show ¬ 3 = 2; decide), fun _ => ⟨by show n + 1 ≤ 8; omega, hl⟩⟩, e0.trans (a2.trans (by rw [hrt]; rfl)), fun q => absurd q (by show ¬ 3 = 1; decide), fun _ => e2, fun q => absurd q (by show ¬ 3 = 2; decide), fun _ => ⟨rfl, fun k hk => ?_⟩⟩
  have hk' : k < n + 1 := hk
  by_cases q : k = n
  · subst q
    rw [g_us]
    exact ⟨ok0, e4, al0, e5, e6⟩
  · rw [g_un q]
    obtain ⟨b1, b2, b3, b4, b5⟩ := (a6 hrt).2 k (by omega)
    obtain ⟨c1, c2⟩ := ho k (by omega)
    refine ⟨b1, (c1 _ (by decide) (by decide)).trans b2, b3, fun t => (c1 _ (by decide) (by decide)).trans (b4 t), fun t => ?_⟩
    obtain ⟨y1, y2⟩ := b5 t
    exact ⟨(c1 _ (by decide) (by decide)).trans y1, fun j hj => (c2 j (by omega)).trans (y2 j hj)⟩
theorem LQ_item {v0 : rv} {nn : Nat} {ww : Nat → Nat} (hs : LQ s) (hl : l < 26) (hrt : rv_t (u_D (ls_u s) l) = 3) (hrl : rv_l (u_D (ls_u s) l) = n) (hn : n ≤ 7) (ok0 : rv_ok v0) (al0 : rv_t v0 = 1 ∨ (rv_t v0 = 2 ∧ rv_s v0 = false ∧ rv_l v0 ≤ 40)) (hW : tx_W ww nn) : LQ (ls_v s l (rv_L l (n + 1)) (g_u (u_I (ls_u s) l) n v0) nn ww) := by
  refine LQ_v hs ⟨Nat.le_refl 3, fun q => absurd q (by show ¬ 3 ≤ 1; decide), fun _ => rfl, fun q => absurd q (by show ¬ 3 = 2; decide), fun _ => ⟨by show n + 1 ≤ 8; omega, hl⟩⟩ (fun _ => ⟨rfl, fun k hk => ?_⟩) hW
  have hk' : k < n + 1 := hk
  by_cases q : k = n
  · rw [q, g_us]; exact ⟨ok0, al0⟩
  · rw [g_un q]
    exact ((hs.1.1 l hl).2 hrt).2 k (by omega)
end ZZZ8
