/-! LOOPS, by the class -/
/-- a loop stands at the start of a round -/
def loS (u : wo) (ρ : Nat → Nat) (G : mj_G) (r j : Nat) (v : rv) (N : Nat) (B : Nat → Nat) (M : Nat) (S : Nat → Nat) (lc : Nat) (ln : Nat → Nat) (op : Nat) (ch : List en) (V : Nat → Nat → Option rv) (o : ost) (ra rd : Nat → Int32) (sp : Nat → Bool) (st hts : Nat) (FG : Nat → kfr) (fr b cn : Nat → Nat) (top la : Nat) : Prop := ∃ (V1 : Nat → Nat → Option rv) (cn1 : Nat → Nat), CC u ρ G (N + 1) (e_bh B N N) M S lc ln op ch V1 o ra rd sp st hts FG (e_bh fr N (top + 1)) (e_bh b N (b (N - 1) + cn (N - 1))) cn1 (top + 1) la ∧ (∀ s l, s < N → V1 s l = V s l) ∧ (∀ s, s < N → cn1 s = cn s) ∧ mj_r G (707 + 4 * (top + 1)) 2 = 0 ∧ mj_i G (707 + 4 * (top + 1)) 0 = nI 42 ∧ mj_r G (707 + 4 * (top + 1)) 1 = r ∧ mj_i G (707 + 4 * (top + 1)) 14 = nI j ∧ mj_r G (709 + 4 * (top + 1)) 5 = ir G (rv_d v)
section ZN
variable {u : wo} {Gm : mj_G} {f f' : mm_F} {ρ ρ' ρ0 ρ1 : Nat → Nat} {G G0 G1 G2 G' : mj_G} {cur r nx p q m d t T l s k c x j : Nat} {e : Int32} {K : Int32 → mj_G → Prop} {v : rv} {b1 : Int32} {L1 : List (Nat × Nat)} {N : Nat} {B : Nat → Nat} {M : Nat} {S : Nat → Nat} {lc : Nat} {ln : Nat → Nat} {op : Nat} {ch : List en} {V : Nat → Nat → Option rv} {o : ost} {ra rd : Nat → Int32} {sp : Nat → Bool} {st hts : Nat} {FG : Nat → kfr} {V' : Nat → Nat → Option rv} {o' : ost} {ra' rd' : Nat → Int32} {sp' : Nat → Bool} {st' hts' : Nat} {FG' : Nat → kfr} {fr b cn : Nat → Nat} {top la : Nat} {bg : Nat → Nat} {vc li LC : Nat} {ci : Int32} {CA tr : Nat}
theorem cs_l13_all : ((List.range 200).all fun i => Nat.beq (cs_ro (707 + 4 * i) 13) (709 + 4 * i) && Nat.beq (cs_kd (709 + 4 * i)) 12) = true := by decide +kernel
theorem cs_l13 {i : Nat} (hS : cs_S G) (hi : i < 200) : mj_r G (707 + 4 * i) 13 = 709 + 4 * i ∧ mj_k G (709 + 4 * i) = 12 := by
  have h := List.all_eq_true.mp cs_l13_all i (List.mem_range.mpr hi)
  rw [Bool.and_eq_true] at h
  exact ⟨cs_r hS (by rw [Bool.and_eq_true]; exact ⟨h.1, by rw [Nat.ble_eq]; omega⟩), cs_k hS (by rw [Bool.and_eq_true]; exact ⟨h.2, rfl⟩)⟩
/-- the variables of the newest scope forgotten -/
theorem CC_rs {V1 : Nat → Nat → Option rv} {cn1 cn2 : Nat → Nat} {bN : Nat} (c0 : cn2 N = 0) (cs : ∀ s, s < N → cn2 s = cn1 s) (hC : CC u ρ G (N + 1) B M S lc ln op ch V1 o ra rd sp st hts FG fr b cn1 top la) (hfN : fr N = top) (hb : b N = bN) (hV1 : ∀ s l, s < N → V1 s l = V s l) (hVN : ∀ l, V N l = none) : CC u ρ (mj_pI (mj_pI G 11 2 (nI bN)) (707 + 4 * top) 6 (nI 0)) (N + 1) B M S lc ln op ch V o ra rd sp st hts FG fr b cn2 top la ∧ fw ρ bW G (mj_pI (mj_pI G 11 2 (nI bN)) (707 + 4 * top) 6 (nI 0)) ∧ FF ρ top top G (mj_pI (mj_pI G 11 2 (nI bN)) (707 + 4 * top) 6 (nI 0)) := by
  obtain ⟨h1, h2, h3, h4, h5, h5', hu, h8, h9⟩ := hC
  have htop := h3.2.1
  have hG := hh_n h1
  have k11 : mj_k G 11 = 10 := cs_k h1.1 rfl
  have kfr := cs_g14 h1.1 htop
  have a1 := hh_I (a := 11) (j := 2) (z := nI bN) h1 (by unfold imm; rw [ow_s (by decide)]; unfold im_o; omega) (fun _ q => absurd (k11.symm.trans q) (by decide))
  have a2 := hh_I (a := 707 + 4 * top) (j := 6) (z := nI 0) a1 (by unfold imm; rw [ow_s (by omega)]; unfold im_o; omega) (fun q => absurd q (by decide))
  have F1 : fw ρ (fun o => o = 11 ∨ o = 707 + 4 * top) G (mj_pI G 11 2 (nI bN)) := fw_I (Or.inl (ow_s (by decide)))
  have F2 : fw ρ (fun o => o = 11 ∨ o = 707 + 4 * top) (mj_pI G 11 2 (nI bN)) (mj_pI (mj_pI G 11 2 (nI bN)) (707 + 4 * top) 6 (nI 0)) := fw_I (Or.inr (ow_s (by omega)))
  have F := fw_t F1 ro_r F2
  have nim : ∀ o, (o = 11 ∨ o = 707 + 4 * top) → ¬ im_o o := fun o q => by unfold im_o; omega
  have eI : ∀ a i, ¬ (a = 11 ∧ i = 2) → ¬ (a = 707 + 4 * top ∧ i = 6) → mj_i (mj_pI (mj_pI G 11 2 (nI bN)) (707 + 4 * top) 6 (nI 0)) a i = mj_i G a i := fun a i q1 q2 => (if_neg q2).trans (if_neg q1)
  have e6 : mj_i (mj_pI (mj_pI G 11 2 (nI bN)) (707 + 4 * top) 6 (nI 0)) (707 + 4 * top) 6 = nI 0 := z_iIs
  have e11 : mj_i (mj_pI (mj_pI G 11 2 (nI bN)) (707 + 4 * top) 6 (nI 0)) 11 2 = nI bN := (z_iIn (by omega)).trans z_iIs
  have eR : ∀ a i, mj_r (mj_pI (mj_pI G 11 2 (nI bN)) (707 + 4 * top) 6 (nI 0)) a i = mj_r G a i := fun _ _ => rfl
  generalize mj_pI (mj_pI G 11 2 (nI bN)) (707 + 4 * top) 6 (nI 0) = G2 at a2 F eI e6 e11 eR ⊢
  have hF : FF ρ top top G G2 := fun a ha h7 h8 => ⟨fun i _ => eR a i, fun i hi _ => eI a i (fun q => by
    rw [q.1, ow_s (by decide)] at h7
    omega) hi⟩
  have hE := h4.1
  have frlt : ∀ s, s < N → fr s < top := fun s hs => by
    have := ((hE.2 N (Nat.lt_succ_self N)).2.2.1 s hs).1
    omega
  refine ⟨⟨a2, wC_f h1 h2 F ro_r nim, sC_F hF h1 h3, ⟨⟨hE.1, fun s hs => ?_⟩, fun s hs p' q' p1 p2 q1 q2 e => ?_, fun k hk => ?_⟩, (eI _ _ (by omega) (by omega)).trans h5, ?_, uC_f h1 hu F (fun o q => by omega), (oD_f h1 h8 F (fun o q => by unfold oW; omega)).1, fgC_f h1 h9 F ro_r (fun o q => ⟨nim o q, by unfold gW; omega⟩)⟩, fw_m F (fun o q => ⟨by omega, nim o q⟩), hF⟩
  · obtain ⟨g1, g2, g3, g4, g5, g6, g7, g8⟩ := hE.2 s hs
    by_cases q : s = N
    · subst q
      refine ⟨g1, ?_, fun r' hr => ?_, (eI _ _ (by omega) (by omega)).trans g4, (eI _ _ (by omega) (by omega)).trans g5, ?_, fun p' p1 p2 => ?_, fun l v qv => ?_⟩
      · rw [c0]
        omega
      · rw [cs _ hr]
        exact g3 r' hr
      · rw [c0, hfN]
        exact e6
      · rw [c0] at p2
        omega
      · rw [hVN] at qv
        exact absurd qv (by simp)
    · have hsN : s < N := by omega
      have := frlt s hsN
      refine ⟨g1, by rw [cs _ hsN]; exact g2, fun r' hr => by rw [cs _ (by omega)]; exact g3 r' hr, (eI _ _ (by omega) (by omega)).trans g4, (eI _ _ (by omega) (by omega)).trans g5, ?_, fun p' p1 p2 => ?_, fun l v qv => ?_⟩
      · rw [cs _ hsN]
        exact (eI _ _ (by omega) (by omega)).trans g6
      · rw [cs _ hsN] at p2
        rcases g7 p' p1 p2 with g | ⟨l, v, i1, i2, i3, i4, i5⟩
        · exact Or.inl ((eI _ _ (by omega) (by omega)).trans g)
        · exact Or.inr ⟨l, v, i1, (eI _ _ (by omega) (by omega)).trans i2, by rw [← hV1 s l hsN]; exact i3, ce_cv h1 F ro_r (fun o q => ⟨nim o q, by omega⟩) (by omega) i5.1 i4, i5⟩
      · rw [cs _ hsN]
        obtain ⟨p', p1, p2, p3⟩ := g8 l v (by rw [hV1 s l hsN]; exact qv)
        exact ⟨p', p1, p2, (eI _ _ (by omega) (by omega)).trans p3⟩
  · by_cases qs : s = N
    · rw [qs, c0] at p2
      rw [qs] at p1
      omega
    · rw [cs _ (by omega)] at p2 q2
      have hl := (hE.2 s hs).2.1
      rw [eI _ _ (by omega) (by omega), eI _ _ (by omega) (by omega)] at e
      rw [eI _ _ (by omega) (by omega)]
      exact h4.2.1 s hs p' q' p1 p2 q1 q2 e
  · obtain ⟨i1, i2, i3⟩ := h4.2.2 k hk
    exact ⟨(eI _ _ (by omega) (by omega)).trans i1, (eI _ _ (by omega) (by omega)).trans i2, (eI _ _ (by omega) (by omega)).trans i3⟩
  · rw [e11, Nat.add_sub_cancel, hb, c0]
    rfl
/-- what is written beside what the picture speaks of, in frames -/
theorem CC_x {W : Nat → Prop} (hC : CC u ρ G N B M S lc ln op ch V o ra rd sp st hts FG fr b cn top la) (a1 : hh ρ (u_D u) (u_I u) G2) (F : fw ρ W G G2) (hW : ∀ o, W o → 707 ≤ o ∧ o ≤ 1506) (eI : ∀ a i, (a < 707 ∨ (707 ≤ a ∧ a ≤ 1506 ∧ (((a - 707) % 4 = 0 ∧ (i < 14 ∨ 18 < i)) ∨ (a - 707) % 4 = 1))) → mj_i G2 a i = mj_i G a i) (eR : ∀ a i, 707 ≤ a → a ≤ 1506 → (a - 707) % 4 = 0 → mj_r G2 a i = mj_r G a i) : CC u ρ G2 N B M S lc ln op ch V o ra rd sp st hts FG fr b cn top la ∧ fw ρ bW G G2 := by
  obtain ⟨h1, h2, h3, h4, h5, h5', hu, h8, h9⟩ := hC
  have htop := h3.2.1
  have hG := hh_n h1
  have nim : ∀ o, W o → ¬ im_o o := fun o q => by
    have := hW o q
    unfold im_o
    omega
  obtain ⟨s1, s2, s3, s4, s5, s6, s7, s8, s9, s10, s11, s12, s13, s14⟩ := h3
  have hE := h4.1
  have fI : ∀ a i, a < 200 → (i < 14 ∨ 18 < i) → mj_i G2 (707 + 4 * a) i = mj_i G (707 + 4 * a) i := fun a i ha hi => eI _ _ (Or.inr ⟨by omega, by omega, Or.inl ⟨by omega, hi⟩⟩)
  have fLk : ∀ {a n : Nat} {c : Nat → Nat}, a < 200 → fL G a n c → fL G2 a n c := fun {a n c} ha h => ⟨(fI _ _ ha (by omega)).trans h.1, fun k hk => ⟨(eI _ _ (Or.inr ⟨by omega, by omega, Or.inr (by omega)⟩)).trans (h.2 k hk).1, (h.2 k hk).2⟩⟩
  have chk : ∀ {L : List en} {m' : Nat} {z : Int32}, m' < 200 → chC (u_A u) (u_G u) fr G L m' z → chC (u_A u) (u_G u) fr G2 L m' z := fun {L} => by
    induction L with
    | nil => exact fun _ h => h
    | cons z0 L ih =>
      intro m' z hm' ⟨a, la, tg, g1, g2, g3, g4, g5, g6, g7, g8, g9, g10, g11, g12, g13⟩
      refine ⟨a, la, tg, g1, g2, g3, (eR _ _ (by omega) (by omega) (by omega)).trans g4, g5, g6, g7, g8, (fI _ _ (by omega) (by omega)).trans g9, (fI _ _ (by omega) (by omega)).trans g10, g11, fLk (by omega) g12, ?_⟩
      rw [fI _ _ (by omega) (by omega)]
      exact ih (by omega) g13
  refine ⟨⟨a1, wC_f h1 h2 F ro_r nim, ⟨s1, s2, s3, s4, s5, (fI _ _ s2 (by omega)).trans s6, (fI _ _ s2 (by omega)).trans s7, (fI _ _ s2 (by omega)).trans s8, (fI _ _ s2 (by omega)).trans s9, fLk (by omega) s10, s11, by rw [fI _ _ s2 (by omega)]; exact chk s2 s12, s13, fun k hk => ?_⟩, ⟨⟨hE.1, fun s hs => ?_⟩, cu_w h1 hE h4.2.1 F (fun o q => by have := hW o q; omega), fun k hk => ?_⟩, (eI _ _ (Or.inl (by decide))).trans h5, (eI _ _ (Or.inl (by decide))).trans h5', uC_f h1 hu F (fun o q => by have := hW o q; omega), (oD_f h1 h8 F (fun o q => by have := hW o q; unfold oW; omega)).1, fgC_f h1 h9 F ro_r (fun o q => ⟨nim o q, by have := hW o q; unfold gW; omega⟩)⟩, fw_m F (fun o q => ⟨by have := hW o q; omega, nim o q⟩)⟩
  · obtain ⟨g1, g2, g3, g4⟩ := s14 k hk
    have := s5 _ g1
    exact ⟨g1, g2, g3, (fI _ _ (by omega) (by omega)).trans g4⟩
  · obtain ⟨g1, g2, g3, g4, g5, g6, g7, g8⟩ := hE.2 s hs
    refine ⟨g1, g2, g3, (fI _ _ g1 (by omega)).trans g4, (fI _ _ g1 (by omega)).trans g5, (fI _ _ g1 (by omega)).trans g6, fun p p1 p2 => ?_, fun l v q => ?_⟩
    · rcases g7 p p1 p2 with g | ⟨l, v, i1, i2, i3, i4, i5⟩
      · exact Or.inl ((eI _ _ (Or.inl (by omega))).trans g)
      · exact Or.inr ⟨l, v, i1, (eI _ _ (Or.inl (by omega))).trans i2, i3, ce_cv h1 F ro_r (fun o q => ⟨nim o q, by have := hW o q; omega⟩) (by omega) i5.1 i4, i5⟩
    · obtain ⟨p, p1, p2, p3⟩ := g8 l v q
      exact ⟨p, p1, p2, (eI _ _ (Or.inl (by omega))).trans p3⟩
  · obtain ⟨i1, i2, i3⟩ := h4.2.2 k hk
    have := s5 _ (s14 k hk).1
    exact ⟨(fI _ _ (by omega) (by omega)).trans i1, (fI _ _ (by omega) (by omega)).trans i2, (fI _ _ (by omega) (by omega)).trans i3⟩
/-- an int of the top frame that the picture does not speak of -/
theorem CC_fi {i : Nat} {y : Int32} (hC : CC u ρ G N B M S lc ln op ch V o ra rd sp st hts FG fr b cn top la) (hi : i = 14 ∨ i = 15 ∨ i = 16 ∨ i = 17) : CC u ρ (mj_pI G (707 + 4 * top) i y) N B M S lc ln op ch V o ra rd sp st hts FG fr b cn top la ∧ fw ρ bW G (mj_pI G (707 + 4 * top) i y) := by
  have htop := hC.2.2.1.2.1
  obtain ⟨a1, F⟩ := o_fI (i := top) (j := i) (y := y) hC.1 htop
  exact CC_x hC a1 F (fun o q => by omega) (fun a j h => if_neg (fun q => by omega)) (fun _ _ _ _ _ => rfl)
/-- the list of the top frame -/
theorem CC_li (hC : CC u ρ G N B M S lc ln op ch V o ra rd sp st hts FG fr b cn top la) (a1 : hh ρ (u_D u) (u_I u) G2) (F : fw ρ (fun o => o = ow ρ (709 + 4 * top)) G G2) (e : ∀ a, a ≠ 709 + 4 * top → (∀ j, mj_i G2 a j = mj_i G a j) ∧ ∀ j, mj_r G2 a j = mj_r G a j) : CC u ρ G2 N B M S lc ln op ch V o ra rd sp st hts FG fr b cn top la := by
  have htop := hC.2.2.1.2.1
  have ho : ow ρ (709 + 4 * top) = 709 + 4 * top := ow_s (by omega)
  exact (CC_x hC a1 F (fun o q => by rw [ho] at q; omega) (fun a i h => (e a (by omega)).1 i) (fun a i h7 h8 h9 => (e a (by omega)).2 i)).1
end ZN
