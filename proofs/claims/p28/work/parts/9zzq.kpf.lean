/-! FRAGMENTS kept by the class -/
/-- a fragment as it is kept -/
def k_nw (u : wo) (T p r lc : Nat) (ln : Nat → Nat) (n0 : Nat) (w0 : Bool) (o : ost) (xa xd : Int32) (N : Nat) (B : Nat → Nat) (V : Nat → Nat → Option rv) : kfr := (true, (T, p, r), (lc, ln), (o_x o n0, w0), (o_n o - n0, fun j => o_c o (n0 + j)), (xa, xd), ((fun l => e_vl (u_D u) B V l N), u_D u), u_I u)
/-- what keeping the i-th fragment writes -/
def iW (i o : Nat) : Prop := (1597 + 8 * i ≤ o ∧ o ≤ 1601 + 8 * i) ∨ (2000 + 52 * i ≤ o ∧ o < 2052 + 52 * i)
section ZZQ
variable {u : wo} {ρ ρ' ρ0 ρ1 : Nat → Nat} {D : Nat → rv} {I I0 : Nat → Nat → rv} {G G0 G1 G2 G' : mj_G} {W : Nat → Prop} {cur a d i j l p q r t T nx : Nat} {e : Int32} {K : Int32 → mj_G → Prop} {k : kfr} {N : Nat} {B : Nat → Nat} {M : Nat} {S : Nat → Nat} {lc : Nat} {ln : Nat → Nat} {op : Nat} {ch : List en} {V : Nat → Nat → Option rv} {o : ost} {ra rd : Nat → Int32} {sp : Nat → Bool} {st hts : Nat} {FG : Nat → kfr} {V' : Nat → Nat → Option rv} {o' : ost} {ra' rd' : Nat → Int32} {sp' : Nat → Bool} {st' hts' : Nat} {FG' : Nat → kfr} {fr b cn : Nat → Nat} {top la : Nat}
theorem iW_im (hi : i < 10) {o : Nat} (h : iW i o) : ¬ im_o o ∧ o ≠ 6 ∧ o ≠ 11 ∧ ¬ (67 ≤ o ∧ o ≤ 1506) ∧ ¬ oW o ∧ gW o := by
  unfold iW at h
  unfold im_o oW gW
  omega
/-- a fragment stays as it is kept -/
theorem fg1_f (h : hh ρ D I G) (hi : i < 10) (hk : fgC1 ρ G i k) (F : fw ρ W G G') (he : ro_e ρ ρ' G) (hW : ∀ o, W o → ¬ im_o o ∧ ¬ (1597 + 8 * i ≤ o ∧ o ≤ 1601 + 8 * i) ∧ ¬ (2000 + 52 * i ≤ o ∧ o < 2052 + 52 * i)) : fgC1 ρ' G' i k := by
  have hG := hh_n h
  have e : ∀ a, 1597 + 8 * i ≤ a → a ≤ 1601 + 8 * i → (∀ j, mj_r G' a j = mj_r G a j) ∧ ∀ j, mj_i G' a j = mj_i G a j := fun a h1 h2 => (F.2.2.2 a (by omega)).2.2 (fun q => (hW _ q).2.1 (by rw [ow_s (by omega)]; omega))
  have nim : ∀ o, W o → ¬ im_o o := fun o q => (hW o q).1
  obtain ⟨h1, h2⟩ := hk
  obtain ⟨a1, a2⟩ := e (1597 + 8 * i) (by omega) (by omega)
  obtain ⟨-, b2⟩ := e (1598 + 8 * i) (by omega) (by omega)
  obtain ⟨-, c2⟩ := e (1599 + 8 * i) (by omega) (by omega)
  obtain ⟨d1, -⟩ := e (1600 + 8 * i) (by omega) (by omega)
  obtain ⟨e1, -⟩ := e (1601 + 8 * i) (by omega) (by omega)
  refine ⟨fun q => (a1 0).trans (h1 q), fun q => ?_⟩
  obtain ⟨g1, g2, g3, g4, g5, g6, g7, g8, g9, g10, g11, g12, g13, g14, g15, g16⟩ := h2 q
  refine ⟨(a1 0).trans g1, g2, g3, g4, (a2 2).trans g5, g6, fun j hj => ⟨(b2 j).trans (g7 j hj).1, (g7 j hj).2⟩, (a2 3).trans g8, g9, (a2 4).trans g10, (a2 6).trans g11, g12, fun j hj => ⟨(c2 j).trans (g13 j hj).1, (g13 j hj).2⟩, (a2 7).trans g14, (a2 8).trans g15, fun l hl => ⟨fun t => ?_, fun t => ?_⟩⟩
  · rw [d1]
    exact kvl_g h ((g16 l hl).1 t) F he nim (fun q => (hW _ q).2.2 (by omega))
  · rw [e1]
    exact kvl_g h ((g16 l hl).2 t) F he nim (fun q => (hW _ q).2.2 (by omega))
/-- a fragment kept: the whole picture -/
theorem CC_new (hC : CC u ρ G N B M S lc ln op ch V o ra rd sp st hts FG fr b cn top la) (hi : i < 10) (hh' : hh ρ' (u_D u) (u_I u) G') (F : fw ρ (iW i) G G') (he : ro_e ρ ρ' G) (hk : fgC1 ρ' G' i k) (hm : k_is k = true → (k_p k, k_r k) ∈ u_L u (k_T k)) : CC u ρ' G' N B M S lc ln op ch V o ra rd sp st hts (g_u FG i k) fr b cn top la ∧ fw ρ bW G G' ∧ FF ρ top cur G G' := by
  obtain ⟨h1, h2, h3, h4, h5, h6, h7, h8, h9⟩ := hC
  have hW : ∀ o, iW i o → ¬ im_o o ∧ o ≠ 6 ∧ o ≠ 11 ∧ ¬ (67 ≤ o ∧ o ≤ 1506) ∧ ¬ oW o ∧ gW o := fun o q => iW_im hi q
  have hF : FF ρ top cur G G' := FF_w F h3.2.1 (fun o q t => (hW o q).2.2.2.1 (by omega))
  refine ⟨⟨hh', wC_f h1 h2 F he (fun o q => (hW o q).1), sC_F (cur := cur) hF h1 h3, dC_f h1 h4 (fun k hk => (h3.2.2.2.2.2.2.2.2.2.2.2.2.2 k hk).1) F he (fun o q => ⟨(hW o q).1, (hW o q).2.2.2.1⟩), ?_, ?_, uC_f h1 h7 F (fun o q => (hW o q).2.1), (oD_f h1 h8 F (fun o q => (hW o q).2.2.2.2.1)).1, fun i' hi' => ?_⟩, fw_m F (fun o q => ⟨Or.inr (Or.inr (Or.inr (hW o q).2.2.2.2.2)), (hW o q).1⟩), hF⟩
  · exact (ce_i h1 F (by decide) (fun q => (hW _ q).2.2.1 rfl)).trans h5
  · exact (ce_i h1 F (by decide) (fun q => (hW _ q).2.2.1 rfl)).trans h6
  · by_cases q : i' = i
    · subst q
      rw [g_us]
      exact ⟨hk, hm⟩
    · rw [g_un q]
      obtain ⟨f1, f2⟩ := h9 i' hi'
      exact ⟨fg1_f h1 hi' f1 F he (fun o t => ⟨(hW o t).1, by unfold iW at t; omega, by unfold iW at t; omega⟩), f2⟩
/-- an int of a cell that stands -/
theorem lo_w {y : Int32} (h : hh ρ D I G) (ha : a < 1768) (him : ¬ im_o a) (hj : j = 2 → mj_k G a ≠ 12) (e : G' = mj_pI G a j y) : hh ρ D I G' ∧ fw ρ (fun q => q = a) G G' ∧ (∀ x z, ¬ (x = a ∧ z = j) → mj_i G' x z = mj_i G x z) ∧ mj_i G' a j = y ∧ (∀ x z, mj_r G' x z = mj_r G x z) := by
  have ho : ow ρ a = a := ow_s ha
  subst e
  exact ⟨hh_I h (by unfold imm; rw [ho]; exact him) (fun q1 q2 => absurd q2 (hj q1)), fw_I ho, fun x z q => if_neg q, z_iIs, fun _ _ => rfl⟩
theorem lo_c {b0 sp0 dp m : Nat} (h : hh ρ D I G) (ha : a < 1768) (him : ¬ im_o a) (hk : mj_k G a ≠ 12) (e : G' = mj_cp G b0 sp0 a dp m) : hh ρ D I G' ∧ fw ρ (fun q => q = a) G G' ∧ (∀ x z, x ≠ a → mj_i G' x z = mj_i G x z) ∧ (∀ z, dp ≤ z → z < dp + m → mj_i G' a z = mj_i G b0 (sp0 + (z - dp))) ∧ (∀ x z, mj_r G' x z = mj_r G x z) := by
  have ho : ow ρ a = a := ow_s ha
  subst e
  exact ⟨hh_cp h (by unfold imm; rw [ho]; exact him) hk, fw_cp ho, fun x z q => cp_n (fun t => q t.1), fun z z1 z2 => cp_i z1 z2, fun _ _ => rfl⟩
/-- a fragment is kept -/
theorem c_keepF {bb : Nat → Nat} {n0 N2 : Nat} {w0 : Bool} {xa xd : Int32} {V2 : Nat → Nat → Option rv} {B2 fr2 b2 cn2 : Nat → Nat} {K : mj_G → Prop} (hu : uP u) (hC : CC u ρ G N B M S lc ln op ch V o ra rd sp st hts FG fr b cn top la) (hE : ce ρ (u_D u) G N2 B2 V2 fr2 b2 cn2) (hB2 : ∀ s, B2 s ≤ s) (hV2 : ∀ s l v, V2 s l = some v → rv_in (u_D u) v) (hT : T < 10) (hp : p < 80) (hr0 : r ≠ 0) (hi : i < 10) (h1 : mj_r G (707 + 4 * top) 1 = r) (h4 : mj_i G (707 + 4 * top) 4 = sf fr2 N2) (h15 : mj_i G (707 + 4 * top) 15 = nI n0) (h16 : mj_i G (707 + 4 * top) 16 = bI w0) (h19 : mj_i G (707 + 4 * top) 19 = xa) (h20 : mj_i G (707 + 4 * top) 20 = xd) (hn0 : n0 ≤ o_n o) (hd : 4 ≤ d)
    (hK : ∀ ρ' G', hh ρ' (u_D u) (u_I u) G' → ro_e ρ ρ' G → fw ρ (iW i) G G' → fgC1 ρ' G' i (k_nw u T p r lc ln n0 w0 o xa xd N2 B2 V2) → K G') : Fg_keep d (1597 + 8 * i) (707 + 4 * top) (707 + 4 * la) G K := by
  obtain ⟨d, rfl⟩ : ∃ y, d = y + 4 := ⟨d - 4, by omega⟩
  have hh1 := hC.1
  have hS := hh1.1
  have hG := hh_n hh1
  have hs := hC.2.2.1
  have htop := hs.2.1
  have hla : la < 200 := by have := hs.2.2.2.1; omega
  have hL := hs.2.2.2.2.2.2.2.2.2.1
  have hlc := hs.2.2.2.2.2.2.2.2.2.2.1
  have ho := hC.2.2.2.2.2.2.2.1.1
  have hok := ho.1
  have hn3 := hok.1
  have k4 := cs_g9 hS hi
  obtain ⟨c1, c2, c3, c4, c5, c6, c7, c8⟩ := cs_fr hS hi
  have him0 : ¬ im_o (1597 + 8 * i) := by
    unfold im_o
    omega
  have him1 : ¬ im_o (1598 + 8 * i) := by
    unfold im_o
    omega
  have him2 : ¬ im_o (1599 + 8 * i) := by
    unfold im_o
    omega
  have hor : ow ρ (1597 + 8 * i) = 1597 + 8 * i := ow_s (by omega)
  have hlz : ¬ lz (1597 + 8 * i) 0 := by
    unfold lz
    omega
  refine w_Fg_keep hS ⟨cs_g14 hS htop, k4, ?_⟩
  intro G3 e3
  have q3 : hh ρ (u_D u) (u_I u) G3 ∧ fw ρ (fun q => q = 1597 + 8 * i) G G3 ∧ (∀ x z, mj_i G3 x z = mj_i G x z) ∧ mj_r G3 (1597 + 8 * i) 0 = r := by
    rw [e3, h1]
    exact ⟨hh_R hh1 (by unfold imm; rw [hor]; exact him0) hlz (cs_pR hS k4 rfl), fw_R hor hlz hh1.2.1, fun _ _ => rfl, z_rRs⟩
  clear e3
  obtain ⟨x1, x2, x3, x4⟩ := q3
  refine ⟨cs_g14 x1.1 hla, ?_⟩
  intro G5 e5
  rw [x3, hL.1] at e5
  obtain ⟨y1, y2, y3, y4, y5⟩ := lo_w x1 (by omega) him0 (fun _ => by rw [cs_g9 x1.1 hi]; decide) e5
  clear e5
  obtain ⟨d1, -, -, -, d5, d6, -, -⟩ := cs_fr y1.1 hi
  obtain ⟨l1, l2, l3⟩ := cs_l14 y1.1 hla
  rw [d1, l1, d6]
  refine ⟨by rw [d5]; decide, c_cpy (sp := 0) (dp := 0) (m := 10) (Or.inl d5) (l2.trans d5.symm) (by omega) (by omega) (by rw [l3]; decide) (by rw [d6]; decide) ⟨by decide, by decide, by decide⟩ ?_⟩
  intro G19 e19
  obtain ⟨z1, z2, z3, z4, z5⟩ := lo_c y1 (by omega) him1 (by rw [d5]; decide) e19
  clear e19
  have F19 : fw ρ (iW i) G G19 := fw_t (fw_t (fw_m x2 (fun o q => by have q' : o = 1597 + 8 * i := q; unfold iW; omega)) ro_r (fw_m y2 (fun o q => by have q' : o = 1597 + 8 * i := q; unfold iW; omega))) ro_r (fw_m z2 (fun o q => by have q' : o = 1598 + 8 * i := q; unfold iW; omega))
  -- cells that are not the fragment's
  have lo : ∀ {G' : mj_G}, fw ρ (iW i) G G' → ∀ x z, x < 1768 → ¬ iW i x → mj_i G' x z = mj_i G x z := fun F x z hx hq => ce_i hh1 F hx hq
  have nf : ∀ x, x ≤ 1596 → ¬ iW i x := fun x hx => by
    unfold iW
    omega
  rw [lo F19 _ _ (by omega) (nf _ (by omega)), h15]
  refine z_ixi (by omega) (by omega) ?_
  intro G22 e22
  rw [lo F19 1592 n0 (by decide) (nf _ (by decide)), ho.2.2.2.2.2 n0 hn0] at e22
  obtain ⟨a1, a2, a3, a4, a5⟩ := lo_w z1 (by omega) him0 (fun q => absurd q (by decide)) e22
  clear e22
  have F22 : fw ρ (iW i) G G22 := fw_t F19 ro_r (fw_m a2 (fun o q => by have q' : o = 1597 + 8 * i := q; unfold iW; omega))
  rw [lo F22 _ _ (by omega) (nf _ (by omega)), h16]
  refine ⟨bI_b _, ?_⟩
  intro G24 e24 G25 e25
  obtain ⟨b1, b2', b3, b4, b5⟩ := lo_w a1 (by omega) him0 (fun q => absurd q (by decide)) e24
  clear e24
  have F24 : fw ρ (iW i) G G24 := fw_t F22 ro_r (fw_m b2' (fun o q => by have q' : o = 1597 + 8 * i := q; unfold iW; omega))
  rw [lo F24 1589 1 (by decide) (nf _ (by decide)), ho.2.2.1, lo F24 _ _ (by omega) (nf _ (by omega)), h15, z_sub hn0, z_mx0 (by omega)] at e25
  obtain ⟨g1, g2, g3, g4, g5⟩ := lo_w b1 (by omega) him0 (fun q => absurd q (by decide)) e25
  clear e25
  have F25 : fw ρ (iW i) G G25 := fw_t F24 ro_r (fw_m g2 (fun o q => by have q' : o = 1597 + 8 * i := q; unfold iW; omega))
  obtain ⟨-, d2, -, -, -, -, d7, d8⟩ := cs_fr g1.1 hi
  have row0 : mj_r G25 1589 0 = mj_r G 1589 0 := ((F25.2.2.2 1589 (by omega)).2.2 (by rw [ow_s (by decide)]; exact nf _ (by decide))).1 0
  rw [d2, row0, g4, lo F25 1589 1 (by decide) (nf _ (by decide)), ho.2.2.1, z_sub (by omega), show o_n o - (o_n o - n0) = n0 by omega]
  have hrow := ho.2.1
  have rk : mj_k G25 (mj_r G 1589 0) = 20 ∧ mj_l G25 (mj_r G 1589 0) = 300 := by
    rcases hrow with q | q
    · rw [q]
      exact ⟨cs_k g1.1 rfl, cs_l g1.1 rfl⟩
    · rw [q]
      exact ⟨cs_k g1.1 rfl, cs_l g1.1 rfl⟩
  refine c_cpy (sp := n0) (dp := 0) (m := o_n o - n0) (Or.inl d7) (rk.1.trans d7.symm) (by omega) (by omega) (by rw [rk.2]; omega) (by rw [d8]; omega) ⟨by omega, by decide, by omega⟩ ?_
  intro G38 e38 G39 e39 G40 e40
  obtain ⟨i1, i2, i3, i4, i5⟩ := lo_c g1 (by omega) him2 (by rw [d7]; decide) e38
  clear e38
  have F38 : fw ρ (iW i) G G38 := fw_t F25 ro_r (fw_m i2 (fun o q => by have q' : o = 1599 + 8 * i := q; unfold iW; omega))
  rw [lo F38 _ _ (by omega) (nf _ (by omega)), h19] at e39
  obtain ⟨j1, j2, j3, j4, j5⟩ := lo_w i1 (by omega) him0 (fun q => absurd q (by decide)) e39
  clear e39
  have F39 : fw ρ (iW i) G G39 := fw_t F38 ro_r (fw_m j2 (fun o q => by have q' : o = 1597 + 8 * i := q; unfold iW; omega))
  rw [lo F39 _ _ (by omega) (nf _ (by omega)), h20] at e40
  obtain ⟨m1, m2, m3, m4, m5⟩ := lo_w j1 (by omega) him0 (fun q => absurd q (by decide)) e40
  clear e40
  have F40 : fw ρ (iW i) G G40 := fw_t F39 ro_r (fw_m m2 (fun o q => by have q' : o = 1597 + 8 * i := q; unfold iW; omega))
  -- what stands there then
  have v0 : mj_r G40 (1597 + 8 * i) 0 = r := (m5 _ _).trans ((j5 _ _).trans ((i5 _ _).trans ((g5 _ _).trans ((b5 _ _).trans ((a5 _ _).trans ((z5 _ _).trans ((y5 _ _).trans x4)))))))
  have v2 : mj_i G40 (1597 + 8 * i) 2 = nI lc := (m3 _ _ (by omega)).trans ((j3 _ _ (by omega)).trans ((i3 _ _ (by omega)).trans ((g3 _ _ (by omega)).trans ((b3 _ _ (by omega)).trans ((a3 _ _ (by omega)).trans ((z3 _ _ (by omega)).trans y4))))))
  have v3 : mj_i G40 (1597 + 8 * i) 3 = nI (o_x o n0) := (m3 _ _ (by omega)).trans ((j3 _ _ (by omega)).trans ((i3 _ _ (by omega)).trans ((g3 _ _ (by omega)).trans ((b3 _ _ (by omega)).trans a4))))
  have v4 : mj_i G40 (1597 + 8 * i) 4 = bI w0 := (m3 _ _ (by omega)).trans ((j3 _ _ (by omega)).trans ((i3 _ _ (by omega)).trans ((g3 _ _ (by omega)).trans b4)))
  have v6 : mj_i G40 (1597 + 8 * i) 6 = nI (o_n o - n0) := (m3 _ _ (by omega)).trans ((j3 _ _ (by omega)).trans ((i3 _ _ (by omega)).trans g4))
  have v7 : mj_i G40 (1597 + 8 * i) 7 = xa := (m3 _ _ (by omega)).trans j4
  have vl : ∀ y, y < 10 → mj_i G40 (1598 + 8 * i) y = mj_i G (708 + 4 * la) y := fun y hy => (m3 _ _ (by omega)).trans ((j3 _ _ (by omega)).trans ((i3 _ _ (by omega)).trans ((g3 _ _ (by omega)).trans ((b3 _ _ (by omega)).trans ((a3 _ _ (by omega)).trans ((z4 y (Nat.zero_le y) (by omega)).trans (by rw [Nat.zero_add, Nat.sub_zero]; exact (y3 _ _ (by omega)).trans (x3 _ _))))))))
  have vc : ∀ y, y < o_n o - n0 → mj_i G40 (1599 + 8 * i) y = nI (o_c o (n0 + y)) := fun y hy => (m3 _ _ (by omega)).trans ((j3 _ _ (by omega)).trans ((i4 y (Nat.zero_le y) (by omega)).trans (by
    rw [Nat.sub_zero, lo F25 _ _ (by omega) (nf _ (by omega))]
    exact ho.2.2.2.2.1 (n0 + y) (by omega))))
  obtain ⟨-, -, d9, d10, -⟩ := cs_fr m1.1 hi
  rw [d9, v7, lo F40 _ _ (by omega) (nf _ (by omega)), h4]
  have hW : ∀ o, iW i o → ¬ im_o o ∧ ¬ (67 ≤ o ∧ o ≤ 1506) := fun o q => ⟨(iW_im hi q).1, (iW_im hi q).2.2.2.1⟩
  have hE40 : ce ρ (u_D u) G40 N2 B2 V2 fr2 b2 cn2 := ce_fw hh1 hE F40 ro_r hW
  have hin : ∀ x l, l < 26 → rv_in (u_D u) (e_vl (u_D u) B2 V2 l x) := fun x l hl => e_vl_in hu.1 hV2 hl
  have e0 : ∀ l, e_vl (u_D u) B2 V2 l 0 = u_D u l := fun l => if_pos rfl
  have A0 : ∀ l, l < 26 → fg_a (52 * i + l) = 1600 + 8 * i ∧ (52 * i + l) % 26 = l := fun l hl => by
    unfold fg_a
    omega
  have A1 : ∀ l, l < 26 → fg_a (52 * i + 26 + l) = 1601 + 8 * i ∧ (52 * i + 26 + l) % 26 = l := fun l hl => by
    unfold fg_a
    omega
  refine w_Fg_keepValues m1.1 (c_kv3 (A0 := 1600 + 8 * i) (j0 := 52 * i) (x := N2) (by omega) A0 hB2 (hin N2) (Nat.le_refl N2) m1 hE40 (fun ρ2 G41 n1 n2 n3 n4 => ⟨cs_g9 n1.1 hi, ?_⟩) (n := 26) (l := 0) (Nat.zero_add _) m1 ro_r fw_r (fun k hk => absurd hk (Nat.not_lt_zero k)))
  have w1 : ∀ o, kW (1600 + 8 * i) (52 * i) o → ¬ im_o o ∧ ¬ (67 ≤ o ∧ o ≤ 1506) := fun o q => kW_im (by omega) (by omega) q
  have hG40 := hh_n m1
  have st41 : ∀ a, a = 1597 + 8 * i ∨ a = 1598 + 8 * i ∨ a = 1599 + 8 * i → (∀ z, mj_r G41 a z = mj_r G40 a z) ∧ ∀ z, mj_i G41 a z = mj_i G40 a z := fun a ha => (n3.2.2.2 a (by omega)).2.2 (by rw [ow_s (by omega)]; unfold kW; omega)
  obtain ⟨-, -, -, d11, -⟩ := cs_fr n1.1 hi
  have v8 : mj_i G41 (1597 + 8 * i) 8 = xd := ((st41 _ (Or.inl rfl)).2 8).trans m4
  rw [d11, v8, show (Int32.ofInt (-1)) = sf fr2 0 from rfl]
  have hE41 : ce ρ2 (u_D u) G41 N2 B2 V2 fr2 b2 cn2 := ce_fw m1 hE40 n3 n2 w1
  refine w_Fg_keepValues n1.1 (c_kv3 (A0 := 1601 + 8 * i) (j0 := 52 * i + 26) (x := 0) (by omega) A1 hB2 (hin 0) (Nat.zero_le N2) n1 hE41 (fun ρ3 G43 s1 s2 s3 s4 => ?_) (n := 26) (l := 0) (Nat.zero_add _) n1 ro_r fw_r (fun k hk => absurd hk (Nat.not_lt_zero k)))
  have w2 : ∀ o, kW (1601 + 8 * i) (52 * i + 26) o → ¬ im_o o := fun o q => (kW_im (by omega) (by omega) q).1
  have hG41 := hh_n n1
  have st43 : ∀ a, a = 1597 + 8 * i ∨ a = 1598 + 8 * i ∨ a = 1599 + 8 * i ∨ a = 1600 + 8 * i → (∀ z, mj_r G43 a z = mj_r G41 a z) ∧ ∀ z, mj_i G43 a z = mj_i G41 a z := fun a ha => (s3.2.2.2 a (by omega)).2.2 (by rw [ow_s (by omega)]; unfold kW; omega)
  have b0 : ∀ z, mj_i G43 (1597 + 8 * i) z = mj_i G40 (1597 + 8 * i) z := fun z => ((st43 _ (Or.inl rfl)).2 z).trans ((st41 _ (Or.inl rfl)).2 z)
  have hx8 := o_x8 hok hn0
  refine hK ρ3 G43 s1 (ro_t (fun y hy => n2 y (Nat.lt_of_lt_of_le hy F40.1)) (Nat.le_trans F40.1 n3.1) s2) (fw_t F40 ro_r (fw_t (fw_m n3 (fun o q => by unfold kW at q; unfold iW; omega)) n2 (fw_m s3 (fun o q => by unfold kW at q; unfold iW; omega)))) ⟨fun q => absurd q (show ¬ true = false by decide), fun _ => ⟨?_, hr0, hT, hp, (b0 2).trans v2, hlc, fun y hy => ⟨?_, (hL.2 y hy).2⟩, (b0 3).trans v3, hx8, (b0 4).trans v4, (b0 6).trans v6, (show o_n o - n0 ≤ 300 by omega), fun y hy => ⟨?_, ?_⟩, (b0 7).trans v7, (b0 8).trans m4, fun y hy => ⟨fun t => ?_, fun t => ?_⟩⟩⟩
  · exact ((st43 _ (Or.inl rfl)).1 0).trans (((st41 _ (Or.inl rfl)).1 0).trans v0)
  · exact ((st43 _ (Or.inr (Or.inl rfl))).2 y).trans (((st41 _ (Or.inr (Or.inl rfl))).2 y).trans ((vl y (by have hy' : y < lc := hy; omega)).trans (hL.2 y hy).1))
  · exact ((st43 _ (Or.inr (Or.inr (Or.inl rfl)))).2 y).trans (((st41 _ (Or.inr (Or.inr rfl))).2 y).trans (vc y hy))
  · have hy' : y < o_n o - n0 := hy
    obtain ⟨f1, f2, f3, -, f5⟩ := hok.2.2 (n0 + y) (by omega)
    refine ⟨f1, f2, f3, ?_⟩
    show gz (kcx (o_x o n0) (fun j => o_c o (n0 + j)) y) (o_c o (n0 + y))
    rw [kcx_o hok (by omega)]
    exact f5
  · rw [(st43 _ (Or.inr (Or.inr (Or.inr rfl)))).1 y]
    exact kvl_g n1 (n4 y hy t) s3 s2 w2 (by unfold kW; omega)
  · have := s4 y hy t
    rw [e0 y] at this
    exact this
end ZZQ
