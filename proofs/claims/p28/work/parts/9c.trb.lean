/-! RENDERING: a try's output, marked and put back, by both sides -/
section TB
variable {ρ : Nat → Nat} {D : Nat → rv} {I : Nat → Nat → rv} {G Gm : mj_G} {f : mm_F} {d i tr : Nat} {o o' : ost}
theorem c_markToRestore {K : mj_G → Prop} (h : hh ρ D I G) (ho : oC G o) (hi : i < 200) (hd : 16 ≤ d) (hK : ∀ ρ' G', hh ρ' D I G' → ro_e ρ ρ' G → fw ρ (fun q => q = 707 + 4 * i) G G' → (∀ j, j ≠ 15 → j ≠ 16 → j ≠ 17 → mj_i G' (707 + 4 * i) j = mj_i G (707 + 4 * i) j) → (∀ j, j ≠ 18 → mj_r G' (707 + 4 * i) j = mj_r G (707 + 4 * i) j) → bk ρ' G' i o → K G') : Ou_markToRestore (d + 2) (707 + 4 * i) G K := by
  have hl := o_drl (C := o_c o) (n := o_n o)
  have hG := hh_n h
  have h3 := ho.1.1
  have fW : ∀ a, a = 707 + 4 * i → ¬ oW a := fun a q => by rw [q]; unfold oW; omega
  refine w_Ou_markToRestore h.1 (c_mark h ho hi (fun h1 F1 => ?_))
  have e1 : ∀ j, j ≠ 15 → j ≠ 16 → mj_i (mj_pI (mj_pI G (707 + 4 * i) 15 (nI (o_n o))) (707 + 4 * i) 16 (bI (o_w o))) (707 + 4 * i) j = mj_i G (707 + 4 * i) j := fun j a b => (z_iIm b).trans (z_iIm a)
  have e15 : mj_i (mj_pI (mj_pI G (707 + 4 * i) 15 (nI (o_n o))) (707 + 4 * i) 16 (bI (o_w o))) (707 + 4 * i) 15 = nI (o_n o) := (z_iIm (by decide)).trans z_iIs
  have e16 : mj_i (mj_pI (mj_pI G (707 + 4 * i) 15 (nI (o_n o))) (707 + 4 * i) 16 (bI (o_w o))) (707 + 4 * i) 16 = bI (o_w o) := z_iIs
  have er : ∀ j, mj_r (mj_pI (mj_pI G (707 + 4 * i) 15 (nI (o_n o))) (707 + 4 * i) 16 (bI (o_w o))) (707 + 4 * i) j = mj_r G (707 + 4 * i) j := fun _ => rfl
  obtain ⟨o1, x1⟩ := oC_f h ho F1 fW
  generalize mj_pI (mj_pI G (707 + 4 * i) 15 (nI (o_n o))) (707 + 4 * i) 16 (bI (o_w o)) = G1 at h1 F1 e1 e15 e16 er o1 x1 ⊢
  refine c_literalBlanks h1 o1 hd ⟨cs_g14 h1.1 hi, ?_⟩
  rintro _ rfl
  obtain ⟨h2, F2⟩ := o_fI (j := 17) (y := nI (o_n o - o_dr (o_c o) (o_n o))) h1 hi
  obtain ⟨o2, x2⟩ := oC_f h1 o1 F2 fW
  have e17 : mj_i (mj_pI G1 (707 + 4 * i) 17 (nI (o_n o - o_dr (o_c o) (o_n o)))) (707 + 4 * i) 17 = nI (o_n o - o_dr (o_c o) (o_n o)) := z_iIs
  have e2 : ∀ j, j ≠ 17 → mj_i (mj_pI G1 (707 + 4 * i) 17 (nI (o_n o - o_dr (o_c o) (o_n o)))) (707 + 4 * i) j = mj_i G1 (707 + 4 * i) j := fun j a => z_iIm a
  have er2 : ∀ j, mj_r (mj_pI G1 (707 + 4 * i) 17 (nI (o_n o - o_dr (o_c o) (o_n o)))) (707 + 4 * i) j = mj_r G1 (707 + 4 * i) j := fun _ => rfl
  generalize mj_pI G1 (707 + 4 * i) 17 (nI (o_n o - o_dr (o_c o) (o_n o))) = G2 at h2 F2 o2 x2 e17 e2 er2 ⊢
  have F02 := fw_t F1 ro_r F2
  have hG2 := hh_n h2
  refine c_rowOfBlanks h2 hi (fun ρ' G3 c h4 e4 F4 r4 i4 c1 c2 c3 c4 c5 c6 c7 => ?_)
  obtain ⟨rk, rl⟩ := c_row h2 o2
  have hrow := o2.2.1
  have hrs : mj_r G2 1589 0 < mj_n G2 := by omega
  obtain ⟨k1, k2, -⟩ := F4.2.2.2 _ hrs
  rw [o2.2.2.1, z_sub (by omega), show o_n o - (o_n o - o_dr (o_c o) (o_n o)) = o_dr (o_c o) (o_n o) by omega]
  refine c_cpy (Or.inl c5) (k1.trans (rk.trans c5.symm)) (by omega) (by omega) (by rw [k2, rl]; omega) (by rw [c6]; omega) ⟨by omega, by decide, by omega⟩ ?_
  rintro _ rfl
  have hoc : ow ρ' c = 707 + 4 * i := by rw [ow_d c2, c4]
  have h5 : hh ρ' D I (mj_cp G3 (mj_r G2 1589 0) (o_dr (o_c o) (o_n o)) c 0 (o_n o - o_dr (o_c o) (o_n o))) := hh_cp h4 (by unfold imm; rw [hoc]; unfold im_o; omega) (by rw [c5]; decide)
  have F5 : fw ρ' (fun q => q = 707 + 4 * i) G3 (mj_cp G3 (mj_r G2 1589 0) (o_dr (o_c o) (o_n o)) c 0 (o_n o - o_dr (o_c o) (o_n o))) := fw_cp hoc
  have hca : 707 + 4 * i ≠ c := by omega
  have ia : ∀ j, mj_i (mj_cp G3 (mj_r G2 1589 0) (o_dr (o_c o) (o_n o)) c 0 (o_n o - o_dr (o_c o) (o_n o))) (707 + 4 * i) j = mj_i G2 (707 + 4 * i) j := fun j => (cp_n (fun q => hca q.1)).trans (i4 _ (by omega) j)
  refine hK ρ' _ h5 (fun a q => e4 a (Nat.lt_of_lt_of_le q F02.1)) (fw_t F02 ro_r (fw_t F4 e4 F5)) (fun j a b e => (ia j).trans ((e2 j e).trans (e1 j a b))) (fun j a => (r4 _ j (by omega) (fun q => a q.2)).trans ((er2 j).trans (er j))) ⟨(ia 15).trans ((e2 15 (by decide)).trans e15), (ia 16).trans ((e2 16 (by decide)).trans e16), (ia 17).trans e17, ?_, fun j hj => ?_⟩
  · show mj_r G3 (707 + 4 * i) 18 ≠ 0
    rw [c1]; omega
  · show mj_i _ (mj_r G3 (707 + 4 * i) 18) j = _
    rw [c1, cp_i (Nat.zero_le _) (by omega), Nat.sub_zero, i4 _ hrs]
    exact o2.2.2.2.2.1 _ (by omega)
/-- the output is the one ahead of the try again -/
theorem c_restore {K : mj_G → Prop} (h : hh ρ D I G) (ho : oC G o') (hok : o_ok o) (hle : o_le o o') (hb : bk ρ G i o) (hi : i < 200) (hd : 16 ≤ d) (hK : ∀ ρ' G', hh ρ' D I G' → ro_e ρ ρ' G → fw ρ (fun q => oW q ∨ q = 707 + 4 * i) G G' → oX G G' → oC G' o → (∀ j, mj_i G' (707 + 4 * i) j = mj_i G (707 + 4 * i) j) → (∀ j, j ≠ 18 → mj_r G' (707 + 4 * i) j = mj_r G (707 + 4 * i) j) → K G') : Ou_restore (d + 3) (707 + 4 * i) G K := by
  have hl := o_drl (C := o_c o) (n := o_n o)
  have hl' := o_drl (C := o_c o') (n := o_n o')
  have hG := hh_n h
  have h3 := hok.1
  have h3' := ho.1.1
  have hok' := ho.1
  have hle1 := hle.1
  obtain ⟨b1, b2, b3, b4, b5⟩ := hb
  have fW : ∀ a, a = 707 + 4 * i → ¬ oW a := fun a q => by rw [q]; unfold oW; omega
  refine w_Ou_restore h.1 ⟨cs_g14 h.1 hi, ?_⟩
  rintro _ rfl
  rw [b1, b3, z_sub (by omega), show o_n o - (o_n o - o_dr (o_c o) (o_n o)) = o_dr (o_c o) (o_n o) by omega]
  obtain ⟨h2, F2⟩ := o_hI (a := 1589) (j := 1) (y := nI (o_dr (o_c o) (o_n o))) h (by unfold oW; decide)
  have hr : mj_r G 1589 0 ≠ 1589 := by rcases ho.2.1 with e | e <;> rw [e] <;> decide
  -- the output cut off
  have o2 : oC (mj_pI G 1589 1 (nI (o_dr (o_c o) (o_n o)))) (o_dr (o_c o) (o_n o), o_c o', o_x o', o_w o') := by
    obtain ⟨k1, k2, k3, k4, k5, k6⟩ := ho
    refine ⟨⟨by show o_dr (o_c o) (o_n o) ≤ 300; omega, k1.2.1, fun i hi => k1.2.2 i (by have hi' : i < o_dr (o_c o) (o_n o) := hi; omega)⟩, k2, z_iIs, (z_iIm (by decide)).trans k4, fun i hi => (z_iIn hr).trans (k5 i (by have hi' : i < o_dr (o_c o) (o_n o) := hi; omega)), fun i hi => (z_iIn (by decide)).trans (k6 i (by have hi' : i ≤ o_dr (o_c o) (o_n o) := hi; omega))⟩
  have x2 : oX G (mj_pI G 1589 1 (nI (o_dr (o_c o) (o_n o)))) := ⟨fun _ => rfl, z_iIm (by decide), fun a j q _ => z_iIn (by omega)⟩
  have ia2 : ∀ j, mj_i (mj_pI G 1589 1 (nI (o_dr (o_c o) (o_n o)))) (707 + 4 * i) j = mj_i G (707 + 4 * i) j := fun j => z_iIn (by omega)
  have ra2 : ∀ a j, mj_r (mj_pI G 1589 1 (nI (o_dr (o_c o) (o_n o)))) a j = mj_r G a j := fun _ _ => rfl
  have bl : mj_r G (707 + 4 * i) 18 ≠ 1589 ∧ mj_r G (707 + 4 * i) 18 < mj_n G ∧ 1768 ≤ mj_r G (707 + 4 * i) 18 := by
    rcases h.2.1.2.2.1 i hi with g | ⟨g1, g2, -⟩
    · exact absurd g b4
    · omega
  have ib2 : ∀ j, mj_i (mj_pI G 1589 1 (nI (o_dr (o_c o) (o_n o)))) (mj_r G (707 + 4 * i) 18) j = mj_i G (mj_r G (707 + 4 * i) 18) j := fun j => z_iIn bl.1
  have n2 : mj_n (mj_pI G 1589 1 (nI (o_dr (o_c o) (o_n o)))) = mj_n G := rfl
  generalize mj_pI G 1589 1 (nI (o_dr (o_c o) (o_n o))) = G2 at h2 F2 o2 x2 ia2 ra2 ib2 n2 ⊢
  refine c_rowOfBlanks h2 hi (fun ρ' G3 c h4 e4 F4 r4 i4 c1 c2 c3 c4 c5 c6 c7 => ?_)
  have hce : c = mj_r G (707 + 4 * i) 18 := (c7 (by rw [ra2]; exact b4)).trans (ra2 _ _)
  obtain ⟨o4, x4⟩ := oC_f h2 o2 F4 fW
  have hoc : ow ρ' c = 707 + 4 * i := by rw [ow_d c2, c4]
  have ia4 : ∀ j, mj_i G3 (707 + 4 * i) j = mj_i G (707 + 4 * i) j := fun j => (i4 _ (by omega) j).trans (ia2 j)
  refine ⟨cs_g14 h4.1 hi, w_Ou_putCells h4.1 ?_⟩
  rw [ia4 17, b3]
  refine c_cells (ρ := ρ') (b := 707 + 4 * i) (x0 := o_x o (o_dr (o_c o) (o_n o))) (n := o_n o - o_dr (o_c o) (o_n o)) hd (by omega) (fun a q => by rw [q]; unfold oW; omega) (m := o_n o - o_dr (o_c o) (o_n o)) (j := 0) (C := fun j => o_c o (o_dr (o_c o) (o_n o) + j)) (by omega) h4 o4 c3 hoc c5 c6 (fun j hj => ?_) (fun j hj => ?_) ?_ (by show o_dr (o_c o) (o_n o) + (o_n o - o_dr (o_c o) (o_n o)) ≤ 300; omega) (fun G5 o5 h5 F5 x5 y5 n5 p5 q5 w5 w6 => ⟨cs_g14 h5.1 hi, ?_⟩)
  · rw [i4 c (by omega), hce, ib2]
    exact b5 j hj
  · obtain ⟨g1, g2, g3, -, g4⟩ := hok.2.2 (o_dr (o_c o) (o_n o) + j) (by omega)
    exact ⟨g1, g2, g3, by rw [kcx_o hok (by omega)]; exact g4⟩
  · show o_x o' (o_dr (o_c o) (o_n o)) = o_x o (o_dr (o_c o) (o_n o))
    exact o_x_eq hok hok' (m := o_dr (o_c o) (o_n o)) (by omega) (by omega) (fun i hi => hle.2 i hi) _ (Nat.le_refl _)
  · have ia5 : ∀ j, mj_i G5 (707 + 4 * i) j = mj_i G (707 + 4 * i) j := fun j => (ce_i h4 F5 (by omega) (by unfold oW; omega)).trans (ia4 j)
    rw [ia5 16, b2]
    refine ⟨bI_b _, ?_⟩
    rintro _ rfl
    obtain ⟨h6, F6⟩ := o_hI (a := 1589) (j := 5) (y := bI (o_w o)) h5 (by unfold oW; decide)
    have hr5 : mj_r G5 1589 0 ≠ 1589 := by rcases y5.2.1 with e | e <;> rw [e] <;> decide
    have n5' : o_n o5 = o_n o := by rw [n5]; show o_dr (o_c o) (o_n o) + (o_n o - o_dr (o_c o) (o_n o)) = _; omega
    have c5' : ∀ i, i < o_n o → o_c o5 i = o_c o i := fun i hi => by
      by_cases q : i < o_dr (o_c o) (o_n o)
      · exact (p5 i q).trans (hle.2 i q)
      · have r := q5 (i - o_dr (o_c o) (o_n o)) (by omega)
        have r' : o_c o5 (o_dr (o_c o) (o_n o) + (i - o_dr (o_c o) (o_n o))) = o_c o (o_dr (o_c o) (o_n o) + (0 + (i - o_dr (o_c o) (o_n o)))) := r
        rw [show o_dr (o_c o) (o_n o) + (0 + (i - o_dr (o_c o) (o_n o))) = i by omega, show o_dr (o_c o) (o_n o) + (i - o_dr (o_c o) (o_n o)) = i by omega] at r'
        exact r'
    have xe := o_x_eq hok y5.1 (m := o_n o) (Nat.le_refl _) (by omega) c5'
    have x6 : oX G5 (mj_pI G5 1589 5 (bI (o_w o))) := ⟨fun _ => rfl, z_iIm (by decide), fun a j q _ => z_iIn (by omega)⟩
    refine hK ρ' _ h6 (fun a q => e4 a (Nat.lt_of_lt_of_le q F2.1)) (fw_t (fw_m F2 (fun a q => Or.inl q)) ro_r (fw_t (fw_m F4 (fun a q => Or.inr q)) e4 (fw_m (fw_t F5 ro_r F6) (fun a q => Or.inl q)))) (oX_t x2 (oX_t x4 (oX_t x5 x6))) ⟨hok, y5.2.1, ?_, z_iIs, fun i hi => ?_, fun i hi => ?_⟩ (fun j => (z_iIn (by omega)).trans (ia5 j)) (fun j hj => ?_)
    · rw [← n5']; exact (z_iIm (by decide)).trans y5.2.2.1
    · rw [← c5' i hi]
      exact (z_iIn hr5).trans (y5.2.2.2.2.1 i (by omega))
    · rw [← xe i hi]
      exact (z_iIn (by decide)).trans (y5.2.2.2.2.2 i (by omega))
    · have r5 : mj_r G5 (707 + 4 * i) j = mj_r G3 (707 + 4 * i) j := ((F5.2.2.2 _ (by have := hh_n h4; omega)).2.2 (by rw [ow_s (by omega)]; unfold oW; omega)).1 j
      exact r5.trans ((r4 _ j (by omega) (fun q => hj q.2)).trans (ra2 _ _))
/-- the model's copy of the output -/
def R_y (a : Nat) : Prop := a = 1762
theorem p_try21 {x1 x2 x3 y : Int32} {K : Bool → mm_F → Prop} (hM : mm_S Gm) (ho : oM f o) (htr : tr < 112) (hK : ∀ f', mw no_R no_R R_y f f' → (∀ j, j < o_n o → f' 1762 (300 * tr + j) = om (o_c o j)) → (∀ j, j < 300 * tr → f' 1762 j = f 1762 j) → m_isTried_21 Gm (d + 1) x1 x2 x3 (nI tr) (nI (o_n o)) y (nI (o_n o)) f' K) :
    ∀ {m j : Nat} {f1 : mm_F}, j + m = o_n o → mw no_R no_R R_y f f1 → (∀ i, i < j → f1 1762 (300 * tr + i) = om (o_c o i)) → (∀ i, i < 300 * tr → f1 1762 i = f 1762 i) → m_isTried_21 Gm (d + 1) x1 x2 x3 (nI tr) (nI (o_n o)) y (nI j) f1 K
  | 0, j, f1, hj, F, g, g2 => by
    have e : j = o_n o := hj
    subst e
    exact hK f1 F g g2
  | m + 1, j, f1, hj, F, g, g2 => by
    have h3 := ho.1.1
    refine w_m_isTried_21 hM (z_bf ?_ (z_ixi (by omega) (by decide) ?_))
    · rw [F.2.1 61 (fun q => q), ho.2.1, z_le (by omega) (by omega)]; omega
    rw [z_mul, z_add, z_add, (F.1 1759 j (by decide) (by decide) (by unfold R_y; decide)).trans (ho.2.2.2.1 j (by omega))]
    refine z_ixi (by omega) (by decide) (p_try21 hM ho htr hK (m := m) (j := j + 1) (by omega) (mw_t F (mw_R (by decide) rfl)) (fun i hi => ?_) (fun i hi => (z_u2m (by omega)).trans (g2 i hi)))
    by_cases q : i = j
    · rw [q, z_u2s]
    · exact (z_u2m (by omega)).trans (g i (by omega))
theorem om_m {z : Nat} (hz : z < 2 ^ 31) : om z &&& nI 127 = nI (z % 128) := by
  unfold om
  rw [z_msk (k := 7) (m := nI 127) (by by_cases q : oc_b z = true; rw [if_pos q]; omega; rw [if_neg q]; omega) (by decide)]
  congr 1
  by_cases q : oc_b z = true
  · rw [if_pos q]; omega
  · rw [if_neg q]; omega
theorem p_try126 {K : Bool → mm_F → Prop} (hM : mm_S Gm) (hok : o_ok o) (htr : tr < 112) (hd : 15 ≤ d) (h61 : f 1714 61 = nI (o_n o)) (h62 : f 1714 62 = bI (o_w o)) (hT : ∀ j, j < o_n o → f 1762 (300 * tr + j) = om (o_c o j)) (hK : ∀ f', mw no_R no_R oR f f' → oM f' o → K false f') :
    ∀ {m j : Nat} {f1 : mm_F}, j + m = o_n o → mw no_R no_R oR f f1 → (∀ i, i < j → f1 1759 i = om (o_c o i)) → (∀ i, i ≤ j → f1 1760 i = nI (o_x o i)) → m_isTried_126 Gm (d + 1) (nI tr) (nI (o_n o)) (nI j) f1 K
  | 0, j, f1, hj, F, g, g2 => by
    have h3 := hok.1
    have e : j = o_n o := hj
    subst e
    refine w_m_isTried_126 hM (by omega) (z_bt (by rw [z_le (by omega) (by omega)]; exact Nat.le_refl _) (hK f1 F ⟨hok, (F.2.1 61 (fun q => q)).trans h61, (F.2.1 62 (fun q => q)).trans h62, g, g2⟩))
  | m + 1, j, f1, hj, F, g, g2 => by
    have h3 := hok.1
    obtain ⟨c1, c2, c3, c4, -⟩ := hok.2.2 j (by omega)
    have x8 := o_x8 hok (i := j) (by omega)
    refine w_m_isTried_126 hM (by omega) (z_bf (by rw [z_le (by omega) (by omega)]; omega) ?_)
    rw [z_mul, z_add, z_add]
    refine z_ixi (by omega) (by decide) (z_ixi (by omega) (by decide) (z_ixi (by omega) (by decide) (z_ixi (by omega) (by decide) (z_ixi (by omega) (by decide) ?_))))
    rw [(F.1 1762 _ (by decide) (by decide) (by unfold oR; decide)).trans (hT j (by omega)), show (mj_u2 f1 1759 j (om (o_c o j))) 1760 j = nI (o_x o j) from (z_u2n (by decide)).trans (g2 j (Nat.le_refl _)), show (mj_u2 f1 1759 j (om (o_c o j))) 1759 j = om (o_c o j) from z_u2s, om_m c1, (ld_f x8 (by omega)).1, ← c4]
    refine p_try126 hM hok htr hd h61 h62 hT hK (m := m) (j := j + 1) (by omega) (mw_t F (mw_t (mw_R (by decide) (Or.inl rfl)) (mw_R (by decide) (Or.inr rfl)))) (fun i hi => ?_) (fun i hi => ?_)
    · refine (z_u2n (by decide)).trans ?_
      by_cases q : i = j
      · rw [q, z_u2s]
      · exact (z_u2m q).trans (g i (by omega))
    · by_cases q : i = j + 1
      · rw [q, z_u2s]
      · exact (z_u2m q).trans ((z_u2n (by decide)).trans (g2 i (by omega)))
end TB
