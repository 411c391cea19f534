/-! ACTS (wip/p28/genh06.py) -/
section H06
variable {s : lst} {H H1 H' Gm : mj_G} {d k : Nat} {x1 x2 x3 x4 : Int32}
theorem D_1 (hx : x1 = nI 1) (hd : 1200 ≤ d) (hs : OB k s H) : ∃ s' v' H', OB (k + 1000) s' H' ∧ RV (d + 2) 14004 [some (.inl x1), some (.inl x2), some (.inl x3), some (.inl x4), none] (.inl (some (.inl v'))) H H' := by
  obtain ⟨s', res, H', h1, -, h3, h4⟩ := k_message (x := x2) (y := x3) (d := d + 1) (by omega) hs
  exact ⟨s', wdv res, H', OB_m h1 (by omega), dw_1 hx h4 h3⟩
theorem D_2 (hx : x1 = nI 2) (hd : 1200 ≤ d) (hs : OB k s H) : ∃ s' v' H', OB (k + 1000) s' H' ∧ RV (d + 2) 14004 [some (.inl x1), some (.inl x2), some (.inl x3), some (.inl x4), none] (.inl (some (.inl v'))) H H' := by
  obtain ⟨s', res, H', h1, -, h3, h4⟩ := k_text (c := i2n x4) (Nat.mod_lt _ (by decide)) (d := d + 1) (by omega) hs
  rw [show nI (i2n x4) = ((x4).toUInt32 % 65536).toInt32 from (i2c_n x4).symm] at h4
  exact ⟨s', wdv res, H', OB_m h1 (by omega), dw_2 hx h4 h3⟩
theorem D_3 (hx : x1 = nI 3) (hd : 1200 ≤ d) (hs : OB k s H) : ∃ s' v' H', OB (k + 1000) s' H' ∧ RV (d + 2) 14004 [some (.inl x1), some (.inl x2), some (.inl x3), some (.inl x4), none] (.inl (some (.inl v'))) H H' := by
  obtain ⟨s', res, H', h1, -, h3, h4⟩ := k_add (c := i2n x4) (y := x2) (Nat.mod_lt _ (by decide)) (d := d + 1) (by omega) hs
  rw [show nI (i2n x4) = ((x4).toUInt32 % 65536).toInt32 from (i2c_n x4).symm] at h4
  exact ⟨s', wdv res, H', OB_m h1 (by omega), dw_3 hx h4 h3⟩
theorem D_4 (hx : x1 = nI 4) (hd : 1200 ≤ d) (hs : OB k s H) : ∃ s' v' H', OB (k + 1000) s' H' ∧ RV (d + 2) 14004 [some (.inl x1), some (.inl x2), some (.inl x3), some (.inl x4), none] (.inl (some (.inl v'))) H H' := by
  obtain ⟨s', res, H', h1, -, h3, h4⟩ := k_addText (c := i2n x4) (Nat.mod_lt _ (by decide)) (d := d + 1) (by omega) hs
  rw [show nI (i2n x4) = ((x4).toUInt32 % 65536).toInt32 from (i2c_n x4).symm] at h4
  exact ⟨s', wdv res, H', OB_m h1 (by omega), dw_4 hx h4 h3⟩
theorem D_5 (hx : x1 = nI 5) (hd : 1200 ≤ d) (hs : OB k s H) : ∃ s' v' H', OB (k + 1000) s' H' ∧ RV (d + 2) 14004 [some (.inl x1), some (.inl x2), some (.inl x3), some (.inl x4), none] (.inl (some (.inl v'))) H H' := by
  obtain ⟨s', res, H', h1, -, h3, h4⟩ := k_budget (x := x2) (d := d + 1) (by omega) hs
  exact ⟨s', wdv res, H', OB_m h1 (by omega), dw_5 hx h4 h3⟩
theorem D_6 (hM : mm_S Gm) (hx : x1 = nI 6) (hd : 1200 ≤ d) (hs : OB k s H) : ∃ s' v' H', OB (k + 1000) s' H' ∧ RV (d + 2) 14004 [some (.inl x1), some (.inl x2), some (.inl x3), some (.inl x4), none] (.inl (some (.inl v'))) H H' := by
  obtain ⟨s', res, H', h1, -, h3, h4⟩ := k_render (x := x2) hM (d := d + 1) (by omega) hs
  exact ⟨s', wdv res, H', OB_m h1 (by omega), dw_6 hx h4 h3⟩
theorem D_12 (hx : x1 = nI 12) (hd : 1200 ≤ d) (hs : OB k s H) : ∃ s' v' H', OB (k + 1000) s' H' ∧ RV (d + 2) 14004 [some (.inl x1), some (.inl x2), some (.inl x3), some (.inl x4), none] (.inl (some (.inl v'))) H H' := by
  obtain ⟨s', res, H', h1, -, h3, h4⟩ := k_shape (c := i2n x4) (x := x2) (Nat.mod_lt _ (by decide)) (d := d + 1) (by omega) hs
  rw [show nI (i2n x4) = ((x4).toUInt32 % 65536).toInt32 from (i2c_n x4).symm] at h4
  exact ⟨s', wdv res, H', OB_m h1 (by omega), dw_12 hx h4 h3⟩
theorem D_13 (hM : mm_S Gm) (hx : x1 = nI 13) (hd : 1200 ≤ d) (hs : OB k s H) : ∃ s' v' H', OB (k + 1000) s' H' ∧ RV (d + 2) 14004 [some (.inl x1), some (.inl x2), some (.inl x3), some (.inl x4), none] (.inl (some (.inl v'))) H H' := by
  obtain ⟨s', res, H', h1, -, h3, h4⟩ := k_chk (x := x2) hM (d := d + 1) (by omega) hs
  exact ⟨s', wdv res, H', OB_m h1 (by omega), dw_13 hx h4 h3⟩
theorem D_16 (hx : x1 = nI 16) (hd : 1200 ≤ d) (hs : OB k s H) : ∃ s' v' H', OB (k + 1000) s' H' ∧ RV (d + 2) 14004 [some (.inl x1), some (.inl x2), some (.inl x3), some (.inl x4), none] (.inl (some (.inl v'))) H H' := by
  obtain ⟨s', res, H', h1, -, h3, h4⟩ := k_clear (c := i2n x4) (Nat.mod_lt _ (by decide)) (d := d + 1) (by omega) hs
  rw [show nI (i2n x4) = ((x4).toUInt32 % 65536).toInt32 from (i2c_n x4).symm] at h4
  exact ⟨s', wdv6 res, H', OB_m h1 (by omega), dw_16 hx h4 h3⟩
theorem D_14 (hx : x1 = nI 14) (hd : 1200 ≤ d) (hs : OB k s H) : ∃ s' v' H', OB (k + 1000) s' H' ∧ RV (d + 2) 14004 [some (.inl x1), some (.inl x2), some (.inl x3), some (.inl x4), none] (.inl (some (.inl v'))) H H' := by
  obtain ⟨s', res, H', h1, -, h3, h4⟩ := k_number (c := i2n x4) (y := x2) (Nat.mod_lt _ (by decide)) (d := d) hd hs
  rw [show nI (i2n x4) = ((x4).toUInt32 % 65536).toInt32 from (i2c_n x4).symm] at h4
  exact ⟨s', wdv (wrN res), H', OB_m h1 (by omega), dw_14 hx (nw_14005 (x1 := x4) (x2 := x2) h4 h3) (wrN_e h3)⟩
theorem D_15 (hx : x1 = nI 15) (hd : 1200 ≤ d) (hs : OB k s H) : ∃ s' v' H', OB (k + 1000) s' H' ∧ RV (d + 2) 14004 [some (.inl x1), some (.inl x2), some (.inl x3), some (.inl x4), none] (.inl (some (.inl v'))) H H' := by
  obtain ⟨s', res, H', h1, -, h3, h4⟩ := k_list (c := i2n x4) (Nat.mod_lt _ (by decide)) (d := d) hd hs
  rw [show nI (i2n x4) = ((x4).toUInt32 % 65536).toInt32 from (i2c_n x4).symm] at h4
  exact ⟨s', wdv (wrN res), H', OB_m h1 (by omega), dw_15 hx (nw_14006 (x1 := x4) (x2 := x2) h4 h3) (wrN_e h3)⟩
theorem a_129 {K : Nat} (hk : k ≤ K + 8) (hd : 1200 ≤ d) (hs : OB k s H) : RX (d + 5) 14009 129 (fun a => [some (.inr (.inr a)), some (.inl x1), some (.inl x2), some (.inl x3), some (.inl x4), none, none]) (fun _ => []) H (fun o H' => ∃ s' v', o = .inl (some (.inl v')) ∧ OB (K + 1106) s' H') := by
  by_cases q1 : (x3) = ((Int8.ofInt (10)).toInt32)
  · refine RX_b (fun a G Q _ h => rk_14009_129 (fun q' => absurd q1 q') (fun _ => h)) ?_
    by_cases q2 : (x2) = ((0 : Int32))
    · refine RX_b (fun a G Q _ h => rk_14009_135 (fun _ => h) (fun q' => absurd q2 q')) ?_
      refine RX_b (fun a G Q _ h => rk_14009_150 h) ?_
      refine RX_b (fun a G Q _ h => rc_14009_151 (R := fun v' G1 => lo ((x1) >>> (((Int8.ofInt (11)).toInt32) &&& 31)) (Int32.ofInt (2)) = v' ∧ G = G1) (q_low (by decide +kernel)) (fun v' G1 hR => by
        obtain ⟨rfl, rfl⟩ := hR
        exact h)) ?_
      by_cases q4 : (x2) = ((0 : Int32))
      · refine RX_b (fun a G Q _ h => rk_14009_154 (fun _ => h) (fun q' => absurd q4 q')) ?_
        refine RX_b (fun a G Q _ h => rk_14009_166 h) ?_
        refine RX_b (fun a G Q _ h => rc_14009_167 (R := fun v' G1 => lo ((x1) >>> (((Int8.ofInt (13)).toInt32) &&& 31)) (Int32.ofInt (2)) = v' ∧ G = G1) (q_low (by decide +kernel)) (fun v' G1 hR => by
          obtain ⟨rfl, rfl⟩ := hR
          exact h)) ?_
        refine RX_b (fun a G Q _ h => rk_14009_170 h) ?_
        obtain ⟨s6, w6, H6, g6, r6⟩ := D_1 (x1 := Int32.ofInt (1)) (x2 := lo ((x1) >>> (((Int8.ofInt (11)).toInt32) &&& 31)) (Int32.ofInt (2))) (x3 := lo ((x1) >>> (((Int8.ofInt (13)).toInt32) &&& 31)) (Int32.ofInt (2))) (x4 := Int32.ofInt (0)) (d := d + 2) (by decide +kernel) (by omega) hs
        refine RX_c r6 (fun a G Q T _ h hk => rc_14009_171 (R := fun v' G1 => w6 = v' ∧ T G1) (rc_i h) (fun v' G1 hR => by
          obtain ⟨rfl, hT⟩ := hR
          exact hk G1 hT)) ?_
        refine RX_b (fun a G Q _ h => rk_14009_174 h) ?_
        exact RX_e (fun a G Q h => rk_14009_226 h) ⟨_, _, rfl, OB_m g6 (by omega)⟩
      · refine RX_b (fun a G Q _ h => rk_14009_154 (fun q' => absurd q' q4) (fun _ => h)) ?_
        refine RX_b (fun a G Q _ h => rk_14009_162 h) ?_
        refine RX_b (fun a G Q _ h => rc_14009_167 (R := fun v' G1 => lo ((x1) >>> (((Int8.ofInt (13)).toInt32) &&& 31)) (Int32.ofInt (4)) = v' ∧ G = G1) (q_low (by decide +kernel)) (fun v' G1 hR => by
          obtain ⟨rfl, rfl⟩ := hR
          exact h)) ?_
        refine RX_b (fun a G Q _ h => rk_14009_170 h) ?_
        obtain ⟨s8, w8, H8, g8, r8⟩ := D_1 (x1 := Int32.ofInt (1)) (x2 := lo ((x1) >>> (((Int8.ofInt (11)).toInt32) &&& 31)) (Int32.ofInt (2))) (x3 := lo ((x1) >>> (((Int8.ofInt (13)).toInt32) &&& 31)) (Int32.ofInt (4))) (x4 := Int32.ofInt (0)) (d := d + 2) (by decide +kernel) (by omega) hs
        refine RX_c r8 (fun a G Q T _ h hk => rc_14009_171 (R := fun v' G1 => w8 = v' ∧ T G1) (rc_i h) (fun v' G1 hR => by
          obtain ⟨rfl, hT⟩ := hR
          exact hk G1 hT)) ?_
        refine RX_b (fun a G Q _ h => rk_14009_174 h) ?_
        exact RX_e (fun a G Q h => rk_14009_226 h) ⟨_, _, rfl, OB_m g8 (by omega)⟩
    · refine RX_b (fun a G Q _ h => rk_14009_135 (fun q' => absurd q' q2) (fun _ => h)) ?_
      refine RX_b (fun a G Q _ h => rk_14009_145 h) ?_
      refine RX_b (fun a G Q _ h => rc_14009_151 (R := fun v' G1 => lo ((x1) >>> (((Int8.ofInt (11)).toInt32) &&& 31)) ((Int8.ofInt (12)).toInt32) = v' ∧ G = G1) (q_low (by decide +kernel)) (fun v' G1 hR => by
        obtain ⟨rfl, rfl⟩ := hR
        exact h)) ?_
      by_cases q10 : (x2) = ((0 : Int32))
      · refine RX_b (fun a G Q _ h => rk_14009_154 (fun _ => h) (fun q' => absurd q10 q')) ?_
        refine RX_b (fun a G Q _ h => rk_14009_166 h) ?_
        refine RX_b (fun a G Q _ h => rc_14009_167 (R := fun v' G1 => lo ((x1) >>> (((Int8.ofInt (13)).toInt32) &&& 31)) (Int32.ofInt (2)) = v' ∧ G = G1) (q_low (by decide +kernel)) (fun v' G1 hR => by
          obtain ⟨rfl, rfl⟩ := hR
          exact h)) ?_
        refine RX_b (fun a G Q _ h => rk_14009_170 h) ?_
        obtain ⟨s12, w12, H12, g12, r12⟩ := D_1 (x1 := Int32.ofInt (1)) (x2 := lo ((x1) >>> (((Int8.ofInt (11)).toInt32) &&& 31)) ((Int8.ofInt (12)).toInt32)) (x3 := lo ((x1) >>> (((Int8.ofInt (13)).toInt32) &&& 31)) (Int32.ofInt (2))) (x4 := Int32.ofInt (0)) (d := d + 2) (by decide +kernel) (by omega) hs
        refine RX_c r12 (fun a G Q T _ h hk => rc_14009_171 (R := fun v' G1 => w12 = v' ∧ T G1) (rc_i h) (fun v' G1 hR => by
          obtain ⟨rfl, hT⟩ := hR
          exact hk G1 hT)) ?_
        refine RX_b (fun a G Q _ h => rk_14009_174 h) ?_
        exact RX_e (fun a G Q h => rk_14009_226 h) ⟨_, _, rfl, OB_m g12 (by omega)⟩
      · refine RX_b (fun a G Q _ h => rk_14009_154 (fun q' => absurd q' q10) (fun _ => h)) ?_
        refine RX_b (fun a G Q _ h => rk_14009_162 h) ?_
        refine RX_b (fun a G Q _ h => rc_14009_167 (R := fun v' G1 => lo ((x1) >>> (((Int8.ofInt (13)).toInt32) &&& 31)) (Int32.ofInt (4)) = v' ∧ G = G1) (q_low (by decide +kernel)) (fun v' G1 hR => by
          obtain ⟨rfl, rfl⟩ := hR
          exact h)) ?_
        refine RX_b (fun a G Q _ h => rk_14009_170 h) ?_
        obtain ⟨s14, w14, H14, g14, r14⟩ := D_1 (x1 := Int32.ofInt (1)) (x2 := lo ((x1) >>> (((Int8.ofInt (11)).toInt32) &&& 31)) ((Int8.ofInt (12)).toInt32)) (x3 := lo ((x1) >>> (((Int8.ofInt (13)).toInt32) &&& 31)) (Int32.ofInt (4))) (x4 := Int32.ofInt (0)) (d := d + 2) (by decide +kernel) (by omega) hs
        refine RX_c r14 (fun a G Q T _ h hk => rc_14009_171 (R := fun v' G1 => w14 = v' ∧ T G1) (rc_i h) (fun v' G1 hR => by
          obtain ⟨rfl, hT⟩ := hR
          exact hk G1 hT)) ?_
        refine RX_b (fun a G Q _ h => rk_14009_174 h) ?_
        exact RX_e (fun a G Q h => rk_14009_226 h) ⟨_, _, rfl, OB_m g14 (by omega)⟩
  · refine RX_b (fun a G Q _ h => rk_14009_129 (fun _ => h) (fun q' => absurd q' q1)) ?_
    by_cases q15 : ((Int8.ofInt (13)).toInt32) ≤ (x3)
    · refine RX_b (fun a G Q _ h => rk_14009_177 (fun _ => h) (fun q' => absurd q15 q')) ?_
      by_cases q16 : (x3) = ((Int8.ofInt (13)).toInt32)
      · refine RX_b (fun a G Q _ h => rk_14009_206 (fun q' => absurd q16 q') (fun _ => h)) ?_
        refine RX_b (fun a G Q _ h => rk_14009_216 h) ?_
        obtain ⟨s17, w17, H17, g17, r17⟩ := D_4 (x1 := Int32.ofInt (4)) (x2 := Int32.ofInt (0)) (x3 := Int32.ofInt (0)) (x4 := (Int8.ofInt (99)).toInt32) (d := d + 2) (by decide +kernel) (by omega) hs
        refine RX_c r17 (fun a G Q T _ h hk => rc_14009_223 (R := fun v' G1 => w17 = v' ∧ T G1) (rc_i h) (fun v' G1 hR => by
          obtain ⟨rfl, hT⟩ := hR
          exact hk G1 hT)) ?_
        exact RX_e (fun a G Q h => rk_14009_226 h) ⟨_, _, rfl, OB_m g17 (by omega)⟩
      · refine RX_b (fun a G Q _ h => rk_14009_206 (fun _ => h) (fun q' => absurd q' q16)) ?_
        refine RX_b (fun a G Q _ h => rk_14009_221 h) ?_
        obtain ⟨s18, w18, H18, g18, r18⟩ := D_4 (x1 := Int32.ofInt (4)) (x2 := Int32.ofInt (0)) (x3 := Int32.ofInt (0)) (x4 := x4) (d := d + 2) (by decide +kernel) (by omega) hs
        refine RX_c r18 (fun a G Q T _ h hk => rc_14009_223 (R := fun v' G1 => w18 = v' ∧ T G1) (rc_i h) (fun v' G1 hR => by
          obtain ⟨rfl, hT⟩ := hR
          exact hk G1 hT)) ?_
        exact RX_e (fun a G Q h => rk_14009_226 h) ⟨_, _, rfl, OB_m g18 (by omega)⟩
    · refine RX_b (fun a G Q _ h => rk_14009_177 (fun q' => absurd q' q15) (fun _ => h)) ?_
      by_cases q19 : (x3) = ((Int8.ofInt (11)).toInt32)
      · refine RX_b (fun a G Q _ h => rk_14009_183 (fun q' => absurd q19 q') (fun _ => h)) ?_
        refine RX_b (fun a G Q _ h => rk_14009_193 h) ?_
        obtain ⟨s20, w20, H20, g20, r20⟩ := D_2 (x1 := Int32.ofInt (2)) (x2 := Int32.ofInt (0)) (x3 := Int32.ofInt (0)) (x4 := (Int8.ofInt (98)).toInt32) (d := d + 2) (by decide +kernel) (by omega) hs
        refine RX_c r20 (fun a G Q T _ h hk => rc_14009_200 (R := fun v' G1 => w20 = v' ∧ T G1) (rc_i h) (fun v' G1 hR => by
          obtain ⟨rfl, hT⟩ := hR
          exact hk G1 hT)) ?_
        refine RX_b (fun a G Q _ h => rk_14009_203 h) ?_
        exact RX_e (fun a G Q h => rk_14009_226 h) ⟨_, _, rfl, OB_m g20 (by omega)⟩
      · refine RX_b (fun a G Q _ h => rk_14009_183 (fun _ => h) (fun q' => absurd q' q19)) ?_
        refine RX_b (fun a G Q _ h => rk_14009_198 h) ?_
        obtain ⟨s21, w21, H21, g21, r21⟩ := D_2 (x1 := Int32.ofInt (2)) (x2 := Int32.ofInt (0)) (x3 := Int32.ofInt (0)) (x4 := x4) (d := d + 2) (by decide +kernel) (by omega) hs
        refine RX_c r21 (fun a G Q T _ h hk => rc_14009_200 (R := fun v' G1 => w21 = v' ∧ T G1) (rc_i h) (fun v' G1 hR => by
          obtain ⟨rfl, hT⟩ := hR
          exact hk G1 hT)) ?_
        refine RX_b (fun a G Q _ h => rk_14009_203 h) ?_
        exact RX_e (fun a G Q h => rk_14009_226 h) ⟨_, _, rfl, OB_m g21 (by omega)⟩
theorem a_95 {K C : Nat} (hC : C ≤ 7) (hd : 1200 ≤ d) : ∀ (m j k : Nat) (s : lst) (H : mj_G), j + m = C → k + m ≤ K + 8 → OB k s H → RX (d + 5) 14009 95 (fun a => [some (.inr (.inr a)), some (.inl x1), some (.inl x2), some (.inl x3), some (.inl x4), some (.inl (nI C)), some (.inl (nI j))]) (fun _ => []) H (fun o H' => ∃ s' v', o = .inl (some (.inl v')) ∧ OB (K + 1106) s' H')
  | 0, j, k, s, H, hj, hk, hs => by
    refine RX_b (fun a G Q _ h => rk_14009_95 (fun _ => h) (fun q => absurd (by rw [z_le (by omega) (by omega)]; omega) q)) ?_
    exact a_129 (by omega) hd hs
  | m + 1, j, k, s, H, hj, hk, hs => by
    refine RX_b (fun a G Q _ h => rk_14009_95 (fun q => absurd q (by rw [z_le (by omega) (by omega)]; omega)) (fun _ => h)) ?_
    refine RX_b (fun a G Q _ h => rk_14009_102 rfl h) ?_
    refine RX_b (fun a G Q _ h => rc_14009_115 (R := fun v' G1 => lo ((x1) >>> ((((Int32.ofInt (2)) * (nI j)) + (Int32.ofInt (5))) &&& 31)) ((Int8.ofInt (95)).toInt32) = v' ∧ G = G1) (q_low (by decide +kernel)) (fun v' G1 hR => by
      obtain ⟨rfl, rfl⟩ := hR
      exact h)) ?_
    refine RX_b (fun a G Q _ h => rk_14009_118 h) ?_
    obtain ⟨w23, H23, g23, r23⟩ := t_type (d := d + 3) (x := ((Int8.ofInt (32)).toInt32) + (lo ((x1) >>> ((((Int32.ofInt (2)) * (nI j)) + (Int32.ofInt (5))) &&& 31)) ((Int8.ofInt (95)).toInt32))) (by omega) hs
    refine RX_c r23 (fun a G Q T _ h hk => rc_14009_119 (R := fun v' G1 => w23 = v' ∧ T G1) (rc_i h) (fun v' G1 hR => by
      obtain ⟨rfl, hT⟩ := hR
      exact hk G1 hT)) ?_
    refine RX_b (fun a G Q _ h => rk_14009_122 h) ?_
    rw [show nI j + Int32.ofInt (1) = nI (j + 1) from z_add j 1]
    exact a_95 hC hd m (j + 1) (k + 1) _ _ (by omega) (by omega) g23
theorem a_227 {K : Nat} (hk : k ≤ K + 8) (hd : 1200 ≤ d) (hM : mm_S Gm) (hs : OB k s H) : RX (d + 5) 14009 227 (fun a => [some (.inr (.inr a)), some (.inl x1), some (.inl x2), some (.inl x3), some (.inl x4), none, none]) (fun _ => []) H (fun o H' => ∃ s' v', o = .inl (some (.inl v')) ∧ OB (K + 1106) s' H') := by
  by_cases q24 : ((Int8.ofInt (21)).toInt32) ≤ (x3)
  · refine RX_b (fun a G Q _ h => rk_14009_227 (fun _ => h) (fun q' => absurd q24 q')) ?_
    by_cases q25 : ((Int8.ofInt (24)).toInt32) ≤ (x3)
    · refine RX_b (fun a G Q _ h => rk_14009_345 (fun _ => h) (fun q' => absurd q25 q')) ?_
      by_cases q26 : (x2) = ((0 : Int32))
      · refine RX_b (fun a G Q _ h => rk_14009_493 (fun _ => h) (fun q' => absurd q26 q')) ?_
        refine RX_b (fun a G Q _ h => rk_14009_514 h) ?_
        refine RX_b (fun a G Q _ h => rc_14009_519 (R := fun v' G1 => lo ((x1) >>> (((Int8.ofInt (8)).toInt32) &&& 31)) (Int32.ofInt (4)) = v' ∧ G = G1) (q_low (by decide +kernel)) (fun v' G1 hR => by
          obtain ⟨rfl, rfl⟩ := hR
          exact h)) ?_
        refine RX_b (fun a G Q _ h => rk_14009_522 h) ?_
        obtain ⟨s28, w28, H28, g28, r28⟩ := D_6 (x1 := (Int8.ofInt (6)).toInt32) (x2 := lo ((x1) >>> (((Int8.ofInt (8)).toInt32) &&& 31)) (Int32.ofInt (4))) (x3 := Int32.ofInt (0)) (x4 := Int32.ofInt (0)) (d := d + 2) hM (by decide +kernel) (by omega) hs
        refine RX_c r28 (fun a G Q T _ h hk => rc_14009_524 (R := fun v' G1 => w28 = v' ∧ T G1) (rc_i h) (fun v' G1 hR => by
          obtain ⟨rfl, hT⟩ := hR
          exact hk G1 hT)) ?_
        exact RX_e (fun a G Q h => rk_14009_527 h) ⟨_, _, rfl, OB_m g28 (by omega)⟩
      · refine RX_b (fun a G Q _ h => rk_14009_493 (fun q' => absurd q' q26) (fun _ => h)) ?_
        refine RX_b (fun a G Q _ h => rk_14009_500 h) ?_
        refine RX_b (fun a G Q _ h => rc_14009_506 (R := fun v' G1 => lo ((x1) >>> (((Int8.ofInt (8)).toInt32) &&& 31)) ((Int8.ofInt (13)).toInt32) = v' ∧ G = G1) (q_low (by decide +kernel)) (fun v' G1 hR => by
          obtain ⟨rfl, rfl⟩ := hR
          exact h)) ?_
        refine RX_b (fun a G Q _ h => rk_14009_509 h) ?_
        refine RX_b (fun a G Q _ h => rk_14009_522 h) ?_
        obtain ⟨s30, w30, H30, g30, r30⟩ := D_6 (x1 := (Int8.ofInt (6)).toInt32) (x2 := (lo ((x1) >>> (((Int8.ofInt (8)).toInt32) &&& 31)) ((Int8.ofInt (13)).toInt32)) - (Int32.ofInt (1))) (x3 := Int32.ofInt (0)) (x4 := Int32.ofInt (0)) (d := d + 2) hM (by decide +kernel) (by omega) hs
        refine RX_c r30 (fun a G Q T _ h hk => rc_14009_524 (R := fun v' G1 => w30 = v' ∧ T G1) (rc_i h) (fun v' G1 hR => by
          obtain ⟨rfl, hT⟩ := hR
          exact hk G1 hT)) ?_
        exact RX_e (fun a G Q h => rk_14009_527 h) ⟨_, _, rfl, OB_m g30 (by omega)⟩
    · refine RX_b (fun a G Q _ h => rk_14009_345 (fun q' => absurd q' q25) (fun _ => h)) ?_
      by_cases q31 : (x3) = ((Int8.ofInt (21)).toInt32)
      · refine RX_b (fun a G Q _ h => rk_14009_351 (fun q' => absurd q31 q') (fun _ => h)) ?_
        by_cases q32 : (x2) = ((0 : Int32))
        · refine RX_b (fun a G Q _ h => rk_14009_357 (fun _ => h) (fun q' => absurd q32 q')) ?_
          by_cases q33 : (((x1) >>> (((Int8.ofInt (8)).toInt32) &&& 31)) &&& (Int32.ofInt (1))) = ((0 : Int32))
          · refine RX_b (fun a G Q _ h => rk_14009_379 rfl (fun q' => absurd q33 q') (fun _ => h)) ?_
            refine RX_b (fun a G Q _ h => rk_14009_388 h) ?_
            refine RX_b (fun a G Q _ h => rk_14009_405 h) ?_
            obtain ⟨s34, w34, H34, g34, r34⟩ := D_5 (x1 := Int32.ofInt (5)) (x2 := (Int16.ofInt (1000)).toInt32) (x3 := Int32.ofInt (0)) (x4 := Int32.ofInt (0)) (d := d + 2) (by decide +kernel) (by omega) hs
            refine RX_c r34 (fun a G Q T _ h hk => rc_14009_407 (R := fun v' G1 => w34 = v' ∧ T G1) (rc_i h) (fun v' G1 hR => by
              obtain ⟨rfl, hT⟩ := hR
              exact hk G1 hT)) ?_
            refine RX_b (fun a G Q _ h => rk_14009_410 h) ?_
            exact RX_e (fun a G Q h => rk_14009_492 h) ⟨_, _, rfl, OB_m g34 (by omega)⟩
          · refine RX_b (fun a G Q _ h => rk_14009_379 rfl (fun _ => h) (fun q' => absurd q' q33)) ?_
            refine RX_b (fun a G Q _ h => rk_14009_394 h) ?_
            refine RX_b (fun a G Q _ h => rc_14009_401 (R := fun v' G1 => lo ((x1) >>> (((Int8.ofInt (9)).toInt32) &&& 31)) ((Int8.ofInt (60)).toInt32) = v' ∧ G = G1) (q_low (by decide +kernel)) (fun v' G1 hR => by
              obtain ⟨rfl, rfl⟩ := hR
              exact h)) ?_
            refine RX_b (fun a G Q _ h => rk_14009_404 h) ?_
            refine RX_b (fun a G Q _ h => rk_14009_405 h) ?_
            obtain ⟨s36, w36, H36, g36, r36⟩ := D_5 (x1 := Int32.ofInt (5)) (x2 := (Int32.ofInt (1)) + (lo ((x1) >>> (((Int8.ofInt (9)).toInt32) &&& 31)) ((Int8.ofInt (60)).toInt32))) (x3 := Int32.ofInt (0)) (x4 := Int32.ofInt (0)) (d := d + 2) (by decide +kernel) (by omega) hs
            refine RX_c r36 (fun a G Q T _ h hk => rc_14009_407 (R := fun v' G1 => w36 = v' ∧ T G1) (rc_i h) (fun v' G1 hR => by
              obtain ⟨rfl, hT⟩ := hR
              exact hk G1 hT)) ?_
            refine RX_b (fun a G Q _ h => rk_14009_410 h) ?_
            exact RX_e (fun a G Q h => rk_14009_492 h) ⟨_, _, rfl, OB_m g36 (by omega)⟩
        · refine RX_b (fun a G Q _ h => rk_14009_357 (fun q' => absurd q' q32) (fun _ => h)) ?_
          refine RX_b (fun a G Q _ h => rk_14009_363 h) ?_
          refine RX_b (fun a G Q _ h => rc_14009_370 (R := fun v' G1 => lo ((x1) >>> (((Int8.ofInt (8)).toInt32) &&& 31)) ((Int16.ofInt (3000)).toInt32) = v' ∧ G = G1) (q_low (by decide +kernel)) (fun v' G1 hR => by
            obtain ⟨rfl, rfl⟩ := hR
            exact h)) ?_
          refine RX_b (fun a G Q _ h => rk_14009_373 h) ?_
          refine RX_b (fun a G Q _ h => rk_14009_405 h) ?_
          obtain ⟨s38, w38, H38, g38, r38⟩ := D_5 (x1 := Int32.ofInt (5)) (x2 := (lo ((x1) >>> (((Int8.ofInt (8)).toInt32) &&& 31)) ((Int16.ofInt (3000)).toInt32)) - ((Int8.ofInt (100)).toInt32)) (x3 := Int32.ofInt (0)) (x4 := Int32.ofInt (0)) (d := d + 2) (by decide +kernel) (by omega) hs
          refine RX_c r38 (fun a G Q T _ h hk => rc_14009_407 (R := fun v' G1 => w38 = v' ∧ T G1) (rc_i h) (fun v' G1 hR => by
            obtain ⟨rfl, hT⟩ := hR
            exact hk G1 hT)) ?_
          refine RX_b (fun a G Q _ h => rk_14009_410 h) ?_
          exact RX_e (fun a G Q h => rk_14009_492 h) ⟨_, _, rfl, OB_m g38 (by omega)⟩
      · refine RX_b (fun a G Q _ h => rk_14009_351 (fun _ => h) (fun q' => absurd q' q31)) ?_
        by_cases q39 : (x3) = ((Int8.ofInt (22)).toInt32)
        · refine RX_b (fun a G Q _ h => rk_14009_413 (fun q' => absurd q39 q') (fun _ => h)) ?_
          by_cases q40 : (x2) = ((0 : Int32))
          · refine RX_b (fun a G Q _ h => rk_14009_419 (fun _ => h) (fun q' => absurd q40 q')) ?_
            refine RX_b (fun a G Q _ h => rk_14009_438 h) ?_
            refine RX_b (fun a G Q _ h => rc_14009_445 (R := fun v' G1 => lo ((x1) >>> (((Int8.ofInt (8)).toInt32) &&& 31)) ((Int8.ofInt (15)).toInt32) = v' ∧ G = G1) (q_low (by decide +kernel)) (fun v' G1 hR => by
              obtain ⟨rfl, rfl⟩ := hR
              exact h)) ?_
            refine RX_b (fun a G Q _ h => rk_14009_448 h) ?_
            refine RX_b (fun a G Q _ h => rk_14009_449 h) ?_
            obtain ⟨s42, w42, H42, g42, r42⟩ := D_12 (x1 := (Int8.ofInt (12)).toInt32) (x2 := (Int32.ofInt (1)) + (lo ((x1) >>> (((Int8.ofInt (8)).toInt32) &&& 31)) ((Int8.ofInt (15)).toInt32))) (x3 := Int32.ofInt (0)) (x4 := x4) (d := d + 2) (by decide +kernel) (by omega) hs
            refine RX_c r42 (fun a G Q T _ h hk => rc_14009_452 (R := fun v' G1 => w42 = v' ∧ T G1) (rc_i h) (fun v' G1 hR => by
              obtain ⟨rfl, hT⟩ := hR
              exact hk G1 hT)) ?_
            refine RX_b (fun a G Q _ h => rk_14009_455 h) ?_
            exact RX_e (fun a G Q h => rk_14009_492 h) ⟨_, _, rfl, OB_m g42 (by omega)⟩
          · refine RX_b (fun a G Q _ h => rk_14009_419 (fun q' => absurd q' q40) (fun _ => h)) ?_
            refine RX_b (fun a G Q _ h => rk_14009_426 h) ?_
            refine RX_b (fun a G Q _ h => rc_14009_432 (R := fun v' G1 => lo ((x1) >>> (((Int8.ofInt (8)).toInt32) &&& 31)) ((Int8.ofInt (20)).toInt32) = v' ∧ G = G1) (q_low (by decide +kernel)) (fun v' G1 hR => by
              obtain ⟨rfl, rfl⟩ := hR
              exact h)) ?_
            refine RX_b (fun a G Q _ h => rk_14009_435 h) ?_
            refine RX_b (fun a G Q _ h => rk_14009_449 h) ?_
            obtain ⟨s44, w44, H44, g44, r44⟩ := D_12 (x1 := (Int8.ofInt (12)).toInt32) (x2 := lo ((x1) >>> (((Int8.ofInt (8)).toInt32) &&& 31)) ((Int8.ofInt (20)).toInt32)) (x3 := Int32.ofInt (0)) (x4 := x4) (d := d + 2) (by decide +kernel) (by omega) hs
            refine RX_c r44 (fun a G Q T _ h hk => rc_14009_452 (R := fun v' G1 => w44 = v' ∧ T G1) (rc_i h) (fun v' G1 hR => by
              obtain ⟨rfl, hT⟩ := hR
              exact hk G1 hT)) ?_
            refine RX_b (fun a G Q _ h => rk_14009_455 h) ?_
            exact RX_e (fun a G Q h => rk_14009_492 h) ⟨_, _, rfl, OB_m g44 (by omega)⟩
        · refine RX_b (fun a G Q _ h => rk_14009_413 (fun _ => h) (fun q' => absurd q' q39)) ?_
          by_cases q45 : (x2) = ((0 : Int32))
          · refine RX_b (fun a G Q _ h => rk_14009_458 (fun _ => h) (fun q' => absurd q45 q')) ?_
            refine RX_b (fun a G Q _ h => rk_14009_479 h) ?_
            refine RX_b (fun a G Q _ h => rc_14009_484 (R := fun v' G1 => lo ((x1) >>> (((Int8.ofInt (8)).toInt32) &&& 31)) (Int32.ofInt (4)) = v' ∧ G = G1) (q_low (by decide +kernel)) (fun v' G1 hR => by
              obtain ⟨rfl, rfl⟩ := hR
              exact h)) ?_
            refine RX_b (fun a G Q _ h => rk_14009_487 h) ?_
            obtain ⟨s47, w47, H47, g47, r47⟩ := D_13 (x1 := (Int8.ofInt (13)).toInt32) (x2 := lo ((x1) >>> (((Int8.ofInt (8)).toInt32) &&& 31)) (Int32.ofInt (4))) (x3 := Int32.ofInt (0)) (x4 := Int32.ofInt (0)) (d := d + 2) hM (by decide +kernel) (by omega) hs
            refine RX_c r47 (fun a G Q T _ h hk => rc_14009_489 (R := fun v' G1 => w47 = v' ∧ T G1) (rc_i h) (fun v' G1 hR => by
              obtain ⟨rfl, hT⟩ := hR
              exact hk G1 hT)) ?_
            exact RX_e (fun a G Q h => rk_14009_492 h) ⟨_, _, rfl, OB_m g47 (by omega)⟩
          · refine RX_b (fun a G Q _ h => rk_14009_458 (fun q' => absurd q' q45) (fun _ => h)) ?_
            refine RX_b (fun a G Q _ h => rk_14009_465 h) ?_
            refine RX_b (fun a G Q _ h => rc_14009_471 (R := fun v' G1 => lo ((x1) >>> (((Int8.ofInt (8)).toInt32) &&& 31)) ((Int8.ofInt (12)).toInt32) = v' ∧ G = G1) (q_low (by decide +kernel)) (fun v' G1 hR => by
              obtain ⟨rfl, rfl⟩ := hR
              exact h)) ?_
            refine RX_b (fun a G Q _ h => rk_14009_474 h) ?_
            refine RX_b (fun a G Q _ h => rk_14009_487 h) ?_
            obtain ⟨s49, w49, H49, g49, r49⟩ := D_13 (x1 := (Int8.ofInt (13)).toInt32) (x2 := (lo ((x1) >>> (((Int8.ofInt (8)).toInt32) &&& 31)) ((Int8.ofInt (12)).toInt32)) - (Int32.ofInt (1))) (x3 := Int32.ofInt (0)) (x4 := Int32.ofInt (0)) (d := d + 2) hM (by decide +kernel) (by omega) hs
            refine RX_c r49 (fun a G Q T _ h hk => rc_14009_489 (R := fun v' G1 => w49 = v' ∧ T G1) (rc_i h) (fun v' G1 hR => by
              obtain ⟨rfl, hT⟩ := hR
              exact hk G1 hT)) ?_
            exact RX_e (fun a G Q h => rk_14009_492 h) ⟨_, _, rfl, OB_m g49 (by omega)⟩
  · refine RX_b (fun a G Q _ h => rk_14009_227 (fun q' => absurd q' q24) (fun _ => h)) ?_
    by_cases q50 : (((x1) >>> (((Int8.ofInt (9)).toInt32) &&& 31)) &&& (Int32.ofInt (3))) = ((0 : Int32))
    · refine RX_b (fun a G Q _ h => rk_14009_233 rfl (fun q' => absurd q50 q') (fun _ => h)) ?_
      refine RX_b (fun a G Q _ h => rk_14009_242 h) ?_
      by_cases q51 : ((Int8.ofInt (19)).toInt32) ≤ (x3)
      · refine RX_b (fun a G Q _ h => rk_14009_254 (fun _ => h) (fun q' => absurd q51 q')) ?_
        by_cases q52 : (x3) = ((Int8.ofInt (19)).toInt32)
        · refine RX_b (fun a G Q _ h => rk_14009_287 (fun q' => absurd q52 q') (fun _ => h)) ?_
          refine RX_b (fun a G Q _ h => rk_14009_293 h) ?_
          obtain ⟨s53, w53, H53, g53, r53⟩ := D_3 (x1 := Int32.ofInt (3)) (x2 := (x1) >>> ((Int32.ofInt (3)) &&& 31)) (x3 := Int32.ofInt (0)) (x4 := (Int8.ofInt (99)).toInt32) (d := d + 2) (by decide +kernel) (by omega) hs
          refine RX_c r53 (fun a G Q T _ h hk => rc_14009_300 (R := fun v' G1 => w53 = v' ∧ T G1) (rc_i h) (fun v' G1 hR => by
            obtain ⟨rfl, hT⟩ := hR
            exact hk G1 hT)) ?_
          refine RX_b (fun a G Q _ h => rk_14009_303 h) ?_
          exact RX_e (fun a G Q h => rk_14009_344 h) ⟨_, _, rfl, OB_m g53 (by omega)⟩
        · refine RX_b (fun a G Q _ h => rk_14009_287 (fun _ => h) (fun q' => absurd q' q52)) ?_
          by_cases q54 : (((x1) >>> (((Int8.ofInt (9)).toInt32) &&& 31)) &&& (Int32.ofInt (1))) = ((0 : Int32))
          · refine RX_b (fun a G Q _ h => rk_14009_306 rfl (fun q' => absurd q54 q') (fun _ => h)) ?_
            refine RX_b (fun a G Q _ h => rk_14009_316 h) ?_
            by_cases q55 : (((x1) >>> (((Int8.ofInt (10)).toInt32) &&& 31)) &&& (Int32.ofInt (1))) = ((0 : Int32))
            · refine RX_b (fun a G Q _ h => rk_14009_323 rfl (fun q' => absurd q55 q') (fun _ => h)) ?_
              refine RX_b (fun a G Q _ h => rk_14009_334 h) ?_
              obtain ⟨s56, w56, H56, g56, r56⟩ := D_15 (x1 := (Int8.ofInt (15)).toInt32) (x2 := Int32.ofInt (0)) (x3 := Int32.ofInt (0)) (x4 := (Int8.ofInt (99)).toInt32) (d := d + 2) (by decide +kernel) (by omega) hs
              refine RX_c r56 (fun a G Q T _ h hk => rc_14009_341 (R := fun v' G1 => w56 = v' ∧ T G1) (rc_i h) (fun v' G1 hR => by
                obtain ⟨rfl, hT⟩ := hR
                exact hk G1 hT)) ?_
              exact RX_e (fun a G Q h => rk_14009_344 h) ⟨_, _, rfl, OB_m g56 (by omega)⟩
            · refine RX_b (fun a G Q _ h => rk_14009_323 rfl (fun _ => h) (fun q' => absurd q' q55)) ?_
              refine RX_b (fun a G Q _ h => rk_14009_339 h) ?_
              obtain ⟨s57, w57, H57, g57, r57⟩ := D_15 (x1 := (Int8.ofInt (15)).toInt32) (x2 := Int32.ofInt (0)) (x3 := Int32.ofInt (0)) (x4 := x4) (d := d + 2) (by decide +kernel) (by omega) hs
              refine RX_c r57 (fun a G Q T _ h hk => rc_14009_341 (R := fun v' G1 => w57 = v' ∧ T G1) (rc_i h) (fun v' G1 hR => by
                obtain ⟨rfl, hT⟩ := hR
                exact hk G1 hT)) ?_
              exact RX_e (fun a G Q h => rk_14009_344 h) ⟨_, _, rfl, OB_m g57 (by omega)⟩
          · refine RX_b (fun a G Q _ h => rk_14009_306 rfl (fun _ => h) (fun q' => absurd q' q54)) ?_
            refine RX_b (fun a G Q _ h => rk_14009_321 h) ?_
            by_cases q58 : (((x1) >>> (((Int8.ofInt (10)).toInt32) &&& 31)) &&& (Int32.ofInt (1))) = ((0 : Int32))
            · refine RX_b (fun a G Q _ h => rk_14009_323 rfl (fun q' => absurd q58 q') (fun _ => h)) ?_
              refine RX_b (fun a G Q _ h => rk_14009_334 h) ?_
              obtain ⟨s59, w59, H59, g59, r59⟩ := D_16 (x1 := (Int8.ofInt (16)).toInt32) (x2 := Int32.ofInt (0)) (x3 := Int32.ofInt (0)) (x4 := (Int8.ofInt (99)).toInt32) (d := d + 2) (by decide +kernel) (by omega) hs
              refine RX_c r59 (fun a G Q T _ h hk => rc_14009_341 (R := fun v' G1 => w59 = v' ∧ T G1) (rc_i h) (fun v' G1 hR => by
                obtain ⟨rfl, hT⟩ := hR
                exact hk G1 hT)) ?_
              exact RX_e (fun a G Q h => rk_14009_344 h) ⟨_, _, rfl, OB_m g59 (by omega)⟩
            · refine RX_b (fun a G Q _ h => rk_14009_323 rfl (fun _ => h) (fun q' => absurd q' q58)) ?_
              refine RX_b (fun a G Q _ h => rk_14009_339 h) ?_
              obtain ⟨s60, w60, H60, g60, r60⟩ := D_16 (x1 := (Int8.ofInt (16)).toInt32) (x2 := Int32.ofInt (0)) (x3 := Int32.ofInt (0)) (x4 := x4) (d := d + 2) (by decide +kernel) (by omega) hs
              refine RX_c r60 (fun a G Q T _ h hk => rc_14009_341 (R := fun v' G1 => w60 = v' ∧ T G1) (rc_i h) (fun v' G1 hR => by
                obtain ⟨rfl, hT⟩ := hR
                exact hk G1 hT)) ?_
              exact RX_e (fun a G Q h => rk_14009_344 h) ⟨_, _, rfl, OB_m g60 (by omega)⟩
      · refine RX_b (fun a G Q _ h => rk_14009_254 (fun q' => absurd q' q51) (fun _ => h)) ?_
        by_cases q61 : (x3) = ((Int8.ofInt (16)).toInt32)
        · refine RX_b (fun a G Q _ h => rk_14009_262 (fun q' => absurd q61 q') (fun _ => h)) ?_
          refine RX_b (fun a G Q _ h => rk_14009_274 h) ?_
          obtain ⟨s62, w62, H62, g62, r62⟩ := D_14 (x1 := (Int8.ofInt (14)).toInt32) (x2 := (x1) >>> ((Int32.ofInt (3)) &&& 31)) (x3 := Int32.ofInt (0)) (x4 := (Int8.ofInt (97)).toInt32) (d := d + 2) (by decide +kernel) (by omega) hs
          refine RX_c r62 (fun a G Q T _ h hk => rc_14009_281 (R := fun v' G1 => w62 = v' ∧ T G1) (rc_i h) (fun v' G1 hR => by
            obtain ⟨rfl, hT⟩ := hR
            exact hk G1 hT)) ?_
          refine RX_b (fun a G Q _ h => rk_14009_284 h) ?_
          exact RX_e (fun a G Q h => rk_14009_344 h) ⟨_, _, rfl, OB_m g62 (by omega)⟩
        · refine RX_b (fun a G Q _ h => rk_14009_262 (fun _ => h) (fun q' => absurd q' q61)) ?_
          refine RX_b (fun a G Q _ h => rk_14009_279 h) ?_
          obtain ⟨s63, w63, H63, g63, r63⟩ := D_14 (x1 := (Int8.ofInt (14)).toInt32) (x2 := (x1) >>> ((Int32.ofInt (3)) &&& 31)) (x3 := Int32.ofInt (0)) (x4 := x4) (d := d + 2) (by decide +kernel) (by omega) hs
          refine RX_c r63 (fun a G Q T _ h hk => rc_14009_281 (R := fun v' G1 => w63 = v' ∧ T G1) (rc_i h) (fun v' G1 hR => by
            obtain ⟨rfl, hT⟩ := hR
            exact hk G1 hT)) ?_
          refine RX_b (fun a G Q _ h => rk_14009_284 h) ?_
          exact RX_e (fun a G Q h => rk_14009_344 h) ⟨_, _, rfl, OB_m g63 (by omega)⟩
    · refine RX_b (fun a G Q _ h => rk_14009_233 rfl (fun _ => h) (fun q' => absurd q' q50)) ?_
      refine RX_b (fun a G Q _ h => rk_14009_248 rfl h) ?_
      by_cases q64 : ((Int8.ofInt (19)).toInt32) ≤ (x3)
      · refine RX_b (fun a G Q _ h => rk_14009_254 (fun _ => h) (fun q' => absurd q64 q')) ?_
        by_cases q65 : (x3) = ((Int8.ofInt (19)).toInt32)
        · refine RX_b (fun a G Q _ h => rk_14009_287 (fun q' => absurd q65 q') (fun _ => h)) ?_
          refine RX_b (fun a G Q _ h => rk_14009_293 h) ?_
          obtain ⟨s66, w66, H66, g66, r66⟩ := D_3 (x1 := Int32.ofInt (3)) (x2 := ((x1) >>> (((Int8.ofInt (10)).toInt32) &&& 31)) &&& (Int32.ofInt (3))) (x3 := Int32.ofInt (0)) (x4 := (Int8.ofInt (99)).toInt32) (d := d + 2) (by decide +kernel) (by omega) hs
          refine RX_c r66 (fun a G Q T _ h hk => rc_14009_300 (R := fun v' G1 => w66 = v' ∧ T G1) (rc_i h) (fun v' G1 hR => by
            obtain ⟨rfl, hT⟩ := hR
            exact hk G1 hT)) ?_
          refine RX_b (fun a G Q _ h => rk_14009_303 h) ?_
          exact RX_e (fun a G Q h => rk_14009_344 h) ⟨_, _, rfl, OB_m g66 (by omega)⟩
        · refine RX_b (fun a G Q _ h => rk_14009_287 (fun _ => h) (fun q' => absurd q' q65)) ?_
          by_cases q67 : (((x1) >>> (((Int8.ofInt (9)).toInt32) &&& 31)) &&& (Int32.ofInt (1))) = ((0 : Int32))
          · refine RX_b (fun a G Q _ h => rk_14009_306 rfl (fun q' => absurd q67 q') (fun _ => h)) ?_
            refine RX_b (fun a G Q _ h => rk_14009_316 h) ?_
            by_cases q68 : (((x1) >>> (((Int8.ofInt (10)).toInt32) &&& 31)) &&& (Int32.ofInt (1))) = ((0 : Int32))
            · refine RX_b (fun a G Q _ h => rk_14009_323 rfl (fun q' => absurd q68 q') (fun _ => h)) ?_
              refine RX_b (fun a G Q _ h => rk_14009_334 h) ?_
              obtain ⟨s69, w69, H69, g69, r69⟩ := D_15 (x1 := (Int8.ofInt (15)).toInt32) (x2 := Int32.ofInt (0)) (x3 := Int32.ofInt (0)) (x4 := (Int8.ofInt (99)).toInt32) (d := d + 2) (by decide +kernel) (by omega) hs
              refine RX_c r69 (fun a G Q T _ h hk => rc_14009_341 (R := fun v' G1 => w69 = v' ∧ T G1) (rc_i h) (fun v' G1 hR => by
                obtain ⟨rfl, hT⟩ := hR
                exact hk G1 hT)) ?_
              exact RX_e (fun a G Q h => rk_14009_344 h) ⟨_, _, rfl, OB_m g69 (by omega)⟩
            · refine RX_b (fun a G Q _ h => rk_14009_323 rfl (fun _ => h) (fun q' => absurd q' q68)) ?_
              refine RX_b (fun a G Q _ h => rk_14009_339 h) ?_
              obtain ⟨s70, w70, H70, g70, r70⟩ := D_15 (x1 := (Int8.ofInt (15)).toInt32) (x2 := Int32.ofInt (0)) (x3 := Int32.ofInt (0)) (x4 := x4) (d := d + 2) (by decide +kernel) (by omega) hs
              refine RX_c r70 (fun a G Q T _ h hk => rc_14009_341 (R := fun v' G1 => w70 = v' ∧ T G1) (rc_i h) (fun v' G1 hR => by
                obtain ⟨rfl, hT⟩ := hR
                exact hk G1 hT)) ?_
              exact RX_e (fun a G Q h => rk_14009_344 h) ⟨_, _, rfl, OB_m g70 (by omega)⟩
          · refine RX_b (fun a G Q _ h => rk_14009_306 rfl (fun _ => h) (fun q' => absurd q' q67)) ?_
            refine RX_b (fun a G Q _ h => rk_14009_321 h) ?_
            by_cases q71 : (((x1) >>> (((Int8.ofInt (10)).toInt32) &&& 31)) &&& (Int32.ofInt (1))) = ((0 : Int32))
            · refine RX_b (fun a G Q _ h => rk_14009_323 rfl (fun q' => absurd q71 q') (fun _ => h)) ?_
              refine RX_b (fun a G Q _ h => rk_14009_334 h) ?_
              obtain ⟨s72, w72, H72, g72, r72⟩ := D_16 (x1 := (Int8.ofInt (16)).toInt32) (x2 := Int32.ofInt (0)) (x3 := Int32.ofInt (0)) (x4 := (Int8.ofInt (99)).toInt32) (d := d + 2) (by decide +kernel) (by omega) hs
              refine RX_c r72 (fun a G Q T _ h hk => rc_14009_341 (R := fun v' G1 => w72 = v' ∧ T G1) (rc_i h) (fun v' G1 hR => by
                obtain ⟨rfl, hT⟩ := hR
                exact hk G1 hT)) ?_
              exact RX_e (fun a G Q h => rk_14009_344 h) ⟨_, _, rfl, OB_m g72 (by omega)⟩
            · refine RX_b (fun a G Q _ h => rk_14009_323 rfl (fun _ => h) (fun q' => absurd q' q71)) ?_
              refine RX_b (fun a G Q _ h => rk_14009_339 h) ?_
              obtain ⟨s73, w73, H73, g73, r73⟩ := D_16 (x1 := (Int8.ofInt (16)).toInt32) (x2 := Int32.ofInt (0)) (x3 := Int32.ofInt (0)) (x4 := x4) (d := d + 2) (by decide +kernel) (by omega) hs
              refine RX_c r73 (fun a G Q T _ h hk => rc_14009_341 (R := fun v' G1 => w73 = v' ∧ T G1) (rc_i h) (fun v' G1 hR => by
                obtain ⟨rfl, hT⟩ := hR
                exact hk G1 hT)) ?_
              exact RX_e (fun a G Q h => rk_14009_344 h) ⟨_, _, rfl, OB_m g73 (by omega)⟩
      · refine RX_b (fun a G Q _ h => rk_14009_254 (fun q' => absurd q' q64) (fun _ => h)) ?_
        by_cases q74 : (x3) = ((Int8.ofInt (16)).toInt32)
        · refine RX_b (fun a G Q _ h => rk_14009_262 (fun q' => absurd q74 q') (fun _ => h)) ?_
          refine RX_b (fun a G Q _ h => rk_14009_274 h) ?_
          obtain ⟨s75, w75, H75, g75, r75⟩ := D_14 (x1 := (Int8.ofInt (14)).toInt32) (x2 := ((x1) >>> (((Int8.ofInt (10)).toInt32) &&& 31)) &&& (Int32.ofInt (3))) (x3 := Int32.ofInt (0)) (x4 := (Int8.ofInt (97)).toInt32) (d := d + 2) (by decide +kernel) (by omega) hs
          refine RX_c r75 (fun a G Q T _ h hk => rc_14009_281 (R := fun v' G1 => w75 = v' ∧ T G1) (rc_i h) (fun v' G1 hR => by
            obtain ⟨rfl, hT⟩ := hR
            exact hk G1 hT)) ?_
          refine RX_b (fun a G Q _ h => rk_14009_284 h) ?_
          exact RX_e (fun a G Q h => rk_14009_344 h) ⟨_, _, rfl, OB_m g75 (by omega)⟩
        · refine RX_b (fun a G Q _ h => rk_14009_262 (fun _ => h) (fun q' => absurd q' q74)) ?_
          refine RX_b (fun a G Q _ h => rk_14009_279 h) ?_
          obtain ⟨s76, w76, H76, g76, r76⟩ := D_14 (x1 := (Int8.ofInt (14)).toInt32) (x2 := ((x1) >>> (((Int8.ofInt (10)).toInt32) &&& 31)) &&& (Int32.ofInt (3))) (x3 := Int32.ofInt (0)) (x4 := x4) (d := d + 2) (by decide +kernel) (by omega) hs
          refine RX_c r76 (fun a G Q T _ h hk => rc_14009_281 (R := fun v' G1 => w76 = v' ∧ T G1) (rc_i h) (fun v' G1 hR => by
            obtain ⟨rfl, hT⟩ := hR
            exact hk G1 hT)) ?_
          refine RX_b (fun a G Q _ h => rk_14009_284 h) ?_
          exact RX_e (fun a G Q h => rk_14009_344 h) ⟨_, _, rfl, OB_m g76 (by omega)⟩
theorem a_55 (hM : mm_S Gm) (hd : 1200 ≤ d) (hs : OB k s H) : RX (d + 5) 14009 55 (fun a => [some (.inr (.inr a)), some (.inl x1), some (.inl x2), some (.inl x3), none, none, none]) (fun _ => [.inl x4]) H (fun o H' => ∃ s' v', o = .inl (some (.inl v')) ∧ OB (k + 1106) s' H') := by
  by_cases q77 : ((Int8.ofInt (10)).toInt32) ≤ (x3)
  · refine RX_b (fun a G Q _ h => rk_14009_55 (fun _ => h) (fun q' => absurd q77 q')) ?_
    by_cases q78 : ((Int8.ofInt (16)).toInt32) ≤ (x3)
    · refine RX_b (fun a G Q _ h => rk_14009_72 (fun _ => h) (fun q' => absurd q78 q')) ?_
      exact a_227 (by omega) hd hM hs
    · refine RX_b (fun a G Q _ h => rk_14009_72 (fun q' => absurd q' q78) (fun _ => h)) ?_
      refine RX_b (fun a G Q _ h => rk_14009_78 rfl h) ?_
      obtain ⟨s79, z79, H79, g79, ⟨-, rfl⟩, -, r79⟩ := k_wipe (d := d + 4) (by omega) hs
      refine RX_c r79 (fun a G Q T k13 h hk => rc_14009_88 (R := fun v' G1 => nI (ls_n s) = v' ∧ T G1) k13 (rc_i h) (fun v' G1 hR => by
        obtain ⟨rfl, hT⟩ := hR
        exact hk G1 hT)) ?_
      refine RX_b (fun a G Q _ h => rk_14009_91 h) ?_
      obtain ⟨r, hr, e⟩ := and_n (x1 >>> (((Int8.ofInt (8)).toInt32) &&& 31)) (m := 7) (by decide)
      rw [show (Int8.ofInt (7)).toInt32 = nI 7 by decide +kernel, e]
      exact a_95 (C := r) hr hd r 0 _ _ _ (by omega) (by omega) g79
  · refine RX_b (fun a G Q _ h => rk_14009_55 (fun q' => absurd q' q77) (fun _ => h)) ?_
    refine RX_b (fun a G Q _ h => rk_14009_63 h) ?_
    obtain ⟨s80, w80, H80, g80, r80⟩ := t_writes (v := (x1) >>> ((Int32.ofInt (3)) &&& 31)) (odd := x2) hd hs
    refine RX_c r80 (fun a G Q T _ h hk => rc_14009_68 (R := fun v' G1 => w80 = v' ∧ T G1) (rc_i h) (fun v' G1 hR => by
      obtain ⟨rfl, hT⟩ := hR
      exact hk G1 hT)) ?_
    exact RX_e (fun a G Q h => rk_14009_71 h) ⟨_, _, rfl, OB_m g80 (by omega)⟩
theorem a_17 (hM : mm_S Gm) (hd : 1200 ≤ d) (hs : OB k s H) : RX (d + 5) 14009 17 (fun a => [some (.inr (.inr a)), some (.inl x1), none, none, none, none, none]) (fun _ => [.inl x2]) H (fun o H' => ∃ s' v', o = .inl (some (.inl v')) ∧ OB (k + 1106) s' H') := by
  refine RX_b (fun a G Q _ h => rk_14009_17 h) ?_
  refine RX_b (fun a G Q _ h => rc_14009_21 (R := fun v' G1 => lo (x1) ((Int8.ofInt (30)).toInt32) = v' ∧ G = G1) (q_low (by decide +kernel)) (fun v' G1 hR => by
    obtain ⟨rfl, rfl⟩ := hR
    exact h)) ?_
  by_cases q82 : (x2) = ((0 : Int32))
  · refine RX_b (fun a G Q _ h => rk_14009_24 (fun _ => h) (fun q' => absurd q82 q')) ?_
    refine RX_b (fun a G Q _ h => rk_14009_44 h) ?_
    refine RX_b (fun a G Q _ h => rc_14009_51 (R := fun v' G1 => lo ((x1) >>> (((Int8.ofInt (6)).toInt32) &&& 31)) (Int32.ofInt (4)) = v' ∧ G = G1) (q_low (by decide +kernel)) (fun v' G1 hR => by
      obtain ⟨rfl, rfl⟩ := hR
      exact h)) ?_
    refine RX_b (fun a G Q _ h => rk_14009_54 h) ?_
    exact a_55 hM hd hs
  · refine RX_b (fun a G Q _ h => rk_14009_24 (fun q' => absurd q' q82) (fun _ => h)) ?_
    refine RX_b (fun a G Q _ h => rk_14009_29 h) ?_
    refine RX_b (fun a G Q _ h => rc_14009_37 (R := fun v' G1 => lo ((x1) >>> (((Int8.ofInt (6)).toInt32) &&& 31)) ((Int8.ofInt (32)).toInt32) = v' ∧ G = G1) (q_low (by decide +kernel)) (fun v' G1 hR => by
      obtain ⟨rfl, rfl⟩ := hR
      exact h)) ?_
    refine RX_b (fun a G Q _ h => rk_14009_40 h) ?_
    exact a_55 hM hd hs
theorem t_act (hM : mm_S Gm) (hd : 1200 ≤ d) (hs : OB k s H) : ∃ s' v' H', OB (k + 1106) s' H' ∧ RV (d + 5) 14009 [some (.inl x1), none, none, none, none, none] (.inl (some (.inl v'))) H H' := by
  have h : RX (d + 5) 14009 0 (fun a => [some (.inr (.inr a)), some (.inl x1), none, none, none, none, none]) (fun _ => []) H (fun o H' => ∃ s' v', o = .inl (some (.inl v')) ∧ OB (k + 1106) s' H') := by
    by_cases q85 : (((x1) >>> (((Int8.ofInt (18)).toInt32) &&& 31)) &&& ((Int8.ofInt (7)).toInt32)) = ((Int8.ofInt (7)).toInt32)
    · refine RX_b (fun a G Q _ h => rk_14009_0 rfl (fun q' => absurd q85 q') (fun _ => h)) ?_
      refine RX_b (fun a G Q _ h => rk_14009_12 h) ?_
      exact a_17 hM hd hs
    · refine RX_b (fun a G Q _ h => rk_14009_0 rfl (fun _ => h) (fun q' => absurd q' q85)) ?_
      refine RX_b (fun a G Q _ h => rk_14009_16 h) ?_
      exact a_17 hM hd hs
  obtain ⟨o, H', ⟨s', v', rfl, h1⟩, h2⟩ := RX_v h
  exact ⟨s', v', H', h1, h2⟩
end H06
