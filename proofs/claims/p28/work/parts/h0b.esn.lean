/-! THE END IS SO (wip/p28/genh0b.py) -/
section H0B
variable {s : lst} {H H1 H2 H3 H' Gm : mj_G} {d k t : Nat} {v : Int32} {ls : List (List Nat)}
theorem z8_0 : ∀ a, a < 8 → ¬ (nI 0).toBitVec.getLsbD a = true := by decide +kernel
theorem s8_n (h8 : s8 v) (hn : ne8 v) : ∃ n, 1 ≤ n ∧ n < 256 ∧ v = nI n := by
  have h1 : v.toBitVec.toNat < 2 ^ 8 := Nat.lt_pow_two_of_testBit _ (fun i hi => by
    rw [BitVec.testBit_toNat]
    by_cases q : i < 32
    · exact Bool.eq_false_iff.mpr (h8 i hi q)
    · exact BitVec.getLsbD_of_ge _ _ (by omega))
  have e : v = nI v.toBitVec.toNat := by
    apply Int32.toBitVec_inj.mp
    apply BitVec.eq_of_toNat_eq
    show v.toBitVec.toNat = (BitVec.ofNat 32 v.toBitVec.toNat).toNat
    rw [BitVec.toNat_ofNat, Nat.mod_eq_of_lt (by omega)]
  refine ⟨v.toBitVec.toNat, Nat.pos_of_ne_zero fun q => ?_, h1, e⟩
  obtain ⟨a, ha, hb⟩ := hn
  rw [e, q] at hb
  exact z8_0 a ha hb
theorem rg_n (h : rg v) : ¬ v < Int32.ofInt (-1) ∧ ¬ (Int8.ofInt (80)).toInt32 ≤ v := by
  rcases h with rfl | ⟨x, hx, rfl⟩
  · decide +kernel
  · refine ⟨nn_lt (by omega) (by decide +kernel), fun q => ?_⟩
    rw [show (Int8.ofInt (80)).toInt32 = nI 80 by decide +kernel, z_le (by decide) (by omega)] at q
    omega
theorem e_138 (hM : mm_S Gm) (hd : 1200 ≤ d) (hs : OB k s H) : RY (d + 4) 14014 138 (fun a b => [some (.inr (.inr a)), none, none, none, none]) (fun _ _ => []) H H (fun o H1' H2' => ∃ s', o = .inl (some (.inl (Int32.ofInt (1)))) ∧ H2' = H1' ∧ OB (k + 2000) s' H1') := by
  obtain ⟨v, v8, vn, -, r1⟩ := k_may (t := 3) (by decide) (d := d + 3) (by omega) hs
  obtain ⟨n, n1, n2, rfl⟩ := s8_n v8 vn
  have r1' : RV (d + 3) 12026 [some (.inl (Int32.ofInt (3))), none] (.inl (some (.inl (nI n)))) H H := r1
  refine RY_b (fun a b G Q h => rk_14014_138 h) ?_
  refine RY_1 (pc' := 143) r1' (fun a b G Q T k13 h hk => rj_X_callP rfl rfl rfl (Nat.le_of_ble_eq_true rfl) (And.intro (Nat.le_of_ble_eq_true rfl) k13) h (fun o G1 hP => by
    obtain ⟨rfl, hT⟩ := hP
    exact hk G1 hT)) ?_
  refine RY_b (fun a b G Q h => rk_14014_143 (fun q => absurd q (by rw [show (0 : Int32) = nI 0 from rfl, z_le (by omega) (by decide)]; omega)) (fun _ => h)) ?_
  refine RY_b (fun a b G Q h => rk_14014_146 h) ?_
  refine RY_1 (pc' := 151) r1' (fun a b G Q T k13 h hk => rj_X_callP rfl rfl rfl (Nat.le_of_ble_eq_true rfl) (And.intro (Nat.le_of_ble_eq_true rfl) k13) h (fun o G1 hP => by
    obtain ⟨rfl, hT⟩ := hP
    exact hk G1 hT)) ?_
  refine RY_b (fun a b G Q h => rk_14014_151 (fun q => absurd q (by rw [show (Int16.ofInt (256)).toInt32 = nI 256 by decide +kernel, z_le (by decide) (by omega)]; omega)) (fun _ => h)) ?_
  refine RY_b (fun a b G Q h => rk_14014_157 h) ?_
  obtain ⟨v2, H2, g2, c2, f2, u2, r2⟩ := k_check hM (t := 3) (by decide) (d := d + 3) (by omega) hs
  have r2' : RV (d + 3) 12028 [some (.inl (Int32.ofInt (3)))] (.inl (some (.inl v2))) H H2 := r2
  refine RY_1 (pc' := 162) r2' (fun a b G Q T k13 h hk => rj_X_callP rfl rfl rfl (Nat.le_of_ble_eq_true rfl) (And.intro (Nat.le_of_ble_eq_true rfl) k13) h (fun o G1 hP => by
    obtain ⟨rfl, hT⟩ := hP
    exact hk G1 hT)) ?_
  refine RY_f hs.2.2.2.1 g2.2.2.2.1 f2 u2 ?_
  refine RY_b (fun a b G Q h => rk_14014_162 (fun q => absurd q (rg_n c2).1) (fun _ => h)) ?_
  refine RY_b (fun a b G Q h => rk_14014_166 h) ?_
  obtain ⟨v3, H3, g3, c3, f3, u3, r3⟩ := k_check hM (t := 3) (by decide) (d := d + 3) (by omega) g2
  have r3' : RV (d + 3) 12028 [some (.inl (Int32.ofInt (3)))] (.inl (some (.inl v3))) H2 H3 := r3
  refine RY_1 (pc' := 171) r3' (fun a b G Q T k13 h hk => rj_X_callP rfl rfl rfl (Nat.le_of_ble_eq_true rfl) (And.intro (Nat.le_of_ble_eq_true rfl) k13) h (fun o G1 hP => by
    obtain ⟨rfl, hT⟩ := hP
    exact hk G1 hT)) ?_
  refine RY_f g2.2.2.2.1 g3.2.2.2.1 f3 u3 ?_
  refine RY_b (fun a b G Q h => rk_14014_171 (fun q => absurd q (rg_n c3).2) (fun _ => h)) ?_
  refine RY_b (fun a b G Q h => rk_14014_176 h) ?_
  exact RY_e (fun a b G Q h => rk_14014_181 (Or.inr rfl) h) ⟨s, rfl, rfl, OB_m g3 (by omega)⟩
theorem e_51 (hM : mm_S Gm) (hd : 1200 ≤ d) (hX : TX s 0 ls) (hs : OB k s H) : RY (d + 4) 14014 51 (fun a b => [some (.inr (.inr a)), some (.inr (.inr b)), none, none, none]) (fun _ _ => []) H H (fun o H1' H2' => ∃ s', o = .inl (some (.inl (Int32.ofInt (1)))) ∧ H2' = H1' ∧ OB (k + 3000) s' H1') := by
  obtain ⟨p, r, L, A, H0, H1, g1, hpa, r1⟩ := k_tpl3 hM hX.1 hX.2.1 (t := 3) (by decide) (d := d + 2) (by omega) hs
  have r1' : RV (d + 2) 12004 [some (.inl (Int32.ofInt (3))), none, none] (oI (.inl (nI (ct (ls_w s) (ls_n s))))) H H1 := r1
  have hp0 : p = 0 := by
    rcases hpa.2 with q | ⟨q1, q2, -⟩
    · exact q.1
    · exfalso
      have hn : 0 < ls_n s := Nat.pos_of_ne_zero fun q => by
        have h0 := hs.1.2.1.2.2 0 (by omega)
        omega
      exact (ix_f (LT_at hX.1 (fun l hl => Or.inl (hX.2.1 l hl)) 0 (Nat.le_refl _) hn) q1).1 q2
  have hp : u_pa (ls_u (ls_p s 3 p r L A H0)) 3 = 0 := by
    show g_u (u_pa (ls_u s)) 3 p 3 = 0
    rw [g_us]
    exact hp0
  have t1 := dw_0 (x1 := Int32.ofInt (0)) (x3 := Int32.ofInt (0)) (x4 := Int32.ofInt (0)) (by decide +kernel) r1' (fun e q => by cases q)
  refine RY_b (fun a b G Q h => rk_14014_51 h) ?_
  refine RY_1 t1 (fun a b G Q T _ h hk => rc_14014_56 (R := fun v' G1 => nI (ct (ls_w s) (ls_n s)) = v' ∧ T G1) (rc_i h) (fun v' G1 hR => by
    obtain ⟨rfl, hT⟩ := hR
    exact hk G1 hT)) ?_
  refine RY_b (fun a b G Q h => rk_14014_59 h) ?_
  refine RY_2 t1 (fun a b G Q T _ h hk => rc_14014_64 (R := fun v' G1 => nI (ct (ls_w s) (ls_n s)) = v' ∧ T G1) (rc_i h) (fun v' G1 hR => by
    obtain ⟨rfl, hT⟩ := hR
    exact hk G1 hT)) ?_
  refine RY_b (fun a b G Q h => rk_14014_67 (fun q => absurd rfl q) (fun _ => h)) ?_
  refine RY_b (fun a b G Q h => rk_14014_70 h) ?_
  refine RY_b (fun a b G Q h => rk_14014_75 h) ?_
  obtain ⟨x1, e, o', st, ht, F, H2, g2, b2, c2, p2, r2⟩ := k_ren hM (t := 3) (by decide) (d := d + 2) (by omega) g1
  have r2' : RV (d + 2) 12016 [some (.inl (Int32.ofInt (3)))] (oI (.inl (if e = nI 0 then nI (o_n o') else e))) H1 H2 := r2
  have t2 := dw_6 (x1 := (Int8.ofInt (6)).toInt32) (x3 := Int32.ofInt (0)) (x4 := Int32.ofInt (0)) (by decide +kernel) r2' (fun e q => by cases q)
  refine RY_1 t2 (fun a b G Q T _ h hk => rc_14014_82 (R := fun v' G1 => (if e = nI 0 then nI (o_n o') else e) = v' ∧ T G1) (rc_i h) (fun v' G1 hR => by
    obtain ⟨rfl, hT⟩ := hR
    exact hk G1 hT)) ?_
  refine RY_b (fun a b G Q h => rk_14014_85 (fun q => absurd q (by decide +kernel)) (fun _ => h)) ?_
  refine RY_b (fun a b G Q h => rk_14014_91 h) ?_
  refine RY_2 t2 (fun a b G Q T _ h hk => rc_14014_97 (R := fun v' G1 => (if e = nI 0 then nI (o_n o') else e) = v' ∧ T G1) (rc_i h) (fun v' G1 hR => by
    obtain ⟨rfl, hT⟩ := hR
    exact hk G1 hT)) ?_
  refine RY_b (fun a b G Q h => rk_14014_100 (fun q => absurd rfl q) (fun _ => h)) ?_
  have fin : RY (d + 4) 14014 133 (fun a b => [some (.inr (.inr a)), none, none, none, none]) (fun _ _ => [.inl (Int32.ofInt (1))]) H2 H2 (fun o H1' H2' => ∃ s', o = .inl (some (.inl (Int32.ofInt (1)))) ∧ H2' = H1' ∧ OB (k + 3000) s' H1') := by
    refine RY_b (fun a b G Q h => rk_14014_133 (fun q => absurd q (by decide +kernel)) (fun _ => h)) ?_
    refine RY_m (e_138 hM hd g2) ?_
    rintro o G1 G2 ⟨s3, a1, a2, a3⟩
    exact ⟨s3, a1, a2, OB_m a3 (by omega)⟩
  obtain ⟨v, v8, vn, vE, r3⟩ := k_may (t := 3) (by decide) (d := d + 3) (by omega) g2
  have r3' : RV (d + 3) 12026 [some (.inl (Int32.ofInt (3))), none] (.inl (some (.inl v))) H2 H2 := r3
  have h300 : o_n (ls_o (ls_rr (ls_p s 3 p r L A H0) x1 e o' st ht F)) ≤ 300 := g2.1.2.2.2.1.1
  have hok := g2.1.2.2.2.1
  have hSF := g1.2.1.2.2.1
  by_cases q0 : e = nI 0
  · subst q0
    have h00 : nI 0 = nI 0 := rfl
    have eo : ls_o (ls_rr (ls_p s 3 p r L A H0) x1 (nI 0) o' st ht F) = o' := if_pos (e := o_z (ls_o (ls_p s 3 p r L A H0))) h00
    have hbt : bt v (cx o') := vE hp _ _ _ hSF p2
    rw [eo] at h300 hok
    have x8 := o_x8 hok (i := o_n o') (Nat.le_refl _)
    rw [if_pos h00]
    refine RY_b (fun a b G Q h => rk_14014_105 (fun q => absurd q (by rw [show (0 : Int32) = nI 0 from rfl, z_lt (by omega) (by decide)]; omega)) (fun _ => h)) ?_
    refine RY_b (fun a b G Q h => rk_14014_110 h) ?_
    refine RY_1 (pc' := 115) r3' (fun a b G Q T k13 h hk => rj_X_callP rfl rfl rfl (Nat.le_of_ble_eq_true rfl) (And.intro (Nat.le_of_ble_eq_true rfl) k13) h (fun o G1 hP => by
      obtain ⟨rfl, hT⟩ := hP
      exact hk G1 hT)) ?_
    refine RY_b (fun a b G Q h => rk_14014_115 h) ?_
    have r4 := k_ctx (x := o_n o') (by rw [eo]; exact Nat.le_refl _) (d := d + 3) (by omega) g2
    rw [eo] at r4
    refine RY_1 (pc' := 121) r4 (fun a b G Q T k13 h hk => rj_X_callP rfl rfl rfl (Nat.le_of_ble_eq_true rfl) (And.intro (Nat.le_of_ble_eq_true rfl) k13) h (fun o G1 hP => by
      obtain ⟨rfl, hT⟩ := hP
      exact hk G1 hT)) ?_
    have hb1 : (v >>> ((nI (o_x o' (o_n o'))) &&& 31)) &&& (Int32.ofInt (1)) = Int32.ofInt (1) := (bt_1r (S := v) (i := o_x o' (o_n o')) (by omega)).mpr hbt
    refine RY_b (fun a b G Q h => rk_14014_121 (fun q => absurd hb1 q) (fun _ => h)) ?_
    refine RY_b (fun a b G Q h => rk_14014_128 h) ?_
    exact fin
  · rw [if_neg q0]
    refine RY_b (fun a b G Q h => rk_14014_105 (fun _ => h) (fun q => absurd (er_neg c2 q0).1 q)) ?_
    refine RY_b (fun a b G Q h => rk_14014_128 h) ?_
    exact fin
theorem e_12 {k0 : Nat} (hM : mm_S Gm) (hd : 1200 ≤ d) : ∀ (m j k : Nat) (s : lst) (H : mj_G) (ls : List (List Nat)), j + m = 4 → k + 24 * m ≤ k0 → ls_n s + 18 * m ≤ 80 → TX s 0 ls → OB k s H → RY (d + 4) 14014 12 (fun a b => [some (.inr (.inr a)), some (.inr (.inr b)), some (.inl (v)), some (.inl (nI j)), none]) (fun _ _ => []) H H (fun o H1' H2' => ∃ s', o = .inl (some (.inl (Int32.ofInt (1)))) ∧ H2' = H1' ∧ OB (k0 + 3000) s' H1')
  | 0, j, k, s, H, ls, hj, hk, hn, hX, hs => by
    refine RY_b (fun a b G Q h => rk_14014_12 (fun _ => h) (fun q => absurd (by rw [show Int32.ofInt (4) = nI 4 from rfl, z_le (by decide) (by omega)]; omega) q)) ?_
    exact e_51 hM hd hX (OB_m hs (by omega))
  | m + 1, j, k, s, H, ls, hj, hk, hn, hX, hs => by
    refine RY_b (fun a b G Q h => rk_14014_12 (fun q => absurd q (by rw [show Int32.ofInt (4) = nI 4 from rfl, z_le (by decide) (by omega)]; omega)) (fun _ => h)) ?_
    refine RY_b (fun a b G Q h => rk_14014_17 h) ?_
    obtain ⟨i, hi, e⟩ := lo_25 (v >>> (((Int32.ofInt (3)) * (nI j)) &&& 31))
    obtain ⟨H1, h1, h2⟩ := t_pat hi hd hs
    have hl := lp_i hi
    have hlen := (lp_c hl).1
    obtain ⟨e1, -⟩ := TX_n (s := s) hl (by omega)
    refine RY_b (fun a b G Q h => rc_14014_25 (R := fun v' G1 => lo (v >>> (((Int32.ofInt (3)) * (nI j)) &&& 31)) ((Int8.ofInt (25)).toInt32) = v' ∧ G = G1) (q_low (by decide +kernel)) (fun v' G1 hR => by
      obtain ⟨rfl, rfl⟩ := hR
      rw [e]
      exact h)) ?_
    refine RY_1 h2 (fun a b G Q T _ h hk => rc_14014_28 h hk) ?_
    refine RY_b (fun a b G Q h => rk_14014_31 h) ?_
    refine RY_b (fun a b G Q h => rc_14014_39 (R := fun v' G1 => lo (v >>> (((Int32.ofInt (3)) * (nI j)) &&& 31)) ((Int8.ofInt (25)).toInt32) = v' ∧ G = G1) (q_low (by decide +kernel)) (fun v' G1 hR => by
      obtain ⟨rfl, rfl⟩ := hR
      rw [e]
      exact h)) ?_
    refine RY_2 h2 (fun a b G Q T _ h hk => rc_14014_42 h hk) ?_
    refine RY_b (fun a b G Q h => rk_14014_45 h) ?_
    rw [show nI j + Int32.ofInt (1) = nI (j + 1) from z_add j 1]
    exact e_12 hM hd m (j + 1) (k + 24) _ H1 _ (by omega) (by omega) (by rw [e1]; omega) (TX_p hX hl (by omega)) h1
theorem t_end (hM : mm_S Gm) (hd : 1200 ≤ d) (hs : OB k s H) : ∃ s' H', OB (k + 3100) s' H' ∧ RW (d + 4) 14014 [some (.inl v), none, none] (.inl (some (.inl (Int32.ofInt (1))))) H H H' H' := by
  have h : RY (d + 4) 14014 0 (fun a b => [some (.inr (.inr a)), some (.inr (.inr b)), some (.inl v), none, none]) (fun _ _ => []) H H (fun o H1' H2' => ∃ s', o = .inl (some (.inl (Int32.ofInt (1)))) ∧ H2' = H1' ∧ OB (k + 3100) s' H1') := by
    obtain ⟨s1, y1, H1, g1, ⟨e1, f1⟩, -, r1⟩ := k_wipe (d := d + 3) (by omega) hs
    rw [e1] at g1
    rw [f1] at r1
    refine RY_b (fun a b G Q h => rk_14014_0 h) ?_
    refine RY_1 r1 (fun a b G Q T k13 h hk => rc_14014_1 (R := fun v' G1 => nI (ls_n s) = v' ∧ T G1) k13 (rc_i h) (fun v' G1 hR => by
      obtain ⟨rfl, hT⟩ := hR
      exact hk G1 hT)) ?_
    refine RY_b (fun a b G Q h => rk_14014_4 h) ?_
    refine RY_2 r1 (fun a b G Q T k13 h hk => rc_14014_6 (R := fun v' G1 => nI (ls_n s) = v' ∧ T G1) k13 (rc_i h) (fun v' G1 hR => by
      obtain ⟨rfl, hT⟩ := hR
      exact hk G1 hT)) ?_
    refine RY_b (fun a b G Q h => rk_14014_9 h) ?_
    have hX0 : TX (ls_z s 0 (fun _ => 0) (ls_k s)) 0 [] := ⟨rfl, fun l hl => absurd hl List.not_mem_nil, Or.inl rfl⟩
    exact e_12 (k0 := k + 100) hM hd 4 0 (k + 1) _ H1 [] (by decide) (by omega) (by show 0 + 18 * 4 ≤ 80; decide) hX0 g1
  obtain ⟨o, H', H2', ⟨s', rfl, rfl, h1⟩, h2⟩ := h
  exact ⟨s', _, h1, h2⟩
end H0B
