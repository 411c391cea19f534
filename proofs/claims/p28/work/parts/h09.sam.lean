/-! RENDERED TWICE (wip/p28/genh09.py) -/
section H09
variable {s : lst} {H H1 H' Gm : mj_G} {d k t : Nat}
theorem er_neg {e : Int32} (he : er e) (h0 : ¬ e = nI 0) : e < (0 : Int32) ∧ ¬ (Int16.ofInt (300)).toInt32 < e := by
  rcases he with rfl | rfl | rfl | rfl | rfl | rfl | rfl | rfl | rfl | rfl
  · exact absurd rfl h0
  · decide +kernel
  · decide +kernel
  · decide +kernel
  · decide +kernel
  · decide +kernel
  · decide +kernel
  · decide +kernel
  · decide +kernel
  · decide +kernel
theorem s_56 (hM : mm_S Gm) (ht : t < 10) (hd : 1200 ≤ d) (hs : OB k s H) : RX (d + 3) 14012 56 (fun a => [some (.inr (.inr a)), some (.inl (nI t)), none, none, none, none, none]) (fun _ => []) H (fun o H' => ∃ s', o = .inl (some (.inl (Int32.ofInt (1)))) ∧ OB (k + 3) s' H') := by
  have hbu : 1 ≤ u_bu (ls_u s) ∧ u_bu (ls_u s) ≤ 2000 := ⟨hs.2.1.2.2.2.2.2, hs.1.1.2.1⟩
  refine RX_b (fun a G Q _ h => rk_14012_56 h) ?_
  refine RX_b (fun a G Q _ h => rk_14012_61 h) ?_
  obtain ⟨s1, y1, H1, g1, ⟨-, f1⟩, -, r1⟩ := k_budget (x := Int32.ofInt (1)) (d := d + 2) (by omega) hs
  obtain ⟨f1, f2⟩ := f1 1 (by decide) (by decide) rfl
  rw [f1] at g1
  rw [f2] at r1
  refine RX_c (pc' := 68) r1 (fun a G Q T k13 h hk => rj_X_callP rfl rfl rfl (Nat.le_of_ble_eq_true rfl) (And.intro (Nat.le_of_ble_eq_true rfl) k13) h (fun o G1 hP => by
    obtain ⟨rfl, hT⟩ := hP
    exact hk G1 hT)) ?_
  refine RX_b (fun a G Q _ h => rk_14012_68 h) ?_
  obtain ⟨x2, e2, o2, st2, ht2, F2, H2, g2, b2, c2, p2, r2⟩ := k_ren hM ht (d := d + 1) (by omega) g1
  have t2 := dw_6 (x1 := (Int8.ofInt (6)).toInt32) (x3 := Int32.ofInt (0)) (x4 := Int32.ofInt (0)) (res := .inl (if e2 = nI 0 then nI (o_n o2) else e2)) (by decide +kernel) r2 (fun e q => by cases q)
  refine RX_c t2 (fun a G Q T _ h hk => rc_14012_76 (R := fun v' G1 => (if e2 = nI 0 then nI (o_n o2) else e2) = v' ∧ T G1) (rc_i h) (fun v' G1 hR => by
    obtain ⟨rfl, hT⟩ := hR
    exact hk G1 hT)) ?_
  refine RX_b (fun a G Q _ h => rk_14012_79 (fun q => absurd q (by decide +kernel)) (fun _ => h)) ?_
  refine RX_b (fun a G Q _ h => rk_14012_86 h) ?_
  obtain ⟨s3, y3, H3, g3, ⟨e3, f3⟩, -, r3⟩ := k_spent (d := d + 2) (by omega) g2
  rw [e3] at g3
  rw [f3] at r3
  refine RX_c r3 (fun a G Q T k13 h hk => rc_14012_87 (R := fun v' G1 => nI st2 = v' ∧ T G1) k13 (rc_i h) (fun v' G1 hR => by
    obtain ⟨rfl, hT⟩ := hR
    exact hk G1 hT)) ?_
  have hst : st2 ≤ 1 := b2
  refine RX_b (fun a G Q _ h => rk_14012_90 (fun q => absurd q (by rw [show Int32.ofInt (1) = nI 1 from rfl, z_lt (by decide) (by omega)]; omega)) (fun _ => h)) ?_
  have h300 : o_n (ls_o (ls_rr (ls_e s 1) x2 e2 o2 st2 ht2 F2)) ≤ 300 := g2.1.2.2.2.1.1
  have c3 : ¬ (Int16.ofInt (300)).toInt32 < (if e2 = nI 0 then nI (o_n o2) else e2) := by
    by_cases q0 : e2 = nI 0
    · have e4 : ls_o (ls_rr (ls_e s 1) x2 e2 o2 st2 ht2 F2) = o2 := if_pos q0
      rw [e4] at h300
      rw [if_pos q0, show (Int16.ofInt (300)).toInt32 = nI 300 by decide +kernel, z_lt (by decide) (by omega)]
      omega
    · rw [if_neg q0]
      exact (er_neg c2 q0).2
  refine RX_b (fun a G Q _ h => rk_14012_94 (fun q => absurd q c3) (fun _ => h)) ?_
  refine RX_b (fun a G Q _ h => rk_14012_102 h) ?_
  obtain ⟨s5, y5, H5, g5, ⟨-, f5⟩, -, r5⟩ := k_budget (x := nI (u_bu (ls_u s))) (d := d + 2) (by omega) g3
  obtain ⟨f5, f6⟩ := f5 (u_bu (ls_u s)) hbu.1 hbu.2 rfl
  rw [f5] at g5
  rw [f6] at r5
  refine RX_c (pc' := 108) r5 (fun a G Q T k13 h hk => rj_X_callP rfl rfl rfl (Nat.le_of_ble_eq_true rfl) (And.intro (Nat.le_of_ble_eq_true rfl) k13) h (fun o G1 hP => by
    obtain ⟨rfl, hT⟩ := hP
    exact hk G1 hT)) ?_
  refine RX_b (fun a G Q _ h => rk_14012_108 (fun q => absurd rfl q) (fun _ => h)) ?_
  refine RX_b (fun a G Q _ h => rk_14012_112 h) ?_
  exact RX_e (fun a G Q h => rk_14012_117 (Or.inr rfl) h) ⟨_, rfl, OB_m g5 (by omega)⟩
theorem m_9 {e : Int32} {n : Nat} (hn : e = nI 0 → n ≤ 300) (h9 : ¬ e = Int32.ofInt (-9)) : ¬ (if e = nI 0 then nI n else e) = (Int8.ofInt (-9)).toInt32 := by
  by_cases q0 : e = nI 0
  · rw [if_pos q0]
    have h3 := hn q0
    intro q
    have h4 : nI n < nI 0 := by
      rw [q]
      decide +kernel
    rw [z_lt (by omega) (by decide)] at h4
    omega
  · rw [if_neg q0]
    intro q
    exact h9 (q.trans (by decide +kernel))
theorem t_same (hM : mm_S Gm) (ht : t < 10) (hd : 1200 ≤ d) (hs : OB k s H) : ∃ s' H', OB (k + 10) s' H' ∧ RV (d + 3) 14012 [some (.inl (nI t)), none, none, none, none, none] (.inl (some (.inl (Int32.ofInt (1))))) H H' := by
  have h : RX (d + 3) 14012 0 (fun a => [some (.inr (.inr a)), some (.inl (nI t)), none, none, none, none, none]) (fun _ => []) H (fun o H' => ∃ s', o = .inl (some (.inl (Int32.ofInt (1)))) ∧ OB (k + 10) s' H') := by
    refine RX_b (fun a G Q _ h => rk_14012_0 h) ?_
    obtain ⟨x1, e1, o1, st1, ht1, F1, H1, g1, b1, c1, p1, r1⟩ := k_ren hM ht (d := d + 1) (by omega) hs
    have t1 := dw_6 (x1 := (Int8.ofInt (6)).toInt32) (x3 := Int32.ofInt (0)) (x4 := Int32.ofInt (0)) (res := .inl (if e1 = nI 0 then nI (o_n o1) else e1)) (by decide +kernel) r1 (fun e q => by cases q)
    refine RX_c t1 (fun a G Q T _ h hk => rc_14012_6 (R := fun v' G1 => (if e1 = nI 0 then nI (o_n o1) else e1) = v' ∧ T G1) (rc_i h) (fun v' G1 hR => by
      obtain ⟨rfl, hT⟩ := hR
      exact hk G1 hT)) ?_
    refine RX_b (fun a G Q _ h => rk_14012_9 h) ?_
    obtain ⟨x2, e2, o2, st2, ht2, F2, H2, g2, b2, c2, p2, r2⟩ := k_ren hM ht (d := d + 1) (by omega) g1
    have t2 := dw_6 (x1 := (Int8.ofInt (6)).toInt32) (x3 := Int32.ofInt (0)) (x4 := Int32.ofInt (0)) (res := .inl (if e2 = nI 0 then nI (o_n o2) else e2)) (by decide +kernel) r2 (fun e q => by cases q)
    refine RX_c t2 (fun a G Q T _ h hk => rc_14012_16 (R := fun v' G1 => (if e2 = nI 0 then nI (o_n o2) else e2) = v' ∧ T G1) (rc_i h) (fun v' G1 hR => by
      obtain ⟨rfl, hT⟩ := hR
      exact hk G1 hT)) ?_
    have fin : ∀ (k2 : Nat) (H9 : mj_G), k2 ≤ k + 2 → OB k2 (ls_rr (ls_rr s x1 e1 o1 st1 ht1 F1) x2 e2 o2 st2 ht2 F2) H9 → RX (d + 3) 14012 56 (fun a => [some (.inr (.inr a)), some (.inl (nI t)), none, none, none, none, none]) (fun _ => []) H9 (fun o H' => ∃ s', o = .inl (some (.inl (Int32.ofInt (1)))) ∧ OB (k + 10) s' H') := fun k2 H9 hk2 hs2 => by
      refine RX_m (s_56 hM ht hd hs2) ?_
      rintro o G ⟨s3, a1, a2⟩
      exact ⟨s3, a1, OB_m a2 (by omega)⟩
    have h301 : o_n (ls_o (ls_rr s x1 e1 o1 st1 ht1 F1)) ≤ 300 := g1.1.2.2.2.1.1
    have h302 : o_n (ls_o (ls_rr (ls_rr s x1 e1 o1 st1 ht1 F1) x2 e2 o2 st2 ht2 F2)) ≤ 300 := g2.1.2.2.2.1.1
    have n1 : e1 = nI 0 → o_n o1 ≤ 300 := fun q => by
      have e4 : ls_o (ls_rr s x1 e1 o1 st1 ht1 F1) = o1 := if_pos q
      rw [e4] at h301
      exact h301
    have n2 : e2 = nI 0 → o_n o2 ≤ 300 := fun q => by
      have e4 : ls_o (ls_rr (ls_rr s x1 e1 o1 st1 ht1 F1) x2 e2 o2 st2 ht2 F2) = o2 := if_pos q
      rw [e4] at h302
      exact h302
    by_cases q1 : e1 = Int32.ofInt (-9)
    · have w1 : (if e1 = nI 0 then nI (o_n o1) else e1) = (Int8.ofInt (-9)).toInt32 := by
        rw [q1]
        exact (if_neg (by decide +kernel)).trans (by decide +kernel)
      refine RX_b (fun a G Q _ h => rk_14012_19 (fun _ => h) (fun q => absurd w1 q)) ?_
      exact fin k _ (by omega) g2
    refine RX_b (fun a G Q _ h => rk_14012_19 (fun q => absurd q (m_9 n1 q1)) (fun _ => h)) ?_
    by_cases q2 : e2 = Int32.ofInt (-9)
    · have w1 : (if e2 = nI 0 then nI (o_n o2) else e2) = (Int8.ofInt (-9)).toInt32 := by
        rw [q2]
        exact (if_neg (by decide +kernel)).trans (by decide +kernel)
      refine RX_b (fun a G Q _ h => rk_14012_26 (fun _ => h) (fun q => absurd w1 q)) ?_
      exact fin k _ (by omega) g2
    refine RX_b (fun a G Q _ h => rk_14012_26 (fun q => absurd q (m_9 n2 q2)) (fun _ => h)) ?_
    obtain ⟨bb, hNW, hb⟩ := NW_of (u := ls_u (ls_rr s x1 e1 o1 st1 ht1 F1)) g1.1.1 g1.2.1.1
    have p2' : RR (ls_u (ls_rr s x1 e1 o1 st1 ht1 F1)) t F1 e2 o2 F2 := RR_wo p2
    obtain ⟨z1, z2⟩ := RR_two hNW (fun j _ => hb j) ht (hb t) hs.2.1.2.2.1 g1.2.1.2.2.1 p1 p2' q1 q2
    have w2 : (if e2 = nI 0 then nI (o_n o2) else e2) = (if e1 = nI 0 then nI (o_n o1) else e1) := by
      rw [← z1]
      by_cases q0 : e1 = nI 0
      · rw [if_pos q0, if_pos q0, z2 q0]
      · rw [if_neg q0, if_neg q0]
    refine RX_b (fun a G Q _ h => rk_14012_32 (fun q => absurd w2 q) (fun _ => h)) ?_
    by_cases q0 : e1 = nI 0
    · rw [if_pos q0]
      have n1' := n1 q0
      refine RX_b (fun a G Q _ h => rk_14012_37 (fun q => absurd q (by rw [show (0 : Int32) = nI 0 from rfl, z_lt (by omega) (by decide)]; omega)) (fun _ => h)) ?_
      refine RX_b (fun a G Q _ h => rk_14012_41 h) ?_
      have eo : ls_o (ls_rr (ls_rr s x1 e1 o1 st1 ht1 F1) x2 e2 o2 st2 ht2 F2) = o1 := (if_pos (z1 ▸ q0)).trans (z2 q0).symm
      have es : ls_o (ls_rr s x1 e1 o1 st1 ht1 F1) = o1 := if_pos q0
      have eb : ls_b (ls_rr (ls_rr s x1 e1 o1 st1 ht1 F1) x2 e2 o2 st2 ht2 F2) = o_n o1 := by
        show o_n (ls_o (ls_rr s x1 e1 o1 st1 ht1 F1)) = o_n o1
        rw [es]
      have ec : ls_c (ls_rr (ls_rr s x1 e1 o1 st1 ht1 F1) x2 e2 o2 st2 ht2 F2) = o_c o1 := by
        show o_c (ls_o (ls_rr s x1 e1 o1 st1 ht1 F1)) = o_c o1
        rw [es]
      have em : mn2 (o_n o1) (o_n o1) = o_n o1 := by
        have := mn2_le (a := o_n o1) (b := o_n o1)
        omega
      have ea : ak (o_c o1) (o_c o1) (o_n o1) (o_n o1) 0 = o_n o1 := ak_all (fun _ _ => rfl) _ _ (by omega)
      obtain ⟨s3, y3, H3, g3, ⟨e3, f3⟩, -, r3⟩ := k_alike (d := d + 2) (by omega) g2
      rw [e3] at g3
      rw [f3, eo, eb, ec, em, ea] at r3
      refine RX_c r3 (fun a G Q T k13 h hk => rc_14012_42 (R := fun v' G1 => nI (o_n o1) = v' ∧ T G1) k13 (rc_i h) (fun v' G1 hR => by
        obtain ⟨rfl, hT⟩ := hR
        exact hk G1 hT)) ?_
      refine RX_b (fun a G Q _ h => rk_14012_45 (fun q => absurd rfl q) (fun _ => h)) ?_
      refine RX_b (fun a G Q _ h => rk_14012_49 h) ?_
      obtain ⟨s4, y4, H4, g4, ⟨e4, f4⟩, -, r4⟩ := k_alikeAtEnd (d := d + 2) (by omega) g3
      rw [e4] at g4
      rw [f4, eo, eb, ec, em, ea, Nat.sub_self] at r4
      refine RX_c r4 (fun a G Q T k13 h hk => rc_14012_50 (R := fun v' G1 => nI 0 = v' ∧ T G1) k13 (rc_i h) (fun v' G1 hR => by
        obtain ⟨rfl, hT⟩ := hR
        exact hk G1 hT)) ?_
      refine RX_b (fun a G Q _ h => rk_14012_53 (fun q => absurd rfl q) (fun _ => h)) ?_
      exact fin (k + 1 + 1) _ (by omega) g4
    · rw [if_neg q0]
      refine RX_b (fun a G Q _ h => rk_14012_37 (fun _ => h) (fun q => absurd (er_neg c1 q0).1 q)) ?_
      exact fin k _ (by omega) g2
  obtain ⟨o, H', ⟨s', rfl, h1⟩, h2⟩ := RX_v h
  exact ⟨s', H', h1, h2⟩
end H09
