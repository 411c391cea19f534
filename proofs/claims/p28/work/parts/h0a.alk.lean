/-! BOTH OBJECTS ARE ALIKE (wip/p28/genh0a.py) -/
def RY (d mi pc : Nat) (ls : Nat → Nat → List (Option mj_V)) (st : Nat → Nat → List mj_V) (H1 H2 : mj_G) (P : mj_O → mj_G → mj_G → Prop) : Prop := ∃ o H1' H2', P o H1' H2' ∧ ∀ K a b G Q, TW K H1 H2 a b G → (∀ G', TW K H1' H2' a b G' → Q o G') → rj_X d mi pc (ls a b) (st a b) G Q
/-- a method of the law on both objects -/
def RW (d mi : Nat) (as : List (Option mj_V)) (o : mj_O) (H1 H2 H1' H2' : mj_G) : Prop := ∀ K a b G Q, TW K H1 H2 a b G → (∀ G', TW K H1' H2' a b G' → Q o G') → rj_X d mi 0 (some (.inr (.inr a)) :: some (.inr (.inr b)) :: as) [] G Q
section H0A
variable {s : lst} {H H1 H2 H3 H' Gm : mj_G} {d k t mi mt pc pc' : Nat} {ls ls' : Nat → Nat → List (Option mj_V)} {st st' : Nat → Nat → List mj_V} {as : List (Option mj_V)} {o1 : mj_O} {P : mj_O → mj_G → mj_G → Prop}
theorem RY_b (h : ∀ a b G Q, rj_X d mi pc' (ls' a b) (st' a b) G Q → rj_X d mi pc (ls a b) (st a b) G Q) (hr : RY d mi pc' ls' st' H1 H2 P) : RY d mi pc ls st H1 H2 P := by
  obtain ⟨o, H1', H2', hP, hr⟩ := hr
  exact ⟨o, H1', H2', hP, fun K a b G Q hT hQ => h a b G Q (hr K a b G Q hT hQ)⟩
theorem RY_e {o : mj_O} (h : ∀ a b G (Q : mj_O → mj_G → Prop), Q o G → rj_X d mi pc (ls a b) (st a b) G Q) (hP : P o H1 H2) : RY d mi pc ls st H1 H2 P := ⟨o, H1, H2, hP, fun K a b G Q hT hQ => h a b G Q (hQ G hT)⟩
theorem RY_1 {H1' : mj_G} (hr : RV d mt as o1 H1 H1') (h : ∀ a b G Q (T : mj_G → Prop), mj_k G a = 13 → rj_X d mt 0 (some (.inr (.inr a)) :: as) [] G (fun o G1 => o = o1 ∧ T G1) → (∀ G1, T G1 → rj_X (d + 1) mi pc' (ls' a b) (st' a b) G1 Q) → rj_X (d + 1) mi pc (ls a b) (st a b) G Q) (hn : RY (d + 1) mi pc' ls' st' H1' H2 P) : RY (d + 1) mi pc ls st H1 H2 P := by
  obtain ⟨o, H1'', H2', hP, hn⟩ := hn
  exact ⟨o, H1'', H2', hP, fun K a b G Q hT hQ => h a b G Q (fun G1 => TW K H1' H2 a b G1) (TW_k hT) (RV_1 hr hT fun G1 hT1 => ⟨rfl, hT1⟩) fun G1 hT1 => hn K a b G1 Q hT1 hQ⟩
theorem RY_2 {H2' : mj_G} (hr : RV d mt as o1 H2 H2') (h : ∀ a b G Q (T : mj_G → Prop), mj_k G b = 13 → rj_X d mt 0 (some (.inr (.inr b)) :: as) [] G (fun o G1 => o = o1 ∧ T G1) → (∀ G1, T G1 → rj_X (d + 1) mi pc' (ls' a b) (st' a b) G1 Q) → rj_X (d + 1) mi pc (ls a b) (st a b) G Q) (hn : RY (d + 1) mi pc' ls' st' H1 H2' P) : RY (d + 1) mi pc ls st H1 H2 P := by
  obtain ⟨o, H1', H2'', hP, hn⟩ := hn
  exact ⟨o, H1', H2'', hP, fun K a b G Q hT hQ => h a b G Q (fun G1 => TW K H1 H2' a b G1) (TW_k (TW_s hT)) (RV_2 hr hT fun G1 hT1 => ⟨rfl, hT1⟩) fun G1 hT1 => hn K a b G1 Q hT1 hQ⟩
theorem RY_m {P' : mj_O → mj_G → mj_G → Prop} (h : RY d mi pc ls st H1 H2 P) (hP : ∀ o G1 G2, P o G1 G2 → P' o G1 G2) : RY d mi pc ls st H1 H2 P' := by
  obtain ⟨o, H1', H2', h1, h2⟩ := h
  exact ⟨o, H1', H2', hP _ _ _ h1, h2⟩
/-- the second one takes up what the first one's calls left behind -/
theorem RY_f (hJ : jw_J H2) (hJ' : jw_J H1) (F : fn_F H2 H1) (hu : mj_u H2 ≤ mj_u H1) (hn : RY d mi pc ls st H1 H1 P) : RY d mi pc ls st H1 H2 P := by
  obtain ⟨o, H1', H2', hP, hn⟩ := hn
  exact ⟨o, H1', H2', hP, fun K a b G Q hT hQ => hn K a b G Q (TW_ff hT hJ hJ' F hu) hQ⟩
theorem nn_ne {n : Nat} {x : Int32} (hn : n < 2 ^ 31) (hx : x < nI 0) : ¬ nI n = x := fun q => by
  rw [← q, z_lt hn (by decide)] at hx
  omega
theorem l_158 (hM : mm_S Gm) (hd : 1200 ≤ d) : ∀ (m j k : Nat) (H : mj_G), j + m = 4 → OB k s H → RY (d + 3) 14013 158 (fun a b => [some (.inr (.inr a)), some (.inr (.inr b)), some (.inl (Int32.ofInt (1))), none, some (.inl (nI j))]) (fun _ _ => []) H H (fun o H1' H2' => o = .inl (some (.inl (Int32.ofInt (1)))) ∧ H2' = H1' ∧ OB (k + 1000 * m) s H1')
  | 0, j, k, H, hj, hs => by
    refine RY_b (fun a b G Q h => rk_14013_158 (fun _ => h) (fun q => absurd (by rw [show Int32.ofInt (4) = nI 4 from rfl, z_le (by decide) (by omega)]; omega) q)) ?_
    exact RY_e (fun a b G Q h => rk_14013_210 (Or.inr rfl) h) ⟨rfl, rfl, hs⟩
  | m + 1, j, k, H, hj, hs => by
    refine RY_b (fun a b G Q h => rk_14013_158 (fun q => absurd q (by rw [show Int32.ofInt (4) = nI 4 from rfl, z_le (by decide) (by omega)]; omega)) (fun _ => h)) ?_
    refine RY_b (fun a b G Q h => rk_14013_164 (fun q => absurd q (by decide +kernel)) (fun _ => h)) ?_
    refine RY_b (fun a b G Q h => rk_14013_168 h) ?_
    obtain ⟨v1, -, -, -, r1⟩ := k_may (t := j) (by omega) (d := d + 2) (by omega) hs
    refine RY_1 (pc' := 174) r1 (fun a b G Q T k13 h hk => rj_X_callP rfl rfl rfl (Nat.le_of_ble_eq_true rfl) (And.intro (Nat.le_of_ble_eq_true rfl) k13) h (fun o G1 hP => by
      obtain ⟨rfl, hT⟩ := hP
      exact hk G1 hT)) ?_
    refine RY_b (fun a b G Q h => rk_14013_174 h) ?_
    refine RY_2 (pc' := 180) r1 (fun a b G Q T k13 h hk => rj_X_callP rfl rfl rfl (Nat.le_of_ble_eq_true rfl) (And.intro (Nat.le_of_ble_eq_true rfl) k13) h (fun o G1 hP => by
      obtain ⟨rfl, hT⟩ := hP
      exact hk G1 hT)) ?_
    refine RY_b (fun a b G Q h => rk_14013_180 (fun q => absurd rfl q) (fun _ => h)) ?_
    refine RY_b (fun a b G Q h => rk_14013_183 h) ?_
    obtain ⟨v2, H', g2, -, -, -, r2⟩ := k_check hM (t := j) (by omega) (d := d + 2) (by omega) hs
    refine RY_1 (pc' := 189) r2 (fun a b G Q T k13 h hk => rj_X_callP rfl rfl rfl (Nat.le_of_ble_eq_true rfl) (And.intro (Nat.le_of_ble_eq_true rfl) k13) h (fun o G1 hP => by
      obtain ⟨rfl, hT⟩ := hP
      exact hk G1 hT)) ?_
    refine RY_b (fun a b G Q h => rk_14013_189 h) ?_
    refine RY_2 (pc' := 195) r2 (fun a b G Q T k13 h hk => rj_X_callP rfl rfl rfl (Nat.le_of_ble_eq_true rfl) (And.intro (Nat.le_of_ble_eq_true rfl) k13) h (fun o G1 hP => by
      obtain ⟨rfl, hT⟩ := hP
      exact hk G1 hT)) ?_
    refine RY_b (fun a b G Q h => rk_14013_195 (fun q => absurd rfl q) (fun _ => h)) ?_
    refine RY_b (fun a b G Q h => rk_14013_198 h) ?_
    refine RY_b (fun a b G Q h => rk_14013_203 h) ?_
    rw [show nI j + Int32.ofInt (1) = nI (j + 1) from z_add j 1]
    refine RY_m (l_158 hM hd m (j + 1) (k + 1000) H' (by omega) g2) ?_
    rintro o G1 G2 ⟨a1, a2, a3⟩
    exact ⟨a1, a2, OB_m a3 (by omega)⟩
theorem l_155 (hM : mm_S Gm) (hd : 1200 ≤ d) (hs : OB k s H) : RY (d + 3) 14013 155 (fun a b => [some (.inr (.inr a)), some (.inr (.inr b)), some (.inl (Int32.ofInt (1))), none, none]) (fun _ _ => []) H H (fun o H1' H2' => o = .inl (some (.inl (Int32.ofInt (1)))) ∧ H2' = H1' ∧ OB (k + 4000) s H1') := by
  refine RY_b (fun a b G Q h => rk_14013_155 h) ?_
  exact l_158 hM hd 4 0 k H (by omega) hs
theorem l_77 (hM : mm_S Gm) (hd : 1200 ≤ d) (hs : OB k s H) : ∀ (m j c : Nat), j + m = o_n (ls_o s) → c < 2 ^ 31 → RY (d + 3) 14013 77 (fun a b => [some (.inr (.inr a)), some (.inr (.inr b)), some (.inl (Int32.ofInt (1))), some (.inl (nI c)), some (.inl (nI j))]) (fun _ _ => []) H H (fun o H1' H2' => o = .inl (some (.inl (Int32.ofInt (1)))) ∧ H2' = H1' ∧ OB (k + 4002) s H1')
  | 0, j, c, hj, hc => by
    have h300 : o_n (ls_o s) ≤ 300 := hs.1.2.2.2.1.1
    have ej : j = o_n (ls_o s) := by omega
    subst ej
    by_cases q3 : 300 ≤ o_n (ls_o s)
    · have w3 : (Int16.ofInt (300)).toInt32 ≤ nI (o_n (ls_o s)) := by
        rw [show (Int16.ofInt (300)).toInt32 = nI 300 by decide +kernel, z_le (by decide) (by omega)]
        exact q3
      refine RY_b (fun a b G Q h => rk_14013_77 (fun _ => h) (fun q => absurd w3 q)) ?_
      refine RY_m (l_155 hM hd hs) ?_
      rintro o G1 G2 ⟨a1, a2, a3⟩
      exact ⟨a1, a2, OB_m a3 (by omega)⟩
    refine RY_b (fun a b G Q h => rk_14013_77 (fun q => absurd q (by rw [show (Int16.ofInt (300)).toInt32 = nI 300 by decide +kernel, z_le (by decide) (by omega)]; exact q3)) (fun _ => h)) ?_
    refine RY_b (fun a b G Q h => rk_14013_85 (fun q => absurd q (by decide +kernel)) (fun _ => h)) ?_
    refine RY_b (fun a b G Q h => rk_14013_89 (fun q => absurd q (nn_ne hc (by decide +kernel))) (fun _ => h)) ?_
    refine RY_b (fun a b G Q h => rk_14013_95 h) ?_
    obtain ⟨s1, y1, H1, g1, ⟨e1, -, f1⟩, u1, r1⟩ := k_out (x := nI (o_n (ls_o s))) (d := d + 1) (by omega) hs
    rw [e1] at g1
    rw [f1 _ (Nat.le_refl _) (by omega) rfl] at r1
    have t1 := dw_7 (x1 := (Int8.ofInt (7)).toInt32) (x3 := Int32.ofInt (0)) (x4 := Int32.ofInt (0)) (by decide +kernel) r1 (fun e q => by cases q; exact Or.inr (Or.inr rfl))
    refine RY_1 t1 (fun a b G Q T _ h hk => rc_14013_102 (R := fun v' G1 => (-9999999 : Int32) = v' ∧ T G1) (rc_i h) (fun v' G1 hR => by
      obtain ⟨rfl, hT⟩ := hR
      exact hk G1 hT)) ?_
    refine RY_b (fun a b G Q h => rk_14013_105 h) ?_
    refine RY_2 t1 (fun a b G Q T _ h hk => rc_14013_113 (R := fun v' G1 => (-9999999 : Int32) = v' ∧ T G1) (rc_i h) (fun v' G1 hR => by
      obtain ⟨rfl, hT⟩ := hR
      exact hk G1 hT)) ?_
    refine RY_b (fun a b G Q h => rk_14013_116 (fun q => absurd rfl q) (fun _ => h)) ?_
    refine RY_b (fun a b G Q h => rk_14013_120 h) ?_
    obtain ⟨s2, y2, H2, g2, ⟨e2, -, f2⟩, u2, r2⟩ := k_source (x := nI (o_n (ls_o s))) (d := d + 1) (by omega) g1
    rw [e2] at g2
    rw [f2 _ (Nat.le_refl _) (by omega) rfl] at r2
    have t2 := dw_9 (x1 := (Int8.ofInt (9)).toInt32) (x3 := Int32.ofInt (0)) (x4 := Int32.ofInt (0)) (by decide +kernel) r2 (fun e q => by cases q; exact Or.inr (Or.inr rfl))
    refine RY_1 t2 (fun a b G Q T _ h hk => rc_14013_127 (R := fun v' G1 => (-9999999 : Int32) = v' ∧ T G1) (rc_i h) (fun v' G1 hR => by
      obtain ⟨rfl, hT⟩ := hR
      exact hk G1 hT)) ?_
    refine RY_b (fun a b G Q h => rk_14013_130 h) ?_
    refine RY_2 t2 (fun a b G Q T _ h hk => rc_14013_137 (R := fun v' G1 => (-9999999 : Int32) = v' ∧ T G1) (rc_i h) (fun v' G1 hR => by
      obtain ⟨rfl, hT⟩ := hR
      exact hk G1 hT)) ?_
    refine RY_b (fun a b G Q h => rk_14013_140 (fun q => absurd rfl q) (fun _ => h)) ?_
    refine RY_b (fun a b G Q h => rk_14013_143 h) ?_
    refine RY_b (fun a b G Q h => rk_14013_148 h) ?_
    rw [show nI (o_n (ls_o s)) + Int32.ofInt (1) = nI (o_n (ls_o s) + 1) from z_add _ 1]
    have fin : RY (d + 3) 14013 155 (fun a b => [some (.inr (.inr a)), some (.inr (.inr b)), some (.inl (Int32.ofInt (1))), none, none]) (fun _ _ => []) H2 H2 (fun o H1' H2' => o = .inl (some (.inl (Int32.ofInt (1)))) ∧ H2' = H1' ∧ OB (k + 4002) s H1') := by
      refine RY_m (l_155 hM hd g2) ?_
      rintro o G1 G2 ⟨a1, a2, a3⟩
      exact ⟨a1, a2, OB_m a3 (by omega)⟩
    by_cases q4 : 300 ≤ o_n (ls_o s) + 1
    · have w3 : (Int16.ofInt (300)).toInt32 ≤ nI (o_n (ls_o s) + 1) := by
        rw [show (Int16.ofInt (300)).toInt32 = nI 300 by decide +kernel, z_le (by decide) (by omega)]
        exact q4
      refine RY_b (fun a b G Q h => rk_14013_77 (fun _ => h) (fun q => absurd w3 q)) ?_
      exact fin
    refine RY_b (fun a b G Q h => rk_14013_77 (fun q => absurd q (by rw [show (Int16.ofInt (300)).toInt32 = nI 300 by decide +kernel, z_le (by decide) (by omega)]; exact q4)) (fun _ => h)) ?_
    refine RY_b (fun a b G Q h => rk_14013_85 (fun q => absurd q (by decide +kernel)) (fun _ => h)) ?_
    refine RY_b (fun a b G Q h => rk_14013_89 (fun _ => h) (fun q => absurd rfl q)) ?_
    exact fin
  | m + 1, j, c, hj, hc => by
    have h300 : o_n (ls_o s) ≤ 300 := hs.1.2.2.2.1.1
    have hjn : j < o_n (ls_o s) := by omega
    have hz := (hs.1.2.2.2.1.2.2 j hjn).1
    refine RY_b (fun a b G Q h => rk_14013_77 (fun q => absurd q (by rw [show (Int16.ofInt (300)).toInt32 = nI 300 by decide +kernel, z_le (by decide) (by omega)]; omega)) (fun _ => h)) ?_
    refine RY_b (fun a b G Q h => rk_14013_85 (fun q => absurd q (by decide +kernel)) (fun _ => h)) ?_
    refine RY_b (fun a b G Q h => rk_14013_89 (fun q => absurd q (nn_ne hc (by decide +kernel))) (fun _ => h)) ?_
    refine RY_b (fun a b G Q h => rk_14013_95 h) ?_
    have t1 := dw_7 (x1 := (Int8.ofInt (7)).toInt32) (x3 := Int32.ofInt (0)) (x4 := Int32.ofInt (0)) (res := .inl (nI (o_c (ls_o s) j % 128))) (by decide +kernel) (k_outv hjn (d := d + 1) (by omega) hs) (fun e q => by cases q)
    refine RY_1 t1 (fun a b G Q T _ h hk => rc_14013_102 (R := fun v' G1 => nI (o_c (ls_o s) j % 128) = v' ∧ T G1) (rc_i h) (fun v' G1 hR => by
      obtain ⟨rfl, hT⟩ := hR
      exact hk G1 hT)) ?_
    refine RY_b (fun a b G Q h => rk_14013_105 h) ?_
    refine RY_2 t1 (fun a b G Q T _ h hk => rc_14013_113 (R := fun v' G1 => nI (o_c (ls_o s) j % 128) = v' ∧ T G1) (rc_i h) (fun v' G1 hR => by
      obtain ⟨rfl, hT⟩ := hR
      exact hk G1 hT)) ?_
    refine RY_b (fun a b G Q h => rk_14013_116 (fun q => absurd rfl q) (fun _ => h)) ?_
    refine RY_b (fun a b G Q h => rk_14013_120 h) ?_
    have t2 := dw_9 (x1 := (Int8.ofInt (9)).toInt32) (x3 := Int32.ofInt (0)) (x4 := Int32.ofInt (0)) (res := .inl (nI (o_c (ls_o s) j / 262144))) (by decide +kernel) (k_srcv hjn (d := d + 1) (by omega) hs) (fun e q => by cases q)
    refine RY_1 t2 (fun a b G Q T _ h hk => rc_14013_127 (R := fun v' G1 => nI (o_c (ls_o s) j / 262144) = v' ∧ T G1) (rc_i h) (fun v' G1 hR => by
      obtain ⟨rfl, hT⟩ := hR
      exact hk G1 hT)) ?_
    refine RY_b (fun a b G Q h => rk_14013_130 h) ?_
    refine RY_2 t2 (fun a b G Q T _ h hk => rc_14013_137 (R := fun v' G1 => nI (o_c (ls_o s) j / 262144) = v' ∧ T G1) (rc_i h) (fun v' G1 hR => by
      obtain ⟨rfl, hT⟩ := hR
      exact hk G1 hT)) ?_
    refine RY_b (fun a b G Q h => rk_14013_140 (fun q => absurd rfl q) (fun _ => h)) ?_
    refine RY_b (fun a b G Q h => rk_14013_143 h) ?_
    refine RY_b (fun a b G Q h => rk_14013_148 h) ?_
    rw [show nI j + Int32.ofInt (1) = nI (j + 1) from z_add j 1]
    exact l_77 hM hd hs m (j + 1) (o_c (ls_o s) j % 128) (by omega) (by omega)
theorem t_alike (hM : mm_S Gm) (hd : 1200 ≤ d) (hs : OB k s H) : ∃ H', OB (k + 5010) s H' ∧ RW (d + 3) 14013 [none, none, none] (.inl (some (.inl (Int32.ofInt (1))))) H H H' H' := by
  have h : RY (d + 3) 14013 0 (fun a b => [some (.inr (.inr a)), some (.inr (.inr b)), none, none, none]) (fun _ _ => []) H H (fun o H1' H2' => o = .inl (some (.inl (Int32.ofInt (1)))) ∧ H2' = H1' ∧ OB (k + 5010) s H1') := by
    refine RY_b (fun a b G Q h => rk_14013_0 h) ?_
    obtain ⟨s1, y1, H1, g1, ⟨e1, f1⟩, -, r1⟩ := k_spent (d := d + 2) (by omega) hs
    obtain ⟨v1, f1⟩ : ∃ v, y1 = .inl v := ⟨_, f1⟩
    rw [e1] at g1
    rw [f1] at r1
    refine RY_1 r1 (fun a b G Q T k13 h hk => rc_14013_1 (R := fun v' G1 => v1 = v' ∧ T G1) k13 (rc_i h) (fun v' G1 hR => by
      obtain ⟨rfl, hT⟩ := hR
      exact hk G1 hT)) ?_
    refine RY_b (fun a b G Q h => rk_14013_4 h) ?_
    refine RY_2 r1 (fun a b G Q T k13 h hk => rc_14013_5 (R := fun v' G1 => v1 = v' ∧ T G1) k13 (rc_i h) (fun v' G1 hR => by
      obtain ⟨rfl, hT⟩ := hR
      exact hk G1 hT)) ?_
    refine RY_b (fun a b G Q h => rk_14013_8 (fun q => absurd rfl q) (fun _ => h)) ?_
    refine RY_b (fun a b G Q h => rk_14013_11 h) ?_
    obtain ⟨s2, y2, H2, g2, ⟨e2, f2⟩, -, r2⟩ := k_hits (d := d + 2) (by omega) g1
    obtain ⟨v2, f2⟩ : ∃ v, y2 = .inl v := ⟨_, f2⟩
    rw [e2] at g2
    rw [f2] at r2
    refine RY_1 r2 (fun a b G Q T k13 h hk => rc_14013_12 (R := fun v' G1 => v2 = v' ∧ T G1) k13 (rc_i h) (fun v' G1 hR => by
      obtain ⟨rfl, hT⟩ := hR
      exact hk G1 hT)) ?_
    refine RY_b (fun a b G Q h => rk_14013_15 h) ?_
    refine RY_2 r2 (fun a b G Q T k13 h hk => rc_14013_16 (R := fun v' G1 => v2 = v' ∧ T G1) k13 (rc_i h) (fun v' G1 hR => by
      obtain ⟨rfl, hT⟩ := hR
      exact hk G1 hT)) ?_
    refine RY_b (fun a b G Q h => rk_14013_19 (fun q => absurd rfl q) (fun _ => h)) ?_
    refine RY_b (fun a b G Q h => rk_14013_22 h) ?_
    obtain ⟨s3, y3, H3, g3, ⟨e3, f3⟩, -, r3⟩ := k_kept (d := d + 2) (by omega) g2
    obtain ⟨v3, f3⟩ : ∃ v, y3 = .inl v := ⟨_, f3⟩
    rw [e3] at g3
    rw [f3] at r3
    refine RY_1 r3 (fun a b G Q T k13 h hk => rc_14013_23 (R := fun v' G1 => v3 = v' ∧ T G1) k13 (rc_i h) (fun v' G1 hR => by
      obtain ⟨rfl, hT⟩ := hR
      exact hk G1 hT)) ?_
    refine RY_b (fun a b G Q h => rk_14013_26 h) ?_
    refine RY_2 r3 (fun a b G Q T k13 h hk => rc_14013_27 (R := fun v' G1 => v3 = v' ∧ T G1) k13 (rc_i h) (fun v' G1 hR => by
      obtain ⟨rfl, hT⟩ := hR
      exact hk G1 hT)) ?_
    refine RY_b (fun a b G Q h => rk_14013_30 (fun q => absurd rfl q) (fun _ => h)) ?_
    refine RY_b (fun a b G Q h => rk_14013_33 h) ?_
    obtain ⟨s4, y4, H4, g4, ⟨e4, f4⟩, -, r4⟩ := k_alike (d := d + 2) (by omega) g3
    obtain ⟨v4, f4⟩ : ∃ v, y4 = .inl v := ⟨_, f4⟩
    rw [e4] at g4
    rw [f4] at r4
    refine RY_1 r4 (fun a b G Q T k13 h hk => rc_14013_34 (R := fun v' G1 => v4 = v' ∧ T G1) k13 (rc_i h) (fun v' G1 hR => by
      obtain ⟨rfl, hT⟩ := hR
      exact hk G1 hT)) ?_
    refine RY_b (fun a b G Q h => rk_14013_37 h) ?_
    refine RY_2 r4 (fun a b G Q T k13 h hk => rc_14013_38 (R := fun v' G1 => v4 = v' ∧ T G1) k13 (rc_i h) (fun v' G1 hR => by
      obtain ⟨rfl, hT⟩ := hR
      exact hk G1 hT)) ?_
    refine RY_b (fun a b G Q h => rk_14013_41 (fun q => absurd rfl q) (fun _ => h)) ?_
    refine RY_b (fun a b G Q h => rk_14013_44 h) ?_
    obtain ⟨s5, y5, H5, g5, ⟨e5, f5⟩, -, r5⟩ := k_alikeAtEnd (d := d + 2) (by omega) g4
    obtain ⟨v5, f5⟩ : ∃ v, y5 = .inl v := ⟨_, f5⟩
    rw [e5] at g5
    rw [f5] at r5
    refine RY_1 r5 (fun a b G Q T k13 h hk => rc_14013_45 (R := fun v' G1 => v5 = v' ∧ T G1) k13 (rc_i h) (fun v' G1 hR => by
      obtain ⟨rfl, hT⟩ := hR
      exact hk G1 hT)) ?_
    refine RY_b (fun a b G Q h => rk_14013_48 h) ?_
    refine RY_2 r5 (fun a b G Q T k13 h hk => rc_14013_49 (R := fun v' G1 => v5 = v' ∧ T G1) k13 (rc_i h) (fun v' G1 hR => by
      obtain ⟨rfl, hT⟩ := hR
      exact hk G1 hT)) ?_
    refine RY_b (fun a b G Q h => rk_14013_52 (fun q => absurd rfl q) (fun _ => h)) ?_
    refine RY_b (fun a b G Q h => rk_14013_55 h) ?_
    obtain ⟨s6, y6, H6, g6, ⟨e6, v6, f6⟩, -, r6⟩ := k_fault (d := d + 2) (by omega) g5
    rw [e6] at g6
    rw [f6] at r6
    refine RY_1 r6 (fun a b G Q T k13 h hk => rc_14013_56 (R := fun v' G1 => v6 = v' ∧ T G1) k13 (rc_i h) (fun v' G1 hR => by
      obtain ⟨rfl, hT⟩ := hR
      exact hk G1 hT)) ?_
    refine RY_b (fun a b G Q h => rk_14013_59 h) ?_
    refine RY_2 r6 (fun a b G Q T k13 h hk => rc_14013_60 (R := fun v' G1 => v6 = v' ∧ T G1) k13 (rc_i h) (fun v' G1 hR => by
      obtain ⟨rfl, hT⟩ := hR
      exact hk G1 hT)) ?_
    refine RY_b (fun a b G Q h => rk_14013_63 (fun q => absurd rfl q) (fun _ => h)) ?_
    refine RY_b (fun a b G Q h => rk_14013_66 h) ?_
    refine RY_b (fun a b G Q h => rk_14013_71 h) ?_
    refine RY_m (l_77 hM hd g6 (o_n (ls_o s)) 0 0 (by omega) (by decide)) ?_
    rintro o G1 G2 ⟨a1, a2, a3⟩
    exact ⟨a1, a2, OB_m a3 (by omega)⟩
  obtain ⟨o, H', H2', ⟨rfl, rfl, h1⟩, h2⟩ := h
  exact ⟨_, h1, h2⟩
end H0A
