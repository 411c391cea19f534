/-! TWO WAYS OF A BODY THAT TOUCHES NO FRAGMENT -/
section D04
variable {u : wo} {Z : Nat → Prop}
theorem NJ_b {r : Nat} (h : Z r) : NJ u Z (jbd r) := ⟨fun _ => h, fun q => absurd q (by show ¬ 0 = 1; decide), fun q => absurd q (by show ¬ 2 ≤ 0; decide)⟩
theorem NJ_t {r : Nat} (h : TZ u Z r) : NJ u Z (jtg r) := ⟨fun q => absurd q (by show ¬ 1 = 0; decide), fun _ => h, fun q => absurd q (by show ¬ 2 ≤ 1; decide)⟩
theorem NJ_l {r j : Nat} {v : rv} (h : Z (mj_r (u_G u) r 8)) : NJ u Z (jlp r j v) := ⟨fun q => absurd q (by show ¬ 2 = 0; decide), fun q => absurd q (by show ¬ 2 = 1; decide), fun _ => h⟩
theorem cq_f {V V' : Nat → Nat → Option rv} {o o' : ost} {ra rd ra' rd' ra1 rd1 ra2 rd2 : Nat → Int32} {sp sp' : Nat → Bool} {FG FG' : Nat → kfr} {s s' : sS} {e e' : Int32} (pf : pw2 ra rd ra' rd' ra1 rd1 ra2 rd2) (h : cq (V, o, ra1, rd1, sp, FG) s (V', o', ra2, rd2, sp', FG') s' e e') : cq (V, o, ra, rd, sp, FG) s (V', o', ra', rd', sp', FG') s' e e' := by
  obtain ⟨h1, h2, h3, h4, h5, h6⟩ := h
  exact ⟨h1, h2, h3, h4, pw2_t pf h5, h6⟩
theorem OI_sp {r N : Nat} {B : Nat → Nat} {M : Nat} {S : Nat → Nat} {lc : Nat} {ln : Nat → Nat} {op : Nat} {ch : List en} {V : Nat → Nat → Option rv} {ra rd ra' rd' ra1 rd1 ra2 rd2 : Nat → Int32} {sp sp' sp1 sp2 : Nat → Bool} {e e' : Int32} (h : OI u r N B M S lc ln op ch V ra rd sp e ra1 rd1 sp1) (h' : OI u r N B M S lc ln op ch V ra' rd' sp' e' ra2 rd2 sp2) : ∀ k, sp k = sp' k → sp1 k = sp2 k := by
  have key : ∀ {ra rd ra1 rd1 : Nat → Int32} {sp sp1 : Nat → Bool} {e : Int32}, OI u r N B M S lc ln op ch V ra rd sp e ra1 rd1 sp1 → (mj_i (u_G u) r 0 = nI 126 ∧ sp1 = fun _ => true) ∨ (¬ mj_i (u_G u) r 0 = nI 126 ∧ sp1 = sp) := fun h => by
    rcases h with ⟨g, k0, a1, a2, -, -, q⟩ | ⟨T, p, a1, a2, a3, -, -, -, q⟩ | ⟨T, p, tg, a1, a2, a3, a4, -, -, -, q⟩ | ⟨T, p, a1, a2, -, -, q⟩ | ⟨T, p, c1, gg, a1, a2, a3, a4, a5, -, -, -, q⟩ | ⟨c1, rm, m2, T2, x, a, e1, g', a1, a2, -, q⟩
    · obtain ⟨c, hc, hk⟩ := BK_kd a1
      exact Or.inr ⟨fun t => absurd (nkd hk t (by omega) (by decide)) (by omega), q⟩
    · exact Or.inr ⟨fun t => absurd (nkd a1.2.2.2.2.2 t (by decide) (by decide)) (by decide), q⟩
    · exact Or.inr ⟨fun t => absurd (nkd a1.2.2.2.2.2 t (by decide) (by decide)) (by decide), q⟩
    · exact Or.inl ⟨a1.2.2.2.2.2, q⟩
    · exact Or.inr ⟨fun t => absurd (nkd a1.2.2.2.2.2 t (by omega) (by decide)) (by omega), q⟩
    · obtain ⟨hc, hk⟩ := CLL_kd a1
      exact Or.inr ⟨fun t => absurd (nkd hk t (by omega) (by decide)) (by omega), q⟩
  rcases key h with ⟨a, rfl⟩ | ⟨a, rfl⟩
  · rcases key h' with ⟨b, rfl⟩ | ⟨b, rfl⟩
    · exact fun _ _ => rfl
    · exact absurd a b
  · rcases key h' with ⟨b, rfl⟩ | ⟨b, rfl⟩
    · exact absurd b a
    · exact fun _ => id
theorem OO_sp {r N : Nat} {B : Nat → Nat} {M : Nat} {S : Nat → Nat} {lc : Nat} {ln : Nat → Nat} {op : Nat} {ch : List en} {V V1 V2 : Nat → Nat → Option rv} {ra rd ra' rd' ra1 rd1 ra2 rd2 : Nat → Int32} {sp sp' sp1 sp2 : Nat → Bool} {r8 xx lc1 r9 x9 lc2 : Nat} {ln1 ln2 : Nat → Nat} {ch1 ch2 : List en} (h : OO u r N B M S lc ln op ch V ra rd sp r8 xx lc1 ln1 ch1 V1 ra1 rd1 sp1) (h' : OO u r N B M S lc ln op ch V ra' rd' sp' r9 x9 lc2 ln2 ch2 V2 ra2 rd2 sp2) : ∀ k, sp k = sp' k → sp1 k = sp2 k := by
  have key : ∀ {ra rd ra1 rd1 : Nat → Int32} {sp sp1 : Nat → Bool} {r8 xx lc1 : Nat} {ln1 : Nat → Nat} {ch1 : List en} {V1 : Nat → Nat → Option rv}, OO u r N B M S lc ln op ch V ra rd sp r8 xx lc1 ln1 ch1 V1 ra1 rd1 sp1 → (mj_i (u_G u) r 0 = nI 126 ∧ sp1 = fun _ => true) ∨ (¬ mj_i (u_G u) r 0 = nI 126 ∧ sp1 = sp) := fun h => by
    rcases h.2 with ⟨g, k0, a1, a2, -, -, -, -, -, -, -, -, q⟩ | ⟨T, p, tg, a1, a2, a3, a4, -, -, -, -, -, -, -, -, q⟩ | ⟨T, p, y, L, a1, a2, -, -, -, -, -, -, -, -, q⟩ | ⟨c1, rm, m2, T2, x, a, g', a1, -, -, -, -, -, -, q⟩
    · obtain ⟨c, hc, hk⟩ := BK_kd a1
      exact Or.inr ⟨fun t => absurd (nkd hk t (by omega) (by decide)) (by omega), q⟩
    · exact Or.inr ⟨fun t => absurd (nkd a1.2.2.2.2.2 t (by decide) (by decide)) (by decide), q⟩
    · exact Or.inl ⟨a1.2.2.2.2.2, q⟩
    · obtain ⟨hc, hk⟩ := CLL_kd a1
      exact Or.inr ⟨fun t => absurd (nkd hk t (by omega) (by decide)) (by omega), q⟩
  rcases key h with ⟨a, rfl⟩ | ⟨a, rfl⟩
  · rcases key h' with ⟨b, rfl⟩ | ⟨b, rfl⟩
    · exact fun _ _ => rfl
    · exact absurd a b
  · rcases key h' with ⟨b, rfl⟩ | ⟨b, rfl⟩
    · exact absurd b a
    · exact fun _ => id
set_option maxHeartbeats 2000000 in
theorem SBk_det (hZ : CZ u Z) : ∀ {n : Nat} {j : sj} {N : Nat} {B : Nat → Nat} {M : Nat} {S : Nat → Nat} {lc : Nat} {ln : Nat → Nat} {op : Nat} {ch : List en} {s s1 : sS} {e : Int32}, SBk u n j (N, B, M, S, lc, ln, op, ch) s e s1 → NJ u Z j → XZ Z lc ln ch → ¬ e = Int32.ofInt (-9) → ∀ {n' : Nat} {s' s1' : sS} {e' : Int32}, SBk u n' j (N, B, M, S, lc, ln, op, ch) s' e' s1' → ¬ e' = Int32.ofInt (-9) → s'.1 = s.1 → s'.2.1 = s.2.1 → cq s s1 s' s1' e e'
  | 0, _, _, _, _, _, _, _, _, _, _, _, _, h, _, _, _, _, _, _, _, _, _, _, _ => h.elim
  | n + 1, (0, r, _, _), N, B, M, S, lc, ln, op, ch, s, s1, e, h, hj, hX, h9, n', s', s1', e', g, g9, hv, ho => by
    cases n' with
    | zero => exact g.elim
    | succ n' =>
      have hr : Z r := hj.1 rfl
      rcases h with ⟨a1, rfl, rfl⟩ | ⟨a1, e1, s2, a2, a3⟩
      · rcases g with ⟨b1, rfl, rfl⟩ | ⟨b1, -⟩
        · exact ⟨rfl, fun _ => ⟨hv.symm, ho.symm⟩, rfl, rfl, pw2_r, fun _ => id⟩
        · exact absurd a1 b1
      · rcases g with ⟨b1, -⟩ | ⟨b1, e2, s3, b2, b3⟩
        · exact absurd b1 a1
        · have m1 : ¬ e1 = Int32.ofInt (-9) := by
            rcases a3 with ⟨-, q, -⟩ | ⟨q, -⟩
            · rw [← q]; exact h9
            · rw [q]; decide
          have m2 : ¬ e2 = Int32.ofInt (-9) := by
            rcases b3 with ⟨-, q, -⟩ | ⟨q, -⟩
            · rw [← q]; exact g9
            · rw [q]; decide
          have c0 := SBk_det hZ a2 (NJ_t (hZ.1 r hr a1).1) hX m1 b2 m2 hv ho
          have hz10 : Z (mj_r (u_G u) r 10) := (hZ.1 r hr a1).2
          rcases a3 with ⟨x1, rfl, rfl⟩ | ⟨x1, x2⟩
          · rcases b3 with ⟨y1, rfl, rfl⟩ | ⟨y1, y2⟩
            · exact c0
            · exact absurd (c0.1.trans y1) x1
          · rcases b3 with ⟨y1, rfl, rfl⟩ | ⟨y1, y2⟩
            · exact absurd (c0.1.symm.trans x1) y1
            · subst x1
              subst y1
              obtain ⟨d1, d2⟩ := c0.2.1 rfl
              exact cq_t c0 (SBk_det hZ x2 (NJ_b hz10) hX h9 y2 g9 d1.symm d2.symm)
  | n + 1, (1, r, _, _), N, B, M, S, lc, ln, op, ch, s, s1, e, h, hj, hX, h9, n', s', s1', e', g, g9, hv, ho => by
    cases n' with
    | zero => exact g.elim
    | succ n' =>
      have hr : TZ u Z r := hj.2.1 rfl
      obtain ⟨V, o, ra, rd, sp, FG⟩ := s
      obtain ⟨V', o', ra', rd', sp', FG'⟩ := s'
      obtain rfl : V' = V := hv
      obtain rfl : o' = o := ho
      rcases h with (⟨T1, p1, n1, rfl, rfl⟩ | ⟨T1, p1, n1, t1, u1, rfl, rfl⟩ | ⟨T1, p1, v1, ra1, rd1, n1, t1, u1, y1, f1, rfl, rfl⟩ | ⟨T1, p1, g1, v1, ra1, rd1, n1, t1, u1, w1, x1, f1, rfl, rfl⟩ | ⟨T1, p1, l1, v1, ra1, rd1, n1, w1, x1, y1, f1, rfl, rfl⟩ | ⟨T1, p1, n1, rfl, rfl⟩ | ⟨T1, p1, c1, v1, ra1, rd1, n1, hc1, he1, f1, rfl⟩ | ⟨T1, p1, v1, ra1, rd1, n1, f1, q1, rfl, rfl⟩ | ⟨ra1, rd1, sp1, h1, rfl⟩ | ⟨rfl, rfl⟩ | ⟨T1, p1, i1, n1, -⟩) | ⟨T1, p1, v1, ra1, rd1, n1, f1, h1⟩ | ⟨T1, p1, v1, ra1, rd1, n1, f1, q1, h1⟩ | ⟨T1, p1, e1, V1, o1, ra1, rd1, sp1, FG1, n1, h1, q1⟩ | ⟨r1, xx1, lc1, ln1, ch1, V1, ra1, rd1, sp1, W1, o1, rb1, rc1, sq1, FG1, h1, b1, rfl⟩ | ⟨T1, p1, i1, V1, o1, ra1, rd1, sp1, FG1, n1, -⟩
      · rcases g with (⟨T2, p2, n2, rfl, rfl⟩ | ⟨T2, p2, n2, t2, u2, rfl, rfl⟩ | ⟨T2, p2, v2, ra2, rd2, n2, t2, u2, y2, f2, rfl, rfl⟩ | ⟨T2, p2, g2, v2, ra2, rd2, n2, t2, u2, w2, x2, f2, rfl, rfl⟩ | ⟨T2, p2, l2, v2, ra2, rd2, n2, w2, x2, y2, f2, rfl, rfl⟩ | ⟨T2, p2, n2, rfl, rfl⟩ | ⟨T2, p2, c2, v2, ra2, rd2, n2, hc2, he2, f2, rfl⟩ | ⟨T2, p2, v2, ra2, rd2, n2, f2, q2, rfl, rfl⟩ | ⟨ra2, rd2, sp2, h2, rfl⟩ | ⟨rfl, rfl⟩ | ⟨T2, p2, i2, n2, -⟩) | ⟨T2, p2, v2, ra2, rd2, n2, f2, h2⟩ | ⟨T2, p2, v2, ra2, rd2, n2, f2, q2, h2⟩ | ⟨T2, p2, e2, V2, o2, ra2, rd2, sp2, FG2, n2, h2, q2⟩ | ⟨r2, xx2, lc2, ln2, ch2, V2, ra2, rd2, sp2, W2, o2, rb2, rc2, sq2, FG2, h2, b2, rfl⟩ | ⟨T2, p2, i2, V2, o2, ra2, rd2, sp2, FG2, n2, -⟩
        · exact ⟨rfl, fun _ => ⟨rfl, rfl⟩, rfl, rfl, pw2_r, fun _ => id⟩
        · exact absurd (nkd n1.2.2.2.2.2 n2.2.2.2.2.2 (by decide) (by decide)) (by decide)
        · exact absurd (nkd n1.2.2.2.2.2 n2.2.2.2.2.2 (by decide) (by decide)) (by decide)
        · exact absurd (nkd n1.2.2.2.2.2 n2.2.2.2.2.2 (by decide) (by decide)) (by decide)
        · exact absurd (nkd n1.2.2.2.2.2 n2.2.2.2.2.2 (by decide) (by decide)) (by decide)
        · exact absurd (nkd n1.2.2.2.2.2 n2.2.2.2.2.2 (by decide) (by decide)) (by decide)
        · exact absurd (nkd n1.2.2.2.2.2 n2.2.2.2.2.2 (by decide) (by omega)) (by omega)
        · exact absurd (nkd n1.2.2.2.2.2 n2.2.2.2.2.2 (by decide) (by decide)) (by decide)
        · obtain ⟨c2, hc2, k2⟩ := OI_kd h2
          exact absurd (nkd n1.2.2.2.2.2 k2 (by decide) (by omega)) (by omega)
        · exact absurd rfl g9
        · exact absurd rfl (hr 107 (by decide) n2.2.2.2.2.2).2.1
        · exact absurd (nkd n1.2.2.2.2.2 n2.2.2.2.2.2 (by decide) (by decide)) (by decide)
        · exact absurd (nkd n1.2.2.2.2.2 n2.2.2.2.2.2 (by decide) (by decide)) (by decide)
        · exact absurd (nkd n1.2.2.2.2.2 n2.2.2.2.2.2 (by decide) (by decide)) (by decide)
        · obtain ⟨c2, hc2, k2⟩ := OO_kd h2
          exact absurd (nkd n1.2.2.2.2.2 k2 (by decide) (by omega)) (by omega)
        · exact absurd rfl (hr 107 (by decide) n2.2.2.2.2.2).2.1
      · rcases g with (⟨T2, p2, n2, rfl, rfl⟩ | ⟨T2, p2, n2, t2, u2, rfl, rfl⟩ | ⟨T2, p2, v2, ra2, rd2, n2, t2, u2, y2, f2, rfl, rfl⟩ | ⟨T2, p2, g2, v2, ra2, rd2, n2, t2, u2, w2, x2, f2, rfl, rfl⟩ | ⟨T2, p2, l2, v2, ra2, rd2, n2, w2, x2, y2, f2, rfl, rfl⟩ | ⟨T2, p2, n2, rfl, rfl⟩ | ⟨T2, p2, c2, v2, ra2, rd2, n2, hc2, he2, f2, rfl⟩ | ⟨T2, p2, v2, ra2, rd2, n2, f2, q2, rfl, rfl⟩ | ⟨ra2, rd2, sp2, h2, rfl⟩ | ⟨rfl, rfl⟩ | ⟨T2, p2, i2, n2, -⟩) | ⟨T2, p2, v2, ra2, rd2, n2, f2, h2⟩ | ⟨T2, p2, v2, ra2, rd2, n2, f2, q2, h2⟩ | ⟨T2, p2, e2, V2, o2, ra2, rd2, sp2, FG2, n2, h2, q2⟩ | ⟨r2, xx2, lc2, ln2, ch2, V2, ra2, rd2, sp2, W2, o2, rb2, rc2, sq2, FG2, h2, b2, rfl⟩ | ⟨T2, p2, i2, V2, o2, ra2, rd2, sp2, FG2, n2, -⟩
        · exact absurd (nkd n1.2.2.2.2.2 n2.2.2.2.2.2 (by decide) (by decide)) (by decide)
        · obtain rfl := nd_T n1 n2 t1 t2
          obtain rfl := nd_p n1 n2 u1 u2
          exact ⟨rfl, fun _ => ⟨rfl, rfl⟩, rfl, rfl, pw2_r, fun _ => id⟩
        · exact absurd (nkd n1.2.2.2.2.2 n2.2.2.2.2.2 (by decide) (by decide)) (by decide)
        · exact absurd (nkd n1.2.2.2.2.2 n2.2.2.2.2.2 (by decide) (by decide)) (by decide)
        · exact absurd (nkd n1.2.2.2.2.2 n2.2.2.2.2.2 (by decide) (by decide)) (by decide)
        · exact absurd (nkd n1.2.2.2.2.2 n2.2.2.2.2.2 (by decide) (by decide)) (by decide)
        · exact absurd (nkd n1.2.2.2.2.2 n2.2.2.2.2.2 (by decide) (by omega)) (by omega)
        · exact absurd (nkd n1.2.2.2.2.2 n2.2.2.2.2.2 (by decide) (by decide)) (by decide)
        · obtain ⟨c2, hc2, k2⟩ := OI_kd h2
          exact absurd (nkd n1.2.2.2.2.2 k2 (by decide) (by omega)) (by omega)
        · exact absurd rfl g9
        · exact absurd rfl (hr 107 (by decide) n2.2.2.2.2.2).2.1
        · exact absurd (nkd n1.2.2.2.2.2 n2.2.2.2.2.2 (by decide) (by decide)) (by decide)
        · exact absurd (nkd n1.2.2.2.2.2 n2.2.2.2.2.2 (by decide) (by decide)) (by decide)
        · exact absurd (nkd n1.2.2.2.2.2 n2.2.2.2.2.2 (by decide) (by decide)) (by decide)
        · obtain ⟨c2, hc2, k2⟩ := OO_kd h2
          exact absurd (nkd n1.2.2.2.2.2 k2 (by decide) (by omega)) (by omega)
        · exact absurd rfl (hr 107 (by decide) n2.2.2.2.2.2).2.1
      · rcases g with (⟨T2, p2, n2, rfl, rfl⟩ | ⟨T2, p2, n2, t2, u2, rfl, rfl⟩ | ⟨T2, p2, v2, ra2, rd2, n2, t2, u2, y2, f2, rfl, rfl⟩ | ⟨T2, p2, g2, v2, ra2, rd2, n2, t2, u2, w2, x2, f2, rfl, rfl⟩ | ⟨T2, p2, l2, v2, ra2, rd2, n2, w2, x2, y2, f2, rfl, rfl⟩ | ⟨T2, p2, n2, rfl, rfl⟩ | ⟨T2, p2, c2, v2, ra2, rd2, n2, hc2, he2, f2, rfl⟩ | ⟨T2, p2, v2, ra2, rd2, n2, f2, q2, rfl, rfl⟩ | ⟨ra2, rd2, sp2, h2, rfl⟩ | ⟨rfl, rfl⟩ | ⟨T2, p2, i2, n2, -⟩) | ⟨T2, p2, v2, ra2, rd2, n2, f2, h2⟩ | ⟨T2, p2, v2, ra2, rd2, n2, f2, q2, h2⟩ | ⟨T2, p2, e2, V2, o2, ra2, rd2, sp2, FG2, n2, h2, q2⟩ | ⟨r2, xx2, lc2, ln2, ch2, V2, ra2, rd2, sp2, W2, o2, rb2, rc2, sq2, FG2, h2, b2, rfl⟩ | ⟨T2, p2, i2, V2, o2, ra2, rd2, sp2, FG2, n2, -⟩
        · exact absurd (nkd n1.2.2.2.2.2 n2.2.2.2.2.2 (by decide) (by decide)) (by decide)
        · exact absurd (nkd n1.2.2.2.2.2 n2.2.2.2.2.2 (by decide) (by decide)) (by decide)
        · obtain rfl := nd_T n1 n2 t1 t2
          obtain rfl := nd_p n1 n2 u1 u2
          obtain ⟨-, rfl, pf⟩ := FE_det f1 f2
          exact ⟨rfl, fun _ => ⟨rfl, rfl⟩, rfl, rfl, pf, fun _ => id⟩
        · exact absurd (nkd n1.2.2.2.2.2 n2.2.2.2.2.2 (by decide) (by decide)) (by decide)
        · exact absurd (nkd n1.2.2.2.2.2 n2.2.2.2.2.2 (by decide) (by decide)) (by decide)
        · exact absurd (nkd n1.2.2.2.2.2 n2.2.2.2.2.2 (by decide) (by decide)) (by decide)
        · exact absurd (FE_det f1 f2).1.symm he2
        · exact absurd (nkd n1.2.2.2.2.2 n2.2.2.2.2.2 (by decide) (by decide)) (by decide)
        · obtain ⟨c2, hc2, k2⟩ := OI_kd h2
          exact absurd (nkd n1.2.2.2.2.2 k2 (by decide) (by omega)) (by omega)
        · exact absurd rfl g9
        · exact absurd rfl (hr 107 (by decide) n2.2.2.2.2.2).2.1
        · exact absurd (nkd n1.2.2.2.2.2 n2.2.2.2.2.2 (by decide) (by decide)) (by decide)
        · exact absurd (nkd n1.2.2.2.2.2 n2.2.2.2.2.2 (by decide) (by decide)) (by decide)
        · exact absurd (nkd n1.2.2.2.2.2 n2.2.2.2.2.2 (by decide) (by decide)) (by decide)
        · obtain ⟨c2, hc2, k2⟩ := OO_kd h2
          exact absurd (nkd n1.2.2.2.2.2 k2 (by decide) (by omega)) (by omega)
        · exact absurd rfl (hr 107 (by decide) n2.2.2.2.2.2).2.1
      · rcases g with (⟨T2, p2, n2, rfl, rfl⟩ | ⟨T2, p2, n2, t2, u2, rfl, rfl⟩ | ⟨T2, p2, v2, ra2, rd2, n2, t2, u2, y2, f2, rfl, rfl⟩ | ⟨T2, p2, g2, v2, ra2, rd2, n2, t2, u2, w2, x2, f2, rfl, rfl⟩ | ⟨T2, p2, l2, v2, ra2, rd2, n2, w2, x2, y2, f2, rfl, rfl⟩ | ⟨T2, p2, n2, rfl, rfl⟩ | ⟨T2, p2, c2, v2, ra2, rd2, n2, hc2, he2, f2, rfl⟩ | ⟨T2, p2, v2, ra2, rd2, n2, f2, q2, rfl, rfl⟩ | ⟨ra2, rd2, sp2, h2, rfl⟩ | ⟨rfl, rfl⟩ | ⟨T2, p2, i2, n2, -⟩) | ⟨T2, p2, v2, ra2, rd2, n2, f2, h2⟩ | ⟨T2, p2, v2, ra2, rd2, n2, f2, q2, h2⟩ | ⟨T2, p2, e2, V2, o2, ra2, rd2, sp2, FG2, n2, h2, q2⟩ | ⟨r2, xx2, lc2, ln2, ch2, V2, ra2, rd2, sp2, W2, o2, rb2, rc2, sq2, FG2, h2, b2, rfl⟩ | ⟨T2, p2, i2, V2, o2, ra2, rd2, sp2, FG2, n2, -⟩
        · exact absurd (nkd n1.2.2.2.2.2 n2.2.2.2.2.2 (by decide) (by decide)) (by decide)
        · exact absurd (nkd n1.2.2.2.2.2 n2.2.2.2.2.2 (by decide) (by decide)) (by decide)
        · exact absurd (nkd n1.2.2.2.2.2 n2.2.2.2.2.2 (by decide) (by decide)) (by decide)
        · obtain rfl := nd_T n1 n2 t1 t2
          obtain rfl := nd_p n1 n2 u1 u2
          obtain rfl := nkd w1 w2 (by omega) (by omega)
          obtain ⟨-, rfl, pf⟩ := FE_det f1 f2
          exact ⟨rfl, fun _ => ⟨rfl, rfl⟩, rfl, rfl, pf, fun _ => id⟩
        · exact absurd (nkd n1.2.2.2.2.2 n2.2.2.2.2.2 (by decide) (by decide)) (by decide)
        · exact absurd (nkd n1.2.2.2.2.2 n2.2.2.2.2.2 (by decide) (by decide)) (by decide)
        · exact absurd (FE_det f1 f2).1.symm he2
        · exact absurd (nkd n1.2.2.2.2.2 n2.2.2.2.2.2 (by decide) (by decide)) (by decide)
        · obtain ⟨c2, hc2, k2⟩ := OI_kd h2
          exact absurd (nkd n1.2.2.2.2.2 k2 (by decide) (by omega)) (by omega)
        · exact absurd rfl g9
        · exact absurd rfl (hr 107 (by decide) n2.2.2.2.2.2).2.1
        · exact absurd (nkd n1.2.2.2.2.2 n2.2.2.2.2.2 (by decide) (by decide)) (by decide)
        · exact absurd (nkd n1.2.2.2.2.2 n2.2.2.2.2.2 (by decide) (by decide)) (by decide)
        · exact absurd (nkd n1.2.2.2.2.2 n2.2.2.2.2.2 (by decide) (by decide)) (by decide)
        · obtain ⟨c2, hc2, k2⟩ := OO_kd h2
          exact absurd (nkd n1.2.2.2.2.2 k2 (by decide) (by omega)) (by omega)
        · exact absurd rfl (hr 107 (by decide) n2.2.2.2.2.2).2.1
      · rcases g with (⟨T2, p2, n2, rfl, rfl⟩ | ⟨T2, p2, n2, t2, u2, rfl, rfl⟩ | ⟨T2, p2, v2, ra2, rd2, n2, t2, u2, y2, f2, rfl, rfl⟩ | ⟨T2, p2, g2, v2, ra2, rd2, n2, t2, u2, w2, x2, f2, rfl, rfl⟩ | ⟨T2, p2, l2, v2, ra2, rd2, n2, w2, x2, y2, f2, rfl, rfl⟩ | ⟨T2, p2, n2, rfl, rfl⟩ | ⟨T2, p2, c2, v2, ra2, rd2, n2, hc2, he2, f2, rfl⟩ | ⟨T2, p2, v2, ra2, rd2, n2, f2, q2, rfl, rfl⟩ | ⟨ra2, rd2, sp2, h2, rfl⟩ | ⟨rfl, rfl⟩ | ⟨T2, p2, i2, n2, -⟩) | ⟨T2, p2, v2, ra2, rd2, n2, f2, h2⟩ | ⟨T2, p2, v2, ra2, rd2, n2, f2, q2, h2⟩ | ⟨T2, p2, e2, V2, o2, ra2, rd2, sp2, FG2, n2, h2, q2⟩ | ⟨r2, xx2, lc2, ln2, ch2, V2, ra2, rd2, sp2, W2, o2, rb2, rc2, sq2, FG2, h2, b2, rfl⟩ | ⟨T2, p2, i2, V2, o2, ra2, rd2, sp2, FG2, n2, -⟩
        · exact absurd (nkd n1.2.2.2.2.2 n2.2.2.2.2.2 (by decide) (by decide)) (by decide)
        · exact absurd (nkd n1.2.2.2.2.2 n2.2.2.2.2.2 (by decide) (by decide)) (by decide)
        · exact absurd (nkd n1.2.2.2.2.2 n2.2.2.2.2.2 (by decide) (by decide)) (by decide)
        · exact absurd (nkd n1.2.2.2.2.2 n2.2.2.2.2.2 (by decide) (by decide)) (by decide)
        · obtain rfl := nkd w1 w2 (by omega) (by omega)
          obtain ⟨-, rfl, pf⟩ := FE_det f1 f2
          exact ⟨rfl, fun _ => ⟨rfl, rfl⟩, rfl, rfl, pf, fun _ => id⟩
        · exact absurd (nkd n1.2.2.2.2.2 n2.2.2.2.2.2 (by decide) (by decide)) (by decide)
        · exact absurd (FE_det f1 f2).1.symm he2
        · exact absurd (nkd n1.2.2.2.2.2 n2.2.2.2.2.2 (by decide) (by decide)) (by decide)
        · obtain ⟨c2, hc2, k2⟩ := OI_kd h2
          exact absurd (nkd n1.2.2.2.2.2 k2 (by decide) (by omega)) (by omega)
        · exact absurd rfl g9
        · exact absurd rfl (hr 107 (by decide) n2.2.2.2.2.2).2.1
        · exact absurd (nkd n1.2.2.2.2.2 n2.2.2.2.2.2 (by decide) (by decide)) (by decide)
        · exact absurd (nkd n1.2.2.2.2.2 n2.2.2.2.2.2 (by decide) (by decide)) (by decide)
        · exact absurd (nkd n1.2.2.2.2.2 n2.2.2.2.2.2 (by decide) (by decide)) (by decide)
        · obtain ⟨c2, hc2, k2⟩ := OO_kd h2
          exact absurd (nkd n1.2.2.2.2.2 k2 (by decide) (by omega)) (by omega)
        · exact absurd rfl (hr 107 (by decide) n2.2.2.2.2.2).2.1
      · rcases g with (⟨T2, p2, n2, rfl, rfl⟩ | ⟨T2, p2, n2, t2, u2, rfl, rfl⟩ | ⟨T2, p2, v2, ra2, rd2, n2, t2, u2, y2, f2, rfl, rfl⟩ | ⟨T2, p2, g2, v2, ra2, rd2, n2, t2, u2, w2, x2, f2, rfl, rfl⟩ | ⟨T2, p2, l2, v2, ra2, rd2, n2, w2, x2, y2, f2, rfl, rfl⟩ | ⟨T2, p2, n2, rfl, rfl⟩ | ⟨T2, p2, c2, v2, ra2, rd2, n2, hc2, he2, f2, rfl⟩ | ⟨T2, p2, v2, ra2, rd2, n2, f2, q2, rfl, rfl⟩ | ⟨ra2, rd2, sp2, h2, rfl⟩ | ⟨rfl, rfl⟩ | ⟨T2, p2, i2, n2, -⟩) | ⟨T2, p2, v2, ra2, rd2, n2, f2, h2⟩ | ⟨T2, p2, v2, ra2, rd2, n2, f2, q2, h2⟩ | ⟨T2, p2, e2, V2, o2, ra2, rd2, sp2, FG2, n2, h2, q2⟩ | ⟨r2, xx2, lc2, ln2, ch2, V2, ra2, rd2, sp2, W2, o2, rb2, rc2, sq2, FG2, h2, b2, rfl⟩ | ⟨T2, p2, i2, V2, o2, ra2, rd2, sp2, FG2, n2, -⟩
        · exact absurd (nkd n1.2.2.2.2.2 n2.2.2.2.2.2 (by decide) (by decide)) (by decide)
        · exact absurd (nkd n1.2.2.2.2.2 n2.2.2.2.2.2 (by decide) (by decide)) (by decide)
        · exact absurd (nkd n1.2.2.2.2.2 n2.2.2.2.2.2 (by decide) (by decide)) (by decide)
        · exact absurd (nkd n1.2.2.2.2.2 n2.2.2.2.2.2 (by decide) (by decide)) (by decide)
        · exact absurd (nkd n1.2.2.2.2.2 n2.2.2.2.2.2 (by decide) (by decide)) (by decide)
        · exact ⟨rfl, fun _ => ⟨rfl, rfl⟩, rfl, rfl, pw2_r, fun _ _ => rfl⟩
        · exact absurd (nkd n1.2.2.2.2.2 n2.2.2.2.2.2 (by decide) (by omega)) (by omega)
        · exact absurd (nkd n1.2.2.2.2.2 n2.2.2.2.2.2 (by decide) (by decide)) (by decide)
        · obtain ⟨c2, hc2, k2⟩ := OI_kd h2
          exact absurd (nkd n1.2.2.2.2.2 k2 (by decide) (by omega)) (by omega)
        · exact absurd rfl g9
        · exact absurd rfl (hr 107 (by decide) n2.2.2.2.2.2).2.1
        · exact absurd (nkd n1.2.2.2.2.2 n2.2.2.2.2.2 (by decide) (by decide)) (by decide)
        · exact absurd (nkd n1.2.2.2.2.2 n2.2.2.2.2.2 (by decide) (by decide)) (by decide)
        · exact absurd (nkd n1.2.2.2.2.2 n2.2.2.2.2.2 (by decide) (by decide)) (by decide)
        · obtain ⟨c2, hc2, k2⟩ := OO_kd h2
          exact absurd (nkd n1.2.2.2.2.2 k2 (by decide) (by omega)) (by omega)
        · exact absurd rfl (hr 107 (by decide) n2.2.2.2.2.2).2.1
      · rcases g with (⟨T2, p2, n2, rfl, rfl⟩ | ⟨T2, p2, n2, t2, u2, rfl, rfl⟩ | ⟨T2, p2, v2, ra2, rd2, n2, t2, u2, y2, f2, rfl, rfl⟩ | ⟨T2, p2, g2, v2, ra2, rd2, n2, t2, u2, w2, x2, f2, rfl, rfl⟩ | ⟨T2, p2, l2, v2, ra2, rd2, n2, w2, x2, y2, f2, rfl, rfl⟩ | ⟨T2, p2, n2, rfl, rfl⟩ | ⟨T2, p2, c2, v2, ra2, rd2, n2, hc2, he2, f2, rfl⟩ | ⟨T2, p2, v2, ra2, rd2, n2, f2, q2, rfl, rfl⟩ | ⟨ra2, rd2, sp2, h2, rfl⟩ | ⟨rfl, rfl⟩ | ⟨T2, p2, i2, n2, -⟩) | ⟨T2, p2, v2, ra2, rd2, n2, f2, h2⟩ | ⟨T2, p2, v2, ra2, rd2, n2, f2, q2, h2⟩ | ⟨T2, p2, e2, V2, o2, ra2, rd2, sp2, FG2, n2, h2, q2⟩ | ⟨r2, xx2, lc2, ln2, ch2, V2, ra2, rd2, sp2, W2, o2, rb2, rc2, sq2, FG2, h2, b2, rfl⟩ | ⟨T2, p2, i2, V2, o2, ra2, rd2, sp2, FG2, n2, -⟩
        · exact absurd (nkd n1.2.2.2.2.2 n2.2.2.2.2.2 (by omega) (by decide)) (by omega)
        · exact absurd (nkd n1.2.2.2.2.2 n2.2.2.2.2.2 (by omega) (by decide)) (by omega)
        · exact absurd (FE_det f1 f2).1 he1
        · exact absurd (FE_det f1 f2).1 he1
        · exact absurd (FE_det f1 f2).1 he1
        · exact absurd (nkd n1.2.2.2.2.2 n2.2.2.2.2.2 (by omega) (by decide)) (by omega)
        · obtain ⟨rfl, -, pf⟩ := FE_det f1 f2
          exact ⟨rfl, fun q => absurd q he1, rfl, rfl, pf, fun _ => id⟩
        · exact absurd (FE_det f1 f2).1 he1
        · obtain ⟨c2, hc2, k2⟩ := OI_kd h2
          exact absurd (nkd n1.2.2.2.2.2 k2 (by omega) (by omega)) (by omega)
        · exact absurd rfl g9
        · exact absurd rfl (hr 107 (by decide) n2.2.2.2.2.2).2.1
        · exact absurd (FE_det f1 f2).1 he1
        · exact absurd (FE_det f1 f2).1 he1
        · exact absurd (nkd n1.2.2.2.2.2 n2.2.2.2.2.2 (by omega) (by decide)) (by omega)
        · obtain ⟨c2, hc2, k2⟩ := OO_kd h2
          exact absurd (nkd n1.2.2.2.2.2 k2 (by omega) (by omega)) (by omega)
        · exact absurd rfl (hr 107 (by decide) n2.2.2.2.2.2).2.1
      · rcases g with (⟨T2, p2, n2, rfl, rfl⟩ | ⟨T2, p2, n2, t2, u2, rfl, rfl⟩ | ⟨T2, p2, v2, ra2, rd2, n2, t2, u2, y2, f2, rfl, rfl⟩ | ⟨T2, p2, g2, v2, ra2, rd2, n2, t2, u2, w2, x2, f2, rfl, rfl⟩ | ⟨T2, p2, l2, v2, ra2, rd2, n2, w2, x2, y2, f2, rfl, rfl⟩ | ⟨T2, p2, n2, rfl, rfl⟩ | ⟨T2, p2, c2, v2, ra2, rd2, n2, hc2, he2, f2, rfl⟩ | ⟨T2, p2, v2, ra2, rd2, n2, f2, q2, rfl, rfl⟩ | ⟨ra2, rd2, sp2, h2, rfl⟩ | ⟨rfl, rfl⟩ | ⟨T2, p2, i2, n2, -⟩) | ⟨T2, p2, v2, ra2, rd2, n2, f2, h2⟩ | ⟨T2, p2, v2, ra2, rd2, n2, f2, q2, h2⟩ | ⟨T2, p2, e2, V2, o2, ra2, rd2, sp2, FG2, n2, h2, q2⟩ | ⟨r2, xx2, lc2, ln2, ch2, V2, ra2, rd2, sp2, W2, o2, rb2, rc2, sq2, FG2, h2, b2, rfl⟩ | ⟨T2, p2, i2, V2, o2, ra2, rd2, sp2, FG2, n2, -⟩
        · exact absurd (nkd n1.2.2.2.2.2 n2.2.2.2.2.2 (by decide) (by decide)) (by decide)
        · exact absurd (nkd n1.2.2.2.2.2 n2.2.2.2.2.2 (by decide) (by decide)) (by decide)
        · exact absurd (nkd n1.2.2.2.2.2 n2.2.2.2.2.2 (by decide) (by decide)) (by decide)
        · exact absurd (nkd n1.2.2.2.2.2 n2.2.2.2.2.2 (by decide) (by decide)) (by decide)
        · exact absurd (nkd n1.2.2.2.2.2 n2.2.2.2.2.2 (by decide) (by decide)) (by decide)
        · exact absurd (nkd n1.2.2.2.2.2 n2.2.2.2.2.2 (by decide) (by decide)) (by decide)
        · exact absurd (FE_det f1 f2).1.symm he2
        · obtain ⟨-, rfl, pf⟩ := FE_det f1 f2
          exact ⟨rfl, fun q => absurd q (by decide), rfl, rfl, pf, fun _ => id⟩
        · obtain ⟨c2, hc2, k2⟩ := OI_kd h2
          exact absurd (nkd n1.2.2.2.2.2 k2 (by decide) (by omega)) (by omega)
        · exact absurd rfl g9
        · exact absurd rfl (hr 107 (by decide) n2.2.2.2.2.2).2.1
        · exact absurd (nkd n1.2.2.2.2.2 n2.2.2.2.2.2 (by decide) (by decide)) (by decide)
        · obtain ⟨-, rfl, pf⟩ := FE_det f1 f2
          exact absurd q2 q1
        · exact absurd (nkd n1.2.2.2.2.2 n2.2.2.2.2.2 (by decide) (by decide)) (by decide)
        · obtain ⟨c2, hc2, k2⟩ := OO_kd h2
          exact absurd (nkd n1.2.2.2.2.2 k2 (by decide) (by omega)) (by omega)
        · exact absurd rfl (hr 107 (by decide) n2.2.2.2.2.2).2.1
      · rcases g with (⟨T2, p2, n2, rfl, rfl⟩ | ⟨T2, p2, n2, t2, u2, rfl, rfl⟩ | ⟨T2, p2, v2, ra2, rd2, n2, t2, u2, y2, f2, rfl, rfl⟩ | ⟨T2, p2, g2, v2, ra2, rd2, n2, t2, u2, w2, x2, f2, rfl, rfl⟩ | ⟨T2, p2, l2, v2, ra2, rd2, n2, w2, x2, y2, f2, rfl, rfl⟩ | ⟨T2, p2, n2, rfl, rfl⟩ | ⟨T2, p2, c2, v2, ra2, rd2, n2, hc2, he2, f2, rfl⟩ | ⟨T2, p2, v2, ra2, rd2, n2, f2, q2, rfl, rfl⟩ | ⟨ra2, rd2, sp2, h2, rfl⟩ | ⟨rfl, rfl⟩ | ⟨T2, p2, i2, n2, -⟩) | ⟨T2, p2, v2, ra2, rd2, n2, f2, h2⟩ | ⟨T2, p2, v2, ra2, rd2, n2, f2, q2, h2⟩ | ⟨T2, p2, e2, V2, o2, ra2, rd2, sp2, FG2, n2, h2, q2⟩ | ⟨r2, xx2, lc2, ln2, ch2, V2, ra2, rd2, sp2, W2, o2, rb2, rc2, sq2, FG2, h2, b2, rfl⟩ | ⟨T2, p2, i2, V2, o2, ra2, rd2, sp2, FG2, n2, -⟩
        · obtain ⟨c1, hc1, k1⟩ := OI_kd h1
          exact absurd (nkd k1 n2.2.2.2.2.2 (by omega) (by decide)) (by omega)
        · obtain ⟨c1, hc1, k1⟩ := OI_kd h1
          exact absurd (nkd k1 n2.2.2.2.2.2 (by omega) (by decide)) (by omega)
        · obtain ⟨c1, hc1, k1⟩ := OI_kd h1
          exact absurd (nkd k1 n2.2.2.2.2.2 (by omega) (by decide)) (by omega)
        · obtain ⟨c1, hc1, k1⟩ := OI_kd h1
          exact absurd (nkd k1 n2.2.2.2.2.2 (by omega) (by decide)) (by omega)
        · obtain ⟨c1, hc1, k1⟩ := OI_kd h1
          exact absurd (nkd k1 n2.2.2.2.2.2 (by omega) (by decide)) (by omega)
        · obtain ⟨c1, hc1, k1⟩ := OI_kd h1
          exact absurd (nkd k1 n2.2.2.2.2.2 (by omega) (by decide)) (by omega)
        · obtain ⟨c1, hc1, k1⟩ := OI_kd h1
          exact absurd (nkd k1 n2.2.2.2.2.2 (by omega) (by omega)) (by omega)
        · obtain ⟨c1, hc1, k1⟩ := OI_kd h1
          exact absurd (nkd k1 n2.2.2.2.2.2 (by omega) (by decide)) (by omega)
        · obtain ⟨rfl, pf⟩ := OI_det h1 h2
          exact ⟨rfl, fun _ => ⟨rfl, rfl⟩, rfl, rfl, pf, OI_sp h1 h2⟩
        · exact absurd rfl g9
        · exact absurd rfl (hr 107 (by decide) n2.2.2.2.2.2).2.1
        · obtain ⟨c1, hc1, k1⟩ := OI_kd h1
          exact absurd (nkd k1 n2.2.2.2.2.2 (by omega) (by decide)) (by omega)
        · obtain ⟨c1, hc1, k1⟩ := OI_kd h1
          exact absurd (nkd k1 n2.2.2.2.2.2 (by omega) (by decide)) (by omega)
        · obtain ⟨c1, hc1, k1⟩ := OI_kd h1
          exact absurd (nkd k1 n2.2.2.2.2.2 (by omega) (by decide)) (by omega)
        · exact (OI_OO h1 h2).elim
        · exact absurd rfl (hr 107 (by decide) n2.2.2.2.2.2).2.1
      · rcases g with (⟨T2, p2, n2, rfl, rfl⟩ | ⟨T2, p2, n2, t2, u2, rfl, rfl⟩ | ⟨T2, p2, v2, ra2, rd2, n2, t2, u2, y2, f2, rfl, rfl⟩ | ⟨T2, p2, g2, v2, ra2, rd2, n2, t2, u2, w2, x2, f2, rfl, rfl⟩ | ⟨T2, p2, l2, v2, ra2, rd2, n2, w2, x2, y2, f2, rfl, rfl⟩ | ⟨T2, p2, n2, rfl, rfl⟩ | ⟨T2, p2, c2, v2, ra2, rd2, n2, hc2, he2, f2, rfl⟩ | ⟨T2, p2, v2, ra2, rd2, n2, f2, q2, rfl, rfl⟩ | ⟨ra2, rd2, sp2, h2, rfl⟩ | ⟨rfl, rfl⟩ | ⟨T2, p2, i2, n2, -⟩) | ⟨T2, p2, v2, ra2, rd2, n2, f2, h2⟩ | ⟨T2, p2, v2, ra2, rd2, n2, f2, q2, h2⟩ | ⟨T2, p2, e2, V2, o2, ra2, rd2, sp2, FG2, n2, h2, q2⟩ | ⟨r2, xx2, lc2, ln2, ch2, V2, ra2, rd2, sp2, W2, o2, rb2, rc2, sq2, FG2, h2, b2, rfl⟩ | ⟨T2, p2, i2, V2, o2, ra2, rd2, sp2, FG2, n2, -⟩
        · exact absurd rfl h9
        · exact absurd rfl h9
        · exact absurd rfl h9
        · exact absurd rfl h9
        · exact absurd rfl h9
        · exact absurd rfl h9
        · exact absurd rfl h9
        · exact absurd rfl h9
        · exact absurd rfl h9
        · exact absurd rfl h9
        · exact absurd rfl h9
        · exact absurd rfl h9
        · exact absurd rfl h9
        · exact absurd rfl h9
        · exact absurd rfl h9
        · exact absurd rfl h9
      · rcases g with (⟨T2, p2, n2, rfl, rfl⟩ | ⟨T2, p2, n2, t2, u2, rfl, rfl⟩ | ⟨T2, p2, v2, ra2, rd2, n2, t2, u2, y2, f2, rfl, rfl⟩ | ⟨T2, p2, g2, v2, ra2, rd2, n2, t2, u2, w2, x2, f2, rfl, rfl⟩ | ⟨T2, p2, l2, v2, ra2, rd2, n2, w2, x2, y2, f2, rfl, rfl⟩ | ⟨T2, p2, n2, rfl, rfl⟩ | ⟨T2, p2, c2, v2, ra2, rd2, n2, hc2, he2, f2, rfl⟩ | ⟨T2, p2, v2, ra2, rd2, n2, f2, q2, rfl, rfl⟩ | ⟨ra2, rd2, sp2, h2, rfl⟩ | ⟨rfl, rfl⟩ | ⟨T2, p2, i2, n2, -⟩) | ⟨T2, p2, v2, ra2, rd2, n2, f2, h2⟩ | ⟨T2, p2, v2, ra2, rd2, n2, f2, q2, h2⟩ | ⟨T2, p2, e2, V2, o2, ra2, rd2, sp2, FG2, n2, h2, q2⟩ | ⟨r2, xx2, lc2, ln2, ch2, V2, ra2, rd2, sp2, W2, o2, rb2, rc2, sq2, FG2, h2, b2, rfl⟩ | ⟨T2, p2, i2, V2, o2, ra2, rd2, sp2, FG2, n2, -⟩
        · exact absurd rfl (hr 107 (by decide) n1.2.2.2.2.2).2.1
        · exact absurd rfl (hr 107 (by decide) n1.2.2.2.2.2).2.1
        · exact absurd rfl (hr 107 (by decide) n1.2.2.2.2.2).2.1
        · exact absurd rfl (hr 107 (by decide) n1.2.2.2.2.2).2.1
        · exact absurd rfl (hr 107 (by decide) n1.2.2.2.2.2).2.1
        · exact absurd rfl (hr 107 (by decide) n1.2.2.2.2.2).2.1
        · exact absurd rfl (hr 107 (by decide) n1.2.2.2.2.2).2.1
        · exact absurd rfl (hr 107 (by decide) n1.2.2.2.2.2).2.1
        · exact absurd rfl (hr 107 (by decide) n1.2.2.2.2.2).2.1
        · exact absurd rfl g9
        · exact absurd rfl (hr 107 (by decide) n1.2.2.2.2.2).2.1
        · exact absurd rfl (hr 107 (by decide) n1.2.2.2.2.2).2.1
        · exact absurd rfl (hr 107 (by decide) n1.2.2.2.2.2).2.1
        · exact absurd rfl (hr 107 (by decide) n1.2.2.2.2.2).2.1
        · exact absurd rfl (hr 107 (by decide) n1.2.2.2.2.2).2.1
        · exact absurd rfl (hr 107 (by decide) n1.2.2.2.2.2).2.1
      · rcases g with (⟨T2, p2, n2, rfl, rfl⟩ | ⟨T2, p2, n2, t2, u2, rfl, rfl⟩ | ⟨T2, p2, v2, ra2, rd2, n2, t2, u2, y2, f2, rfl, rfl⟩ | ⟨T2, p2, g2, v2, ra2, rd2, n2, t2, u2, w2, x2, f2, rfl, rfl⟩ | ⟨T2, p2, l2, v2, ra2, rd2, n2, w2, x2, y2, f2, rfl, rfl⟩ | ⟨T2, p2, n2, rfl, rfl⟩ | ⟨T2, p2, c2, v2, ra2, rd2, n2, hc2, he2, f2, rfl⟩ | ⟨T2, p2, v2, ra2, rd2, n2, f2, q2, rfl, rfl⟩ | ⟨ra2, rd2, sp2, h2, rfl⟩ | ⟨rfl, rfl⟩ | ⟨T2, p2, i2, n2, -⟩) | ⟨T2, p2, v2, ra2, rd2, n2, f2, h2⟩ | ⟨T2, p2, v2, ra2, rd2, n2, f2, q2, h2⟩ | ⟨T2, p2, e2, V2, o2, ra2, rd2, sp2, FG2, n2, h2, q2⟩ | ⟨r2, xx2, lc2, ln2, ch2, V2, ra2, rd2, sp2, W2, o2, rb2, rc2, sq2, FG2, h2, b2, rfl⟩ | ⟨T2, p2, i2, V2, o2, ra2, rd2, sp2, FG2, n2, -⟩
        · exact absurd (nkd n1.2.2.2.2.2 n2.2.2.2.2.2 (by decide) (by decide)) (by decide)
        · exact absurd (nkd n1.2.2.2.2.2 n2.2.2.2.2.2 (by decide) (by decide)) (by decide)
        · exact absurd (nkd n1.2.2.2.2.2 n2.2.2.2.2.2 (by decide) (by decide)) (by decide)
        · exact absurd (nkd n1.2.2.2.2.2 n2.2.2.2.2.2 (by decide) (by decide)) (by decide)
        · exact absurd (nkd n1.2.2.2.2.2 n2.2.2.2.2.2 (by decide) (by decide)) (by decide)
        · exact absurd (nkd n1.2.2.2.2.2 n2.2.2.2.2.2 (by decide) (by decide)) (by decide)
        · exact absurd (FE_det f1 f2).1.symm he2
        · exact absurd (nkd n1.2.2.2.2.2 n2.2.2.2.2.2 (by decide) (by decide)) (by decide)
        · obtain ⟨c2, hc2, k2⟩ := OI_kd h2
          exact absurd (nkd n1.2.2.2.2.2 k2 (by decide) (by omega)) (by omega)
        · exact absurd rfl g9
        · exact absurd rfl (hr 107 (by decide) n2.2.2.2.2.2).2.1
        · obtain ⟨-, rfl, pf⟩ := FE_det f1 f2
          have kz := (hr 63 (by decide) n1.2.2.2.2.2).2.2.1 (Or.inl rfl)
          refine cq_f pf (SBk_det hZ h1 ⟨fun _ => ?_, fun q => absurd q (by show ¬ 0 = 1; decide), fun q => absurd q (by show ¬ 2 ≤ 0; decide)⟩ hX h9 h2 g9 rfl rfl)
          by_cases tv : rv_B (rv_tr v1) = true
          · rw [if_pos tv]; exact kz.1
          · rw [if_neg tv]; exact kz.2
        · exact absurd (nkd n1.2.2.2.2.2 n2.2.2.2.2.2 (by decide) (by decide)) (by decide)
        · exact absurd (nkd n1.2.2.2.2.2 n2.2.2.2.2.2 (by decide) (by decide)) (by decide)
        · obtain ⟨c2, hc2, k2⟩ := OO_kd h2
          exact absurd (nkd n1.2.2.2.2.2 k2 (by decide) (by omega)) (by omega)
        · exact absurd rfl (hr 107 (by decide) n2.2.2.2.2.2).2.1
      · rcases g with (⟨T2, p2, n2, rfl, rfl⟩ | ⟨T2, p2, n2, t2, u2, rfl, rfl⟩ | ⟨T2, p2, v2, ra2, rd2, n2, t2, u2, y2, f2, rfl, rfl⟩ | ⟨T2, p2, g2, v2, ra2, rd2, n2, t2, u2, w2, x2, f2, rfl, rfl⟩ | ⟨T2, p2, l2, v2, ra2, rd2, n2, w2, x2, y2, f2, rfl, rfl⟩ | ⟨T2, p2, n2, rfl, rfl⟩ | ⟨T2, p2, c2, v2, ra2, rd2, n2, hc2, he2, f2, rfl⟩ | ⟨T2, p2, v2, ra2, rd2, n2, f2, q2, rfl, rfl⟩ | ⟨ra2, rd2, sp2, h2, rfl⟩ | ⟨rfl, rfl⟩ | ⟨T2, p2, i2, n2, -⟩) | ⟨T2, p2, v2, ra2, rd2, n2, f2, h2⟩ | ⟨T2, p2, v2, ra2, rd2, n2, f2, q2, h2⟩ | ⟨T2, p2, e2, V2, o2, ra2, rd2, sp2, FG2, n2, h2, q2⟩ | ⟨r2, xx2, lc2, ln2, ch2, V2, ra2, rd2, sp2, W2, o2, rb2, rc2, sq2, FG2, h2, b2, rfl⟩ | ⟨T2, p2, i2, V2, o2, ra2, rd2, sp2, FG2, n2, -⟩
        · exact absurd (nkd n1.2.2.2.2.2 n2.2.2.2.2.2 (by decide) (by decide)) (by decide)
        · exact absurd (nkd n1.2.2.2.2.2 n2.2.2.2.2.2 (by decide) (by decide)) (by decide)
        · exact absurd (nkd n1.2.2.2.2.2 n2.2.2.2.2.2 (by decide) (by decide)) (by decide)
        · exact absurd (nkd n1.2.2.2.2.2 n2.2.2.2.2.2 (by decide) (by decide)) (by decide)
        · exact absurd (nkd n1.2.2.2.2.2 n2.2.2.2.2.2 (by decide) (by decide)) (by decide)
        · exact absurd (nkd n1.2.2.2.2.2 n2.2.2.2.2.2 (by decide) (by decide)) (by decide)
        · exact absurd (FE_det f1 f2).1.symm he2
        · obtain ⟨-, rfl, pf⟩ := FE_det f1 f2
          exact absurd q1 q2
        · obtain ⟨c2, hc2, k2⟩ := OI_kd h2
          exact absurd (nkd n1.2.2.2.2.2 k2 (by decide) (by omega)) (by omega)
        · exact absurd rfl g9
        · exact absurd rfl (hr 107 (by decide) n2.2.2.2.2.2).2.1
        · exact absurd (nkd n1.2.2.2.2.2 n2.2.2.2.2.2 (by decide) (by decide)) (by decide)
        · obtain ⟨-, rfl, pf⟩ := FE_det f1 f2
          have kz := (hr 42 (by decide) n1.2.2.2.2.2).2.2.1 (Or.inr (Or.inr rfl))
          rcases h1 with ⟨x1, x2⟩ | ⟨x1, x2⟩
          · rcases h2 with ⟨y1, y2⟩ | ⟨y1, y2⟩
            · exact cq_f pf (SBk_det hZ x2 (NJ_b kz.2) hX h9 y2 g9 rfl rfl)
            · exact absurd x1 y1
          · rcases h2 with ⟨y1, y2⟩ | ⟨y1, y2⟩
            · exact absurd y1 x1
            · exact cq_f pf (SBk_det hZ x2 (NJ_l kz.1) hX h9 y2 g9 rfl rfl)
        · exact absurd (nkd n1.2.2.2.2.2 n2.2.2.2.2.2 (by decide) (by decide)) (by decide)
        · obtain ⟨c2, hc2, k2⟩ := OO_kd h2
          exact absurd (nkd n1.2.2.2.2.2 k2 (by decide) (by omega)) (by omega)
        · exact absurd rfl (hr 107 (by decide) n2.2.2.2.2.2).2.1
      · rcases g with (⟨T2, p2, n2, rfl, rfl⟩ | ⟨T2, p2, n2, t2, u2, rfl, rfl⟩ | ⟨T2, p2, v2, ra2, rd2, n2, t2, u2, y2, f2, rfl, rfl⟩ | ⟨T2, p2, g2, v2, ra2, rd2, n2, t2, u2, w2, x2, f2, rfl, rfl⟩ | ⟨T2, p2, l2, v2, ra2, rd2, n2, w2, x2, y2, f2, rfl, rfl⟩ | ⟨T2, p2, n2, rfl, rfl⟩ | ⟨T2, p2, c2, v2, ra2, rd2, n2, hc2, he2, f2, rfl⟩ | ⟨T2, p2, v2, ra2, rd2, n2, f2, q2, rfl, rfl⟩ | ⟨ra2, rd2, sp2, h2, rfl⟩ | ⟨rfl, rfl⟩ | ⟨T2, p2, i2, n2, -⟩) | ⟨T2, p2, v2, ra2, rd2, n2, f2, h2⟩ | ⟨T2, p2, v2, ra2, rd2, n2, f2, q2, h2⟩ | ⟨T2, p2, e2, V2, o2, ra2, rd2, sp2, FG2, n2, h2, q2⟩ | ⟨r2, xx2, lc2, ln2, ch2, V2, ra2, rd2, sp2, W2, o2, rb2, rc2, sq2, FG2, h2, b2, rfl⟩ | ⟨T2, p2, i2, V2, o2, ra2, rd2, sp2, FG2, n2, -⟩
        · exact absurd (nkd n1.2.2.2.2.2 n2.2.2.2.2.2 (by decide) (by decide)) (by decide)
        · exact absurd (nkd n1.2.2.2.2.2 n2.2.2.2.2.2 (by decide) (by decide)) (by decide)
        · exact absurd (nkd n1.2.2.2.2.2 n2.2.2.2.2.2 (by decide) (by decide)) (by decide)
        · exact absurd (nkd n1.2.2.2.2.2 n2.2.2.2.2.2 (by decide) (by decide)) (by decide)
        · exact absurd (nkd n1.2.2.2.2.2 n2.2.2.2.2.2 (by decide) (by decide)) (by decide)
        · exact absurd (nkd n1.2.2.2.2.2 n2.2.2.2.2.2 (by decide) (by decide)) (by decide)
        · exact absurd (nkd n1.2.2.2.2.2 n2.2.2.2.2.2 (by decide) (by omega)) (by omega)
        · exact absurd (nkd n1.2.2.2.2.2 n2.2.2.2.2.2 (by decide) (by decide)) (by decide)
        · obtain ⟨c2, hc2, k2⟩ := OI_kd h2
          exact absurd (nkd n1.2.2.2.2.2 k2 (by decide) (by omega)) (by omega)
        · exact absurd rfl g9
        · exact absurd rfl (hr 107 (by decide) n2.2.2.2.2.2).2.1
        · exact absurd (nkd n1.2.2.2.2.2 n2.2.2.2.2.2 (by decide) (by decide)) (by decide)
        · exact absurd (nkd n1.2.2.2.2.2 n2.2.2.2.2.2 (by decide) (by decide)) (by decide)
        · have kz := (hr 43 (by decide) n1.2.2.2.2.2).2.2.1 (Or.inr (Or.inl rfl))
          have m1 : ¬ e1 = Int32.ofInt (-9) := by
            rcases q1 with ⟨-, q, -⟩ | ⟨-, q, -⟩
            · rw [← q]; exact h9
            · exact q
          have m2 : ¬ e2 = Int32.ofInt (-9) := by
            rcases q2 with ⟨-, q, -⟩ | ⟨-, q, -⟩
            · rw [← q]; exact g9
            · exact q
          have c0 := SBk_det hZ h1 (NJ_b kz.1) hX m1 h2 m2 rfl rfl
          rcases q1 with ⟨x1, rfl, rfl⟩ | ⟨x1, -, x2⟩
          · have x1 := x1.resolve_right m1
            rcases q2 with ⟨y1, rfl, rfl⟩ | ⟨y1, -, y2⟩
            · obtain ⟨d1, d2, d3, d4, d5, d6⟩ := c0
              exact ⟨d1, fun _ => ⟨rfl, (d2 x1).2⟩, d3, d4, d5, d6⟩
            · exact absurd (c0.1.symm.trans x1) y1
          · rcases q2 with ⟨y1, rfl, rfl⟩ | ⟨y1, -, y2⟩
            · exact absurd (c0.1.trans (y1.resolve_right m2)) x1
            · exact cq_t (s1 := (V', o', ra1, rd1, sp1, FG1)) (s1' := (V', o', ra2, rd2, sp2, FG2)) (e1 := nI 0) ⟨rfl, fun _ => ⟨rfl, rfl⟩, c0.2.2.1, c0.2.2.2.1, c0.2.2.2.2.1, c0.2.2.2.2.2⟩ (SBk_det hZ x2 (NJ_b kz.2) hX h9 y2 g9 rfl rfl)
        · obtain ⟨c2, hc2, k2⟩ := OO_kd h2
          exact absurd (nkd n1.2.2.2.2.2 k2 (by decide) (by omega)) (by omega)
        · exact absurd rfl (hr 107 (by decide) n2.2.2.2.2.2).2.1
      · rcases g with (⟨T2, p2, n2, rfl, rfl⟩ | ⟨T2, p2, n2, t2, u2, rfl, rfl⟩ | ⟨T2, p2, v2, ra2, rd2, n2, t2, u2, y2, f2, rfl, rfl⟩ | ⟨T2, p2, g2, v2, ra2, rd2, n2, t2, u2, w2, x2, f2, rfl, rfl⟩ | ⟨T2, p2, l2, v2, ra2, rd2, n2, w2, x2, y2, f2, rfl, rfl⟩ | ⟨T2, p2, n2, rfl, rfl⟩ | ⟨T2, p2, c2, v2, ra2, rd2, n2, hc2, he2, f2, rfl⟩ | ⟨T2, p2, v2, ra2, rd2, n2, f2, q2, rfl, rfl⟩ | ⟨ra2, rd2, sp2, h2, rfl⟩ | ⟨rfl, rfl⟩ | ⟨T2, p2, i2, n2, -⟩) | ⟨T2, p2, v2, ra2, rd2, n2, f2, h2⟩ | ⟨T2, p2, v2, ra2, rd2, n2, f2, q2, h2⟩ | ⟨T2, p2, e2, V2, o2, ra2, rd2, sp2, FG2, n2, h2, q2⟩ | ⟨r2, xx2, lc2, ln2, ch2, V2, ra2, rd2, sp2, W2, o2, rb2, rc2, sq2, FG2, h2, b2, rfl⟩ | ⟨T2, p2, i2, V2, o2, ra2, rd2, sp2, FG2, n2, -⟩
        · obtain ⟨c1, hc1, k1⟩ := OO_kd h1
          exact absurd (nkd k1 n2.2.2.2.2.2 (by omega) (by decide)) (by omega)
        · obtain ⟨c1, hc1, k1⟩ := OO_kd h1
          exact absurd (nkd k1 n2.2.2.2.2.2 (by omega) (by decide)) (by omega)
        · obtain ⟨c1, hc1, k1⟩ := OO_kd h1
          exact absurd (nkd k1 n2.2.2.2.2.2 (by omega) (by decide)) (by omega)
        · obtain ⟨c1, hc1, k1⟩ := OO_kd h1
          exact absurd (nkd k1 n2.2.2.2.2.2 (by omega) (by decide)) (by omega)
        · obtain ⟨c1, hc1, k1⟩ := OO_kd h1
          exact absurd (nkd k1 n2.2.2.2.2.2 (by omega) (by decide)) (by omega)
        · obtain ⟨c1, hc1, k1⟩ := OO_kd h1
          exact absurd (nkd k1 n2.2.2.2.2.2 (by omega) (by decide)) (by omega)
        · obtain ⟨c1, hc1, k1⟩ := OO_kd h1
          exact absurd (nkd k1 n2.2.2.2.2.2 (by omega) (by omega)) (by omega)
        · obtain ⟨c1, hc1, k1⟩ := OO_kd h1
          exact absurd (nkd k1 n2.2.2.2.2.2 (by omega) (by decide)) (by omega)
        · exact (OI_OO h2 h1).elim
        · exact absurd rfl g9
        · exact absurd rfl (hr 107 (by decide) n2.2.2.2.2.2).2.1
        · obtain ⟨c1, hc1, k1⟩ := OO_kd h1
          exact absurd (nkd k1 n2.2.2.2.2.2 (by omega) (by decide)) (by omega)
        · obtain ⟨c1, hc1, k1⟩ := OO_kd h1
          exact absurd (nkd k1 n2.2.2.2.2.2 (by omega) (by decide)) (by omega)
        · obtain ⟨c1, hc1, k1⟩ := OO_kd h1
          exact absurd (nkd k1 n2.2.2.2.2.2 (by omega) (by decide)) (by omega)
        · obtain ⟨rfl, rfl, rfl, rfl, rfl, rfl, pf⟩ := OO_det h1 h2
          obtain ⟨z1, z2⟩ := OO_Z hZ hr hX h1
          obtain ⟨d1, d2, d3, d4, d5, d6⟩ := SBk_det hZ b1 (NJ_b z1) z2 h9 b2 g9 rfl rfl
          exact ⟨d1, fun q => ⟨rfl, (d2 q).2⟩, d3, d4, pw2_t pf d5, fun k q => d6 k (OO_sp h1 h2 k q)⟩
        · exact absurd rfl (hr 107 (by decide) n2.2.2.2.2.2).2.1
      · rcases g with (⟨T2, p2, n2, rfl, rfl⟩ | ⟨T2, p2, n2, t2, u2, rfl, rfl⟩ | ⟨T2, p2, v2, ra2, rd2, n2, t2, u2, y2, f2, rfl, rfl⟩ | ⟨T2, p2, g2, v2, ra2, rd2, n2, t2, u2, w2, x2, f2, rfl, rfl⟩ | ⟨T2, p2, l2, v2, ra2, rd2, n2, w2, x2, y2, f2, rfl, rfl⟩ | ⟨T2, p2, n2, rfl, rfl⟩ | ⟨T2, p2, c2, v2, ra2, rd2, n2, hc2, he2, f2, rfl⟩ | ⟨T2, p2, v2, ra2, rd2, n2, f2, q2, rfl, rfl⟩ | ⟨ra2, rd2, sp2, h2, rfl⟩ | ⟨rfl, rfl⟩ | ⟨T2, p2, i2, n2, -⟩) | ⟨T2, p2, v2, ra2, rd2, n2, f2, h2⟩ | ⟨T2, p2, v2, ra2, rd2, n2, f2, q2, h2⟩ | ⟨T2, p2, e2, V2, o2, ra2, rd2, sp2, FG2, n2, h2, q2⟩ | ⟨r2, xx2, lc2, ln2, ch2, V2, ra2, rd2, sp2, W2, o2, rb2, rc2, sq2, FG2, h2, b2, rfl⟩ | ⟨T2, p2, i2, V2, o2, ra2, rd2, sp2, FG2, n2, -⟩
        · exact absurd rfl (hr 107 (by decide) n1.2.2.2.2.2).2.1
        · exact absurd rfl (hr 107 (by decide) n1.2.2.2.2.2).2.1
        · exact absurd rfl (hr 107 (by decide) n1.2.2.2.2.2).2.1
        · exact absurd rfl (hr 107 (by decide) n1.2.2.2.2.2).2.1
        · exact absurd rfl (hr 107 (by decide) n1.2.2.2.2.2).2.1
        · exact absurd rfl (hr 107 (by decide) n1.2.2.2.2.2).2.1
        · exact absurd rfl (hr 107 (by decide) n1.2.2.2.2.2).2.1
        · exact absurd rfl (hr 107 (by decide) n1.2.2.2.2.2).2.1
        · exact absurd rfl (hr 107 (by decide) n1.2.2.2.2.2).2.1
        · exact absurd rfl g9
        · exact absurd rfl (hr 107 (by decide) n1.2.2.2.2.2).2.1
        · exact absurd rfl (hr 107 (by decide) n1.2.2.2.2.2).2.1
        · exact absurd rfl (hr 107 (by decide) n1.2.2.2.2.2).2.1
        · exact absurd rfl (hr 107 (by decide) n1.2.2.2.2.2).2.1
        · exact absurd rfl (hr 107 (by decide) n1.2.2.2.2.2).2.1
        · exact absurd rfl (hr 107 (by decide) n1.2.2.2.2.2).2.1
  | n + 1, (k + 2, r, j, v), N, B, M, S, lc, ln, op, ch, s, s1, e, h, hj, hX, h9, n', s', s1', e', g, g9, hv, ho => by
    cases n' with
    | zero => exact g.elim
    | succ n' =>
      have hr8 : Z (mj_r (u_G u) r 8) := hj.2.2 (Nat.le_add_left 2 k)
      obtain ⟨V, o, ra, rd, sp, FG⟩ := s
      obtain ⟨V', o', ra', rd', sp', FG'⟩ := s'
      obtain rfl : V' = V := hv
      obtain rfl : o' = o := ho
      rcases h with ⟨a1, rfl⟩ | ⟨a1, l, e1, V1, o1, ra1, rd1, sp1, FG1, a2, a3, a4, a5⟩
      · obtain ⟨a1, rfl⟩ := a1.resolve_right h9
        rcases g with ⟨b1, rfl⟩ | ⟨b1, -⟩
        · obtain ⟨b1, rfl⟩ := b1.resolve_right g9
          exact ⟨rfl, fun _ => ⟨rfl, rfl⟩, rfl, rfl, pw2_r, fun _ => id⟩
        · omega
      · rcases g with ⟨b1, rfl⟩ | ⟨b1, l2, e2, V2, o2, ra2, rd2, sp2, FG2, b2, b3, b4, b5⟩
        · have := (b1.resolve_right g9).1
          omega
        · obtain rfl := nkd a2 b2 (by omega) (by omega)
          have m1 : ¬ e1 = Int32.ofInt (-9) := by
            rcases a5 with ⟨-, q, -⟩ | ⟨q, -⟩
            · rw [← q]; exact h9
            · rw [q]; decide
          have m2 : ¬ e2 = Int32.ofInt (-9) := by
            rcases b5 with ⟨-, q, -⟩ | ⟨q, -⟩
            · rw [← q]; exact g9
            · rw [q]; decide
          obtain ⟨c1, c2, c3, c4, c5, c6⟩ := SBk_det hZ a4 (NJ_b hr8) hX m1 b4 m2 rfl rfl
          rcases a5 with ⟨x1, rfl, rfl⟩ | ⟨x1, x2⟩
          · rcases b5 with ⟨y1, rfl, rfl⟩ | ⟨y1, y2⟩
            · exact ⟨c1, fun q => absurd q x1, c3, c4, c5, c6⟩
            · exact absurd (c1.trans y1) x1
          · rcases b5 with ⟨y1, rfl, rfl⟩ | ⟨y1, y2⟩
            · exact absurd (c1.symm.trans x1) y1
            · obtain ⟨-, d2⟩ := c2 x1
              exact cq_t (s1 := (V', o1, ra1, rd1, sp1, FG1)) (s1' := (V', o2, ra2, rd2, sp2, FG2)) (e1 := nI 0) ⟨rfl, fun _ => ⟨rfl, d2⟩, c3, c4, c5, c6⟩ (SBk_det hZ x2 (NJ_l hr8) hX h9 y2 g9 rfl d2.symm)
end D04
