/-! WHAT THE RULES DETERMINE: which body a tag opens -/
section D02
variable {u : wo} {N : Nat} {B : Nat → Nat} {M : Nat} {S : Nat → Nat} {V V1 V1' : Nat → Nat → Option rv} {r lc op r8 r8' xx xx' lc' lc2 : Nat} {ra rd ra1 rd1 ra' rd' ra1' rd1' : Nat → Int32} {sp sp' sp1 sp1' : Nat → Bool} {e e' : Int32} {ln ln' ln2 : Nat → Nat} {ch ch' ch2 : List en}
/-- a tag that comes to no body does so whatever fragments are told -/
theorem OI_det (h : OI u r N B M S lc ln op ch V ra rd sp e ra1 rd1 sp1) (h' : OI u r N B M S lc ln op ch V ra' rd' sp' e' ra1' rd1' sp1') : e = e' ∧ pw2 ra rd ra' rd' ra1 rd1 ra1' rd1' := by
  obtain ⟨c, hc, hk⟩ := OI_kd h
  rcases h with ⟨g, k0, a1, a2, rfl, rfl, rfl⟩ | ⟨T, p, a1, a2, a3, rfl, rfl, rfl, rfl⟩ | ⟨T, p, tg, a1, a2, a3, a4, rfl, rfl, rfl, rfl⟩ | ⟨T, p, a1, a2, rfl, rfl, rfl⟩ | ⟨T, p, c1, gg, a1, a2, a3, a4, a5, rfl, rfl, rfl, rfl⟩ | ⟨c1, rm, m2, T2, x, a, e1, g', a1, a2, rfl, rfl⟩
  · rcases h' with ⟨g', k0', b1, b2, rfl, rfl, rfl⟩ | ⟨T', p', b1, b2, b3, rfl, rfl, rfl, rfl⟩ | ⟨T', p', tg', b1, -⟩ | ⟨T', p', b1, -⟩ | ⟨T', p', c2, gg', b1, b2, -⟩ | ⟨c2, rm', m2', T2', x', a', e2, g2, b1, -⟩
    · obtain ⟨rfl, rfl⟩ := BK_det a1 b1
      refine ⟨?_, pw2_r⟩
      rcases a2 with ⟨x1, rfl⟩ | ⟨x1, x2, rfl⟩
      · rcases b2 with ⟨y1, rfl⟩ | ⟨y1, y2, rfl⟩
        · rfl
        · omega
      · rcases b2 with ⟨y1, rfl⟩ | ⟨y1, y2, rfl⟩
        · omega
        · rfl
    · refine ⟨?_, pw2_r⟩
      rcases a1 with ⟨T, p, n, -⟩ | ⟨T, p, j, n, hT, q1, q2, q3, q4, q5, -⟩
      · exact absurd (nd_det n b1 (by decide) (by decide)) (by decide)
      · obtain rfl := nd_T n b1 hT b2
        rcases b3 with b3 | b3
        · exact absurd q4 (b3 j q3)
        · exact absurd (q1.symm.trans b3) (z_m1n (by omega))
    · obtain ⟨c', hc', hk'⟩ := BK_kd a1
      have := nkd hk' b1.2.2.2.2.2 (by omega) (by decide)
      omega
    · obtain ⟨c', hc', hk'⟩ := BK_kd a1
      have := nkd hk' b1.2.2.2.2.2 (by omega) (by decide)
      omega
    · obtain ⟨c', hc', hk'⟩ := BK_kd a1
      have := nkd hk' b1.2.2.2.2.2 (by omega) (by omega)
      omega
    · obtain ⟨c', hc', hk'⟩ := BK_kd a1
      obtain ⟨h1, h2⟩ := CLL_kd b1
      have := nkd hk' h2 (by omega) (by omega)
      omega
  · rcases h' with ⟨g', k0', b1, b2, rfl, rfl, rfl⟩ | ⟨T', p', b1, b2, b3, rfl, rfl, rfl, rfl⟩ | ⟨T', p', tg', b1, -⟩ | ⟨T', p', b1, -⟩ | ⟨T', p', c2, gg', b1, b2, -⟩ | ⟨c2, rm', m2', T2', x', a', e2, g2, b1, -⟩
    · refine ⟨?_, pw2_r⟩
      rcases b1 with ⟨T', p', n, -⟩ | ⟨T', p', j, n, hT, q1, q2, q3, q4, q5, -⟩
      · exact absurd (nd_det n a1 (by decide) (by decide)) (by decide)
      · obtain rfl := nd_T n a1 hT a2
        rcases a3 with a3 | a3
        · exact absurd q4 (a3 j q3)
        · exact absurd (q1.symm.trans a3) (z_m1n (by omega))
    · exact ⟨rfl, pw2_r⟩
    · exact absurd (nd_det a1 b1 (by decide) (by decide)) (by decide)
    · exact absurd (nd_det a1 b1 (by decide) (by decide)) (by decide)
    · exact absurd (nd_det a1 b1 (by decide) (by omega)) (by omega)
    · obtain ⟨h1, h2⟩ := CLL_kd b1
      exact absurd (nkd a1.2.2.2.2.2 h2 (by decide) (by omega)) (by omega)
  · rcases h' with ⟨g', k0', b1, b2, rfl, rfl, rfl⟩ | ⟨T', p', b1, b2, b3, rfl, rfl, rfl, rfl⟩ | ⟨T', p', tg', b1, b2, b3, b4, rfl, rfl, rfl, rfl⟩ | ⟨T', p', b1, -⟩ | ⟨T', p', c2, gg', b1, b2, -⟩ | ⟨c2, rm', m2', T2', x', a', e2, g2, b1, -⟩
    · obtain ⟨c', hc', hk'⟩ := BK_kd b1
      have := nkd hk' a1.2.2.2.2.2 (by omega) (by decide)
      omega
    · exact absurd (nd_det a1 b1 (by decide) (by decide)) (by decide)
    · exact ⟨rfl, pw2_r⟩
    · exact absurd (nd_det a1 b1 (by decide) (by decide)) (by decide)
    · exact absurd (nd_det a1 b1 (by decide) (by omega)) (by omega)
    · obtain ⟨h1, h2⟩ := CLL_kd b1
      exact absurd (nkd a1.2.2.2.2.2 h2 (by decide) (by omega)) (by omega)
  · rcases h' with ⟨g', k0', b1, b2, rfl, rfl, rfl⟩ | ⟨T', p', b1, b2, b3, rfl, rfl, rfl, rfl⟩ | ⟨T', p', tg', b1, b2, b3, b4, rfl, rfl, rfl, rfl⟩ | ⟨T', p', b1, b2, rfl, rfl, rfl⟩ | ⟨T', p', c2, gg', b1, b2, -⟩ | ⟨c2, rm', m2', T2', x', a', e2, g2, b1, -⟩
    · obtain ⟨c', hc', hk'⟩ := BK_kd b1
      have := nkd hk' a1.2.2.2.2.2 (by omega) (by decide)
      omega
    · exact absurd (nd_det a1 b1 (by decide) (by decide)) (by decide)
    · exact absurd (nd_det a1 b1 (by decide) (by decide)) (by decide)
    · refine ⟨?_, pw2_r⟩
      rcases a2 with ⟨x1, rfl⟩ | ⟨⟨y, L, x1⟩, x2, rfl⟩
      · rcases b2 with ⟨y1, rfl⟩ | ⟨⟨y2, L2, y1⟩, y3, rfl⟩
        · rfl
        · exact nomatch x1.symm.trans y1
      · rcases b2 with ⟨y1, rfl⟩ | ⟨⟨y2, L2, y1⟩, y3, rfl⟩
        · exact nomatch x1.symm.trans y1
        · rfl
    · exact absurd (nd_det a1 b1 (by decide) (by omega)) (by omega)
    · obtain ⟨h1, h2⟩ := CLL_kd b1
      exact absurd (nkd a1.2.2.2.2.2 h2 (by decide) (by omega)) (by omega)
  · rcases h' with ⟨g', k0', b1, b2, rfl, rfl, rfl⟩ | ⟨T', p', b1, b2, b3, rfl, rfl, rfl, rfl⟩ | ⟨T', p', tg', b1, b2, b3, b4, rfl, rfl, rfl, rfl⟩ | ⟨T', p', b1, b2, rfl, rfl, rfl⟩ | ⟨T', p', c2, gg', b1, b2, b3, b4, b5, rfl, rfl, rfl, rfl⟩ | ⟨c2, rm', m2', T2', x', a', e2, g2, b1, -⟩
    · obtain ⟨c', hc', hk'⟩ := BK_kd b1
      have := nkd hk' a1.2.2.2.2.2 (by omega) (by omega)
      omega
    · exact absurd (nd_det a1 b1 (by omega) (by decide)) (by omega)
    · exact absurd (nd_det a1 b1 (by omega) (by decide)) (by omega)
    · exact absurd (nd_det a1 b1 (by omega) (by decide)) (by omega)
    · exact ⟨rfl, pw2_r⟩
    · obtain ⟨g3, h3, h4, h5⟩ := CLL_fb b1
      obtain rfl := nkd a4 h4 (by omega) (by omega)
      exact absurd h5 a5
  · obtain ⟨hc1, hk1⟩ := CLL_kd a1
    rcases h' with ⟨g2, k0', b1, b2, rfl, rfl, rfl⟩ | ⟨T', p', b1, b2, b3, rfl, rfl, rfl, rfl⟩ | ⟨T', p', tg', b1, b2, b3, b4, rfl, rfl, rfl, rfl⟩ | ⟨T', p', b1, b2, rfl, rfl, rfl⟩ | ⟨T', p', c2, gg', b1, b2, b3, b4, b5, rfl, rfl, rfl, rfl⟩ | ⟨c2, rm', m2', T2', x', a', e2, g2, b1, b2, rfl, rfl⟩
    · obtain ⟨c', hc', hk'⟩ := BK_kd b1
      have := nkd hk' hk1 (by omega) (by omega)
      omega
    · exact absurd (nkd hk1 b1.2.2.2.2.2 (by omega) (by decide)) (by omega)
    · exact absurd (nkd hk1 b1.2.2.2.2.2 (by omega) (by decide)) (by omega)
    · exact absurd (nkd hk1 b1.2.2.2.2.2 (by omega) (by decide)) (by omega)
    · obtain ⟨g3, h3, h4, h5⟩ := CLL_fb a1
      obtain rfl := nkd b4 h4 (by omega) (by omega)
      exact absurd h5 b5
    · obtain ⟨rfl, -, -, -, p⟩ := CLL_det a1 b1
      exact ⟨rfl, p⟩
/-- none, and one opened: not both -/
theorem OI_OO (h : OI u r N B M S lc ln op ch V ra rd sp e ra1 rd1 sp1) (h' : OO u r N B M S lc ln op ch V ra' rd' sp' r8 xx lc' ln' ch' V1 ra1' rd1' sp1') : False := by
  obtain ⟨ho, h'⟩ := h'
  rcases h with ⟨g, k0, a1, a2, -⟩ | ⟨T, p, a1, a2, a3, -⟩ | ⟨T, p, tg, a1, a2, a3, a4, -⟩ | ⟨T, p, a1, a2, -⟩ | ⟨T, p, c1, gg, a1, a2, a3, a4, a5, -⟩ | ⟨c1, rm, m2, T2, x, a, e1, g', a1, a2, -⟩
  · rcases h' with ⟨g', k0', b1, b2, -⟩ | ⟨T', p', tg', b1, -⟩ | ⟨T', p', y, L, b1, -⟩ | ⟨c2, rm', m2', T2', x', a', g2, b1, -⟩
    · obtain ⟨rfl, rfl⟩ := BK_det a1 b1
      rcases a2 with ⟨x1, -⟩ | ⟨x1, x2, -⟩ <;> omega
    · obtain ⟨c', hc', hk'⟩ := BK_kd a1
      have := nkd hk' b1.2.2.2.2.2 (by omega) (by decide)
      omega
    · obtain ⟨c', hc', hk'⟩ := BK_kd a1
      have := nkd hk' b1.2.2.2.2.2 (by omega) (by decide)
      omega
    · obtain ⟨c', hc', hk'⟩ := BK_kd a1
      obtain ⟨h1, h2⟩ := CLL_kd b1
      have := nkd hk' h2 (by omega) (by omega)
      omega
  · rcases h' with ⟨g', k0', b1, b2, -⟩ | ⟨T', p', tg', b1, -⟩ | ⟨T', p', y, L, b1, -⟩ | ⟨c2, rm', m2', T2', x', a', g2, b1, -⟩
    · rcases b1 with ⟨T', p', n, -⟩ | ⟨T', p', j, n, hT, q1, q2, q3, q4, q5, -⟩
      · exact absurd (nd_det n a1 (by decide) (by decide)) (by decide)
      · obtain rfl := nd_T n a1 hT a2
        rcases a3 with a3 | a3
        · exact absurd q4 (a3 j q3)
        · exact absurd (q1.symm.trans a3) (z_m1n (by omega))
    · exact absurd (nd_det a1 b1 (by decide) (by decide)) (by decide)
    · exact absurd (nd_det a1 b1 (by decide) (by decide)) (by decide)
    · obtain ⟨h1, h2⟩ := CLL_kd b1
      exact absurd (nkd a1.2.2.2.2.2 h2 (by decide) (by omega)) (by omega)
  · rcases h' with ⟨g', k0', b1, b2, -⟩ | ⟨T', p', tg', b1, b2, b3, b4, -⟩ | ⟨T', p', y, L, b1, -⟩ | ⟨c2, rm', m2', T2', x', a', g2, b1, -⟩
    · obtain ⟨c', hc', hk'⟩ := BK_kd b1
      have := nkd hk' a1.2.2.2.2.2 (by omega) (by decide)
      omega
    · obtain rfl := nkd a2 b2 (by omega) (by omega)
      rcases a4 with q | q
      · omega
      · exact q b4
    · exact absurd (nd_det a1 b1 (by decide) (by decide)) (by decide)
    · obtain ⟨h1, h2⟩ := CLL_kd b1
      exact absurd (nkd a1.2.2.2.2.2 h2 (by decide) (by omega)) (by omega)
  · rcases h' with ⟨g', k0', b1, b2, -⟩ | ⟨T', p', tg', b1, b2, b3, b4, -⟩ | ⟨T', p', y, L, b1, b2, -⟩ | ⟨c2, rm', m2', T2', x', a', g2, b1, -⟩
    · obtain ⟨c', hc', hk'⟩ := BK_kd b1
      have := nkd hk' a1.2.2.2.2.2 (by omega) (by decide)
      omega
    · exact absurd (nd_det a1 b1 (by decide) (by decide)) (by decide)
    · rcases a2 with ⟨x1, -⟩ | ⟨-, x2, -⟩
      · exact nomatch x1.symm.trans b2
      · omega
    · obtain ⟨h1, h2⟩ := CLL_kd b1
      exact absurd (nkd a1.2.2.2.2.2 h2 (by decide) (by omega)) (by omega)
  · rcases h' with ⟨g', k0', b1, b2, -⟩ | ⟨T', p', tg', b1, b2, b3, b4, -⟩ | ⟨T', p', y, L, b1, b2, -⟩ | ⟨c2, rm', m2', T2', x', a', g2, b1, -⟩
    · obtain ⟨c', hc', hk'⟩ := BK_kd b1
      have := nkd hk' a1.2.2.2.2.2 (by omega) (by omega)
      omega
    · exact absurd (nd_det a1 b1 (by omega) (by decide)) (by omega)
    · exact absurd (nd_det a1 b1 (by omega) (by decide)) (by omega)
    · obtain ⟨g3, h3, h4, h5⟩ := CLL_fb b1
      obtain rfl := nkd a4 h4 (by omega) (by omega)
      exact absurd h5 a5
  · obtain ⟨hc1, hk1⟩ := CLL_kd a1
    rcases h' with ⟨g2, k0', b1, b2, -⟩ | ⟨T', p', tg', b1, b2, b3, b4, -⟩ | ⟨T', p', y, L, b1, b2, -⟩ | ⟨c2, rm', m2', T2', x', a', g2, b1, -⟩
    · obtain ⟨c', hc', hk'⟩ := BK_kd b1
      have := nkd hk' hk1 (by omega) (by omega)
      omega
    · exact absurd (nkd hk1 b1.2.2.2.2.2 (by omega) (by decide)) (by omega)
    · exact absurd (nkd hk1 b1.2.2.2.2.2 (by omega) (by decide)) (by omega)
    · obtain ⟨e0, -⟩ := CLL_det a1 b1
      rcases a2 with q | q
      · exact q e0
      · omega
/-- which body is opened, with what in sight -/
theorem OO_det (h : OO u r N B M S lc ln op ch V ra rd sp r8 xx lc' ln' ch' V1 ra1 rd1 sp1) (h' : OO u r N B M S lc ln op ch V ra' rd' sp' r8' xx' lc2 ln2 ch2 V1' ra1' rd1' sp1') : r8 = r8' ∧ xx = xx' ∧ lc' = lc2 ∧ ln' = ln2 ∧ ch' = ch2 ∧ V1 = V1' ∧ pw2 ra rd ra' rd' ra1 rd1 ra1' rd1' := by
  obtain ⟨-, h⟩ := h
  obtain ⟨-, h'⟩ := h'
  rcases h with ⟨g, k0, a1, a2, rfl, rfl, rfl, rfl, rfl, rfl, rfl, rfl, rfl⟩ | ⟨T, p, tg, a1, a2, a3, a4, rfl, rfl, rfl, rfl, rfl, rfl, rfl, rfl, rfl⟩ | ⟨T, p, y, L, a1, a2, rfl, rfl, rfl, rfl, rfl, rfl, rfl, rfl, rfl⟩ | ⟨c1, rm, m2, T2, x, a, g', a1, rfl, rfl, rfl, rfl, rfl, rfl, rfl⟩
  · rcases h' with ⟨g', k0', b1, b2, rfl, rfl, rfl, rfl, rfl, rfl, rfl, rfl, rfl⟩ | ⟨T', p', tg', b1, -⟩ | ⟨T', p', y, L, b1, -⟩ | ⟨c2, rm', m2', T2', x', a', g2, b1, -⟩
    · obtain ⟨rfl, rfl⟩ := BK_det a1 b1
      exact ⟨rfl, rfl, rfl, rfl, rfl, rfl, pw2_r⟩
    · obtain ⟨c', hc', hk'⟩ := BK_kd a1
      have := nkd hk' b1.2.2.2.2.2 (by omega) (by decide)
      omega
    · obtain ⟨c', hc', hk'⟩ := BK_kd a1
      have := nkd hk' b1.2.2.2.2.2 (by omega) (by decide)
      omega
    · obtain ⟨c', hc', hk'⟩ := BK_kd a1
      obtain ⟨h1, h2⟩ := CLL_kd b1
      have := nkd hk' h2 (by omega) (by omega)
      omega
  · rcases h' with ⟨g', k0', b1, -⟩ | ⟨T', p', tg', b1, b2, b3, b4, rfl, rfl, rfl, rfl, rfl, rfl, rfl, rfl, rfl⟩ | ⟨T', p', y, L, b1, -⟩ | ⟨c2, rm', m2', T2', x', a', g2, b1, -⟩
    · obtain ⟨c', hc', hk'⟩ := BK_kd b1
      have := nkd hk' a1.2.2.2.2.2 (by omega) (by decide)
      omega
    · obtain rfl := nkd a2 b2 (by omega) (by omega)
      exact ⟨rfl, rfl, rfl, rfl, rfl, rfl, pw2_r⟩
    · exact absurd (nd_det a1 b1 (by decide) (by decide)) (by decide)
    · obtain ⟨h1, h2⟩ := CLL_kd b1
      exact absurd (nkd a1.2.2.2.2.2 h2 (by decide) (by omega)) (by omega)
  · rcases h' with ⟨g', k0', b1, -⟩ | ⟨T', p', tg', b1, -⟩ | ⟨T', p', y2, L2, b1, b2, rfl, rfl, rfl, rfl, rfl, rfl, rfl, rfl, rfl⟩ | ⟨c2, rm', m2', T2', x', a', g2, b1, -⟩
    · obtain ⟨c', hc', hk'⟩ := BK_kd b1
      have := nkd hk' a1.2.2.2.2.2 (by omega) (by decide)
      omega
    · exact absurd (nd_det a1 b1 (by decide) (by decide)) (by decide)
    · obtain ⟨rfl, rfl⟩ := List.cons.inj (a2.symm.trans b2)
      exact ⟨rfl, rfl, rfl, rfl, rfl, rfl, pw2_r⟩
    · obtain ⟨h1, h2⟩ := CLL_kd b1
      exact absurd (nkd a1.2.2.2.2.2 h2 (by decide) (by omega)) (by omega)
  · obtain ⟨hc1, hk1⟩ := CLL_kd a1
    rcases h' with ⟨g2, k0', b1, -⟩ | ⟨T', p', tg', b1, -⟩ | ⟨T', p', y2, L2, b1, -⟩ | ⟨c2, rm', m2', T2', x', a', g2, b1, rfl, rfl, rfl, rfl, rfl, rfl, rfl⟩
    · obtain ⟨c', hc', hk'⟩ := BK_kd b1
      have := nkd hk' hk1 (by omega) (by omega)
      omega
    · exact absurd (nkd hk1 b1.2.2.2.2.2 (by omega) (by decide)) (by omega)
    · exact absurd (nkd hk1 b1.2.2.2.2.2 (by omega) (by decide)) (by omega)
    · obtain ⟨-, rfl, rfl, hv, p⟩ := CLL_det a1 b1
      exact ⟨rfl, rfl, rfl, rfl, rfl, by rw [hv], p⟩
end D02
