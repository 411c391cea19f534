/-! WHAT THE RULES DETERMINE: arguments, bodies opened -/
section D01
variable {u : wo} {N : Nat} {B : Nat → Nat} {M : Nat} {S : Nat → Nat} {V : Nat → Nat → Option rv} {m2 : Nat} {lt lt' x x' : Nat → Nat} {r j un : Nat} {ga ga1 : Nat → Nat} {av av1 : Nat → rv} {ra rd ra1 rd1 : Nat → Int32} {e : Int32} {lc op : Nat} {ln : Nat → Nat} {ch : List en}
theorem nd_det {T p c T' p' c' : Nat} (h : nd u T r p c) (h' : nd u T' r p' c') (hc : c < 200) (hc' : c' < 200) : c = c' := nkd h.2.2.2.2.2 h'.2.2.2.2.2 hc hc'
theorem nd_T {T p c T' p' c' : Nat} (h : nd u T r p c) (h' : nd u T' r p' c') (hT : T < 10) (hT' : T' < 10) : T = T' := nkd h.2.2.2.1 h'.2.2.2.1 (by omega) (by omega)
theorem nd_p {T p c T' p' c' : Nat} (h : nd u T r p c) (h' : nd u T' r p' c') (hp : p < 80) (hp' : p' < 80) : p = p' := nkd h.2.2.2.2.1 h'.2.2.2.2.1 (by omega) (by omega)
theorem PLC_det {pl un' pl2 un2 : Nat} (hd : p_dis lt m2) (hlt : ∀ i, i < m2 → lt' i = lt i) (h : PLC u r m2 lt un pl un') (h' : PLC u r m2 lt' un pl2 un2) : pl = pl2 ∧ un' = un2 := by
  rcases h with ⟨a, b, c⟩ | ⟨l, a, b, c, d⟩
  · rcases h' with ⟨a', b', c'⟩ | ⟨l', a', b', c', d'⟩
    · exact ⟨b.trans b'.symm, c.trans c'.symm⟩
    · exact absurd (b'.symm.trans a) (z_m1n (by omega))
  · rcases h' with ⟨a', b', c'⟩ | ⟨l', a', b', c', d'⟩
    · exact absurd (b.symm.trans a') (z_m1n (by omega))
    · obtain rfl := nkd b b' (by omega) (by omega)
      refine ⟨?_, c.trans c'.symm⟩
      rcases d with ⟨d1, d2⟩ | ⟨d1, d2⟩
      · rcases d' with ⟨q1, q2⟩ | ⟨q1, q2⟩
        · rw [hlt _ q1] at q2
          by_cases t1 : pl < pl2
          · exact absurd (d2.trans q2.symm) (hd pl2 q1 pl t1)
          · by_cases t2 : pl2 < pl
            · exact absurd (q2.trans d2.symm) (hd pl d1 pl2 t2)
            · omega
        · exact absurd ((hlt _ d1).trans d2) (q1 pl d1)
      · rcases d' with ⟨q1, q2⟩ | ⟨q1, q2⟩
        · exact absurd ((hlt _ q1).symm.trans q2) (d1 pl2 q1)
        · exact d2.trans q2.symm
theorem FE_det {r : Nat} {e e' : Int32} {v v' : rv} {ra rd ra1 rd1 ra' rd' ra1' rd1' : Nat → Int32} (h : FE u N B M S V r ra rd e v ra1 rd1) (h' : FE u N B M S V r ra' rd' e' v' ra1' rd1') : e = e' ∧ v = v' ∧ pw2 ra rd ra' rd' ra1 rd1 ra1' rd1' := by
  obtain ⟨n, h⟩ := h
  obtain ⟨n', h'⟩ := h'
  exact FN_det h h'
theorem AGk_det (hd : p_dis lt m2) (hlt : ∀ i, i < m2 → lt' i = lt i) : ∀ {n r j un : Nat} {ga ga1 : Nat → Nat} {av av1 : Nat → rv} {ra rd ra1 rd1 : Nat → Int32} {e : Int32}, AGk u N B M S V m2 lt n r j un ga av ra rd e ga1 av1 ra1 rd1 → ∀ {n' : Nat} {ra' rd' : Nat → Int32} {e' : Int32} {ga1' : Nat → Nat} {av1' : Nat → rv} {ra1' rd1' : Nat → Int32}, AGk u N B M S V m2 lt' n' r j un ga av ra' rd' e' ga1' av1' ra1' rd1' → e = e' ∧ ga1 = ga1' ∧ av1 = av1' ∧ pw2 ra rd ra' rd' ra1 rd1 ra1' rd1'
  | 0, _, _, _, _, _, _, _, _, _, _, _, _, h, _, _, _, _, _, _, _, _, _ => h.elim
  | n + 1, r, j, un, ga, ga1, av, av1, ra, rd, ra1, rd1, e, h, n', ra', rd', e', ga1', av1', ra1', rd1', g => by
    cases n' with
    | zero => exact g.elim
    | succ n' =>
      rcases h with ⟨a1, rfl, rfl, rfl, rfl, rfl⟩ | ⟨a1, e1, v, ra2, rd2, a2, a3⟩
      · rcases g with ⟨b1, rfl, rfl, rfl, rfl, rfl⟩ | ⟨b1, -⟩
        · exact ⟨rfl, rfl, rfl, pw2_r⟩
        · exact absurd a1 b1
      · rcases g with ⟨b1, -⟩ | ⟨b1, e2, v2, ra3, rd3, b2, b3⟩
        · exact absurd b1 a1
        · obtain ⟨rfl, rfl, p⟩ := FE_det a2 b2
          rcases a3 with ⟨x1, rfl, rfl, rfl, rfl, rfl⟩ | ⟨x1, pl, un', x2, x3⟩
          · rcases b3 with ⟨y1, rfl, rfl, rfl, rfl, rfl⟩ | ⟨y1, -⟩
            · exact ⟨rfl, rfl, rfl, p⟩
            · exact absurd y1 x1
          · rcases b3 with ⟨y1, -⟩ | ⟨y1, pl2, un2, y2, y3⟩
            · exact absurd x1 y1
            · obtain ⟨rfl, rfl⟩ := PLC_det hd hlt x2 y2
              rcases x3 with ⟨z1, rfl, rfl, rfl, rfl, rfl⟩ | ⟨z1, z2⟩
              · rcases y3 with ⟨w1, rfl, rfl, rfl, rfl, rfl⟩ | ⟨w1, -⟩
                · exact ⟨rfl, rfl, rfl, p⟩
                · exact absurd w1 z1
              · rcases y3 with ⟨w1, -⟩ | ⟨w1, w2⟩
                · exact absurd z1 w1
                · obtain ⟨c1, c2, c3, p2⟩ := AGk_det hd hlt z2 w2
                  exact ⟨c1, c2, c3, pw2_t p p2⟩
theorem p_vl_cc {g : Nat → Option rv} : ∀ {m : Nat}, (∀ i, i < m → lt' i = lt i) → p_vl lt' g m = p_vl lt g m
  | 0, _ => rfl
  | m + 1, h => by
    funext l
    unfold p_vl
    rw [h m (Nat.lt_succ_self m), p_vl_cc (fun i hi => h i (by omega))]
theorem DFk_det (hlt : ∀ i, i < m2 → lt' i = lt i) (hx : ∀ i, i < m2 → x' i = x i) : ∀ {n i : Nat} {g g1 : Nat → Option rv} {ra rd ra1 rd1 : Nat → Int32} {e : Int32}, DFk u N B M S V m2 lt x n i g ra rd e g1 ra1 rd1 → ∀ {n' : Nat} {ra' rd' : Nat → Int32} {e' : Int32} {g1' : Nat → Option rv} {ra1' rd1' : Nat → Int32}, DFk u N B M S V m2 lt' x' n' i g ra' rd' e' g1' ra1' rd1' → e = e' ∧ g1 = g1' ∧ pw2 ra rd ra' rd' ra1 rd1 ra1' rd1'
  | 0, _, _, _, _, _, _, _, _, h, _, _, _, _, _, _, _, _ => h.elim
  | n + 1, i, g, g1, ra, rd, ra1, rd1, e, h, n', ra', rd', e', g1', ra1', rd1', k => by
    cases n' with
    | zero => exact k.elim
    | succ n' =>
      rcases h with ⟨a1, rfl, rfl, rfl, rfl⟩ | ⟨a1, a2⟩
      · rcases k with ⟨b1, rfl, rfl, rfl, rfl⟩ | ⟨b1, -⟩
        · exact ⟨rfl, rfl, pw2_r⟩
        · omega
      · rcases k with ⟨b1, -⟩ | ⟨b1, b2⟩
        · omega
        · have hxi := hx i a1
          rcases a2 with ⟨v, x1, x2⟩ | ⟨x1, x2, x3⟩ | ⟨x1, x2, e1, v, ra2, rd2, x3, x4⟩
          · rcases b2 with ⟨v2, y1, y2⟩ | ⟨y1, y2, y3⟩ | ⟨y1, y2, e2, v2, ra3, rd3, y3, y4⟩
            · exact DFk_det hlt hx x2 y2
            · exact nomatch x1.symm.trans y1
            · exact nomatch x1.symm.trans y1
          · rcases b2 with ⟨v2, y1, y2⟩ | ⟨y1, y2, y3⟩ | ⟨y1, y2, e2, v2, ra3, rd3, y3, y4⟩
            · exact nomatch x1.symm.trans y1
            · exact DFk_det hlt hx x3 y3
            · exact absurd (by rw [hxi]; exact x2) y2
          · rcases b2 with ⟨v2, y1, y2⟩ | ⟨y1, y2, y3⟩ | ⟨y1, y2, e2, v2, ra3, rd3, y3, y4⟩
            · exact nomatch x1.symm.trans y1
            · exact absurd (by rw [← hxi]; exact y2) x2
            · rw [hxi, p_vl_cc hlt] at y3
              obtain ⟨rfl, rfl, p⟩ := FE_det x3 y3
              rcases x4 with ⟨z1, rfl, rfl, rfl, rfl⟩ | ⟨z1, z2⟩
              · rcases y4 with ⟨w1, rfl, rfl, rfl, rfl⟩ | ⟨w1, -⟩
                · exact ⟨rfl, rfl, p⟩
                · exact absurd w1 z1
              · rcases y4 with ⟨w1, -⟩ | ⟨w1, w2⟩
                · exact absurd z1 w1
                · obtain ⟨c1, c2, p2⟩ := DFk_det hlt hx z2 w2
                  exact ⟨c1, c2, pw2_t p p2⟩
theorem BK_det {g k0 g' k0' : Nat} (h : BK u r lc ln g k0) (h' : BK u r lc ln g' k0') : g = g' ∧ k0 = k0' := by
  rcases h with ⟨T, p, n, a, b, c⟩ | ⟨T, p, j, n, hT, a, b, c, d, f, q⟩
  · rcases h' with ⟨T', p', n', a', b', c'⟩ | ⟨T', p', j', n', hT', a', b', c', d', f', q'⟩
    · exact ⟨nkd a a' (by omega) (by omega), c.trans c'.symm⟩
    · exact absurd (nd_det n n' (by decide) (by decide)) (by decide)
  · rcases h' with ⟨T', p', n', a', b', c'⟩ | ⟨T', p', j', n', hT', a', b', c', d', f', q'⟩
    · exact absurd (nd_det n n' (by decide) (by decide)) (by decide)
    · obtain rfl := nd_T n n' hT hT'
      refine ⟨nkd a a' (by omega) (by omega), ?_⟩
      have hjj : j = j' := by
        by_cases t1 : j < j'
        · exact absurd d (f' j t1)
        · by_cases t2 : j' < j
          · exact absurd d' (f j' t2)
          · omega
      omega
theorem BK_kd {g k0 : Nat} (h : BK u r lc ln g k0) : ∃ c, (c = 35 ∨ c = 94) ∧ mj_i (u_G u) r 0 = nI c := by
  rcases h with ⟨T, p, n, -⟩ | ⟨T, p, j, n, -⟩
  · exact ⟨35, Or.inl rfl, n.2.2.2.2.2⟩
  · exact ⟨94, Or.inr rfl, n.2.2.2.2.2⟩
theorem MCR_kd {c rm T2 : Nat} {a : Nat → Nat} (h : MCR u r lc ln c rm m2 x a T2) : (c = 33 ∨ c = 38) ∧ mj_i (u_G u) r 0 = nI c := by
  obtain ⟨h1, ⟨T, p, h2⟩, -⟩ := h
  exact ⟨h1, h2.2.2.2.2.2⟩
theorem MCR_dis {c rm T2 : Nat} {a : Nat → Nat} (h : MCR u r lc ln c rm m2 x a T2) : p_dis (p_lt (u_w u T2) a) m2 := by
  obtain ⟨-, -, gg, tg, me, -, -, -, -, -, mc⟩ := h
  exact mc_dis mc
theorem MCR_det {c rm T2 c' rm' m2' T2' : Nat} {a a' : Nat → Nat} (h : MCR u r lc ln c rm m2 x a T2) (h' : MCR u r lc ln c' rm' m2' x' a' T2') : c = c' ∧ rm = rm' ∧ T2 = T2' ∧ m2 = m2' ∧ (∀ i, i < m2 → x' i = x i) ∧ ∀ i, i < m2 → p_lt (u_w u T2) a' i = p_lt (u_w u T2) a i := by
  obtain ⟨k1, k2⟩ := MCR_kd h
  obtain ⟨k1', k2'⟩ := MCR_kd h'
  obtain rfl := nkd k2 k2' (by omega) (by omega)
  obtain ⟨-, -, gg, tg, me, h1, h2, h3, h4, h5, mc⟩ := h
  obtain ⟨-, -, gg', tg', me', h1', h2', h3', h4', h5', mc'⟩ := h'
  obtain rfl := nkd h2 h2' (by omega) (by omega)
  obtain rfl : T2 = T2' := h4.trans h4'.symm
  obtain ⟨rfl, rfl⟩ := Prod.mk.inj (Option.some.inj (h5.symm.trans h5'))
  obtain ⟨q1, q2, q3, q4, q5, q6, ⟨p1, p2, p3⟩, -⟩ := mc
  obtain ⟨q1', q2', q3', q4', q5', q6', ⟨p1', p2', p3'⟩, -⟩ := mc'
  have xx : ∀ i, i ≤ m2 → i ≤ m2' → x' i = x i := fun i => by
    induction i with
    | zero => intro _ _; exact q4'.symm.trans q4
    | succ i ih =>
      intro i1 i2
      obtain ⟨-, -, -, -, -, e1, -⟩ := p3 i (by omega)
      obtain ⟨-, -, -, -, -, e2, -⟩ := p3' i (by omega)
      rw [e1, e2, ih (by omega) (by omega)]
  have hm : m2 = m2' := by
    by_cases t1 : m2 < m2'
    · exact absurd ((xx m2 (Nat.le_refl _) (by omega)).trans p2) (p3' m2 t1).2.1
    · by_cases t2 : m2' < m2
      · exact absurd ((xx m2' (by omega) (Nat.le_refl _)).symm.trans p2') (p3 m2' t2).2.1
      · omega
  subst hm
  refine ⟨rfl, rfl, rfl, rfl, fun i hi => xx i (by omega) (by omega), fun i hi => ?_⟩
  obtain ⟨-, -, -, l1, l2, -⟩ := p3 i hi
  obtain ⟨-, -, -, l1', l2', -⟩ := p3' i hi
  unfold tx_L at l1 l1'
  rw [xx i (by omega) (by omega)] at l2'
  have := nkd l2 l2' (by omega) (by omega)
  unfold p_lt
  omega
theorem CLL_det {c rm T2 c' rm' m2' T2' : Nat} {a a' : Nat → Nat} {g g' : Nat → Option rv} {e' : Int32} {ra' rd' ra1' rd1' : Nat → Int32} (h : CLL u r N B M S lc ln V ra rd c rm m2 T2 x a e g ra1 rd1) (h' : CLL u r N B M S lc ln V ra' rd' c' rm' m2' T2' x' a' e' g' ra1' rd1') : e = e' ∧ c = c' ∧ rm = rm' ∧ p_vl (p_lt (u_w u T2) a) g m2 = p_vl (p_lt (u_w u T2') a') g' m2' ∧ pw2 ra rd ra' rd' ra1 rd1 ra1' rd1' := by
  obtain ⟨h1, e1, ga, av, ra2, rd2, ⟨n, h2⟩, h3⟩ := h
  obtain ⟨k1, e2, ga', av', ra3, rd3, ⟨n', k2⟩, k3⟩ := h'
  obtain ⟨rfl, rfl, rfl, rfl, hx, hl⟩ := MCR_det h1 k1
  obtain ⟨rfl, rfl, rfl, p⟩ := AGk_det (MCR_dis h1) hl h2 k2
  rcases h3 with ⟨a1, rfl, rfl, rfl, rfl⟩ | ⟨a1, n2, a2⟩
  · rcases k3 with ⟨b1, rfl, rfl, rfl, rfl⟩ | ⟨b1, -⟩
    · exact ⟨rfl, rfl, rfl, (p_vl_cc hl).symm, p⟩
    · exact absurd b1 a1
  · rcases k3 with ⟨b1, -⟩ | ⟨b1, n3, b2⟩
    · exact absurd a1 b1
    · obtain ⟨rfl, rfl, p2⟩ := DFk_det hl hx a2 b2
      exact ⟨rfl, rfl, rfl, (p_vl_cc hl).symm, pw2_t p p2⟩
theorem CLL_kd {c rm T2 : Nat} {a : Nat → Nat} {g : Nat → Option rv} (h : CLL u r N B M S lc ln V ra rd c rm m2 T2 x a e g ra1 rd1) : (c = 33 ∨ c = 38) ∧ mj_i (u_G u) r 0 = nI c := MCR_kd h.1
theorem CLL_fb {c rm T2 : Nat} {a : Nat → Nat} {g : Nat → Option rv} (h : CLL u r N B M S lc ln V ra rd c rm m2 T2 x a e g ra1 rd1) : ∃ gg, gg < 10 ∧ mj_i (u_G u) r 3 = nI gg ∧ l_fb (u_qm u gg) ln lc 0 < lc := by
  obtain ⟨⟨-, -, gg, tg, me, h1, h2, h3, -⟩, -⟩ := h
  exact ⟨gg, h1, h2, h3⟩
/-- the kind of a tag that opens a body -/
theorem OI_kd {sp sp' : Nat → Bool} (h : OI u r N B M S lc ln op ch V ra rd sp e ra1 rd1 sp') : ∃ c, (c = 35 ∨ c = 94 ∨ c = 64 ∨ c = 126 ∨ c = 33 ∨ c = 38) ∧ mj_i (u_G u) r 0 = nI c := by
  rcases h with ⟨g, k0, h, -⟩ | ⟨T, p, h, -⟩ | ⟨T, p, tg, h, -⟩ | ⟨T, p, h, -⟩ | ⟨T, p, c, gg, h, hc, -⟩ | ⟨c, rm, m2, T2, x, a, e1, g', h, -⟩
  · obtain ⟨c, h1, h2⟩ := BK_kd h
    exact ⟨c, by omega, h2⟩
  · exact ⟨94, by decide, h.2.2.2.2.2⟩
  · exact ⟨64, by decide, h.2.2.2.2.2⟩
  · exact ⟨126, by decide, h.2.2.2.2.2⟩
  · exact ⟨c, by omega, h.2.2.2.2.2⟩
  · obtain ⟨h1, h2⟩ := CLL_kd h
    exact ⟨c, by omega, h2⟩
theorem OO_kd {sp sp' : Nat → Bool} {r8 xx lc' : Nat} {ln' : Nat → Nat} {ch' : List en} {V1 : Nat → Nat → Option rv} (h : OO u r N B M S lc ln op ch V ra rd sp r8 xx lc' ln' ch' V1 ra1 rd1 sp') : ∃ c, (c = 35 ∨ c = 94 ∨ c = 64 ∨ c = 126 ∨ c = 33 ∨ c = 38) ∧ mj_i (u_G u) r 0 = nI c := by
  rcases h.2 with ⟨g, k0, h, -⟩ | ⟨T, p, tg, h, -⟩ | ⟨T, p, y, L, h, -⟩ | ⟨c, rm, m2, T2, x, a, g', h, -⟩
  · obtain ⟨c, h1, h2⟩ := BK_kd h
    exact ⟨c, by omega, h2⟩
  · exact ⟨64, by decide, h.2.2.2.2.2⟩
  · exact ⟨126, by decide, h.2.2.2.2.2⟩
  · obtain ⟨h1, h2⟩ := CLL_kd h
    exact ⟨c, by omega, h2⟩
end D01
