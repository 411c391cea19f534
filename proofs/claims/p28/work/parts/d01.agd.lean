/-! WHAT THE RULES DETERMINE: arguments, bodies opened -/
section D01
variable {u : wo} {N : Nat} {B : Nat → Nat} {M : Nat} {S : Nat → Nat} {V : Nat → Nat → Option rv} {m2 : Nat} {lt lt' x x' : Nat → Nat} {r j un : Nat} {ga ga1 : Nat → Nat} {av av1 : Nat → rv} {ra rd ra1 rd1 : Nat → Int32} {e : Int32} {lc op : Nat} {ln : Nat → Nat} {ch : List en}
theorem nd_det {T p c T' p' c' : Nat} (h : nd u T r p c) (h' : nd u T' r p' c') (hc : c < 200) (hc' : c' < 200) : c = c' := nk h.2.2.2.2.2 h'.2.2.2.2.2 hc hc'
theorem nd_T {T p c T' p' c' : Nat} (h : nd u T r p c) (h' : nd u T' r p' c') (hT : T < 10) (hT' : T' < 10) : T = T' := nk h.2.2.2.1 h'.2.2.2.1 (by omega) (by omega)
theorem nd_p {T p c T' p' c' : Nat} (h : nd u T r p c) (h' : nd u T' r p' c') (hp : p < 80) (hp' : p' < 80) : p = p' := nk h.2.2.2.2.1 h'.2.2.2.2.1 (by omega) (by omega)
theorem PLC_det {pl un' pl2 un2 : Nat} (hd : p_dis lt m2) (hlt : ∀ i, i < m2 → lt' i = lt i) (h : PLC u r m2 lt un pl un') (h' : PLC u r m2 lt' un pl2 un2) : pl = pl2 ∧ un' = un2 := by
  rcases h with ⟨a, b, c⟩ | ⟨l, a, b, c, d⟩
  · rcases h' with ⟨a', b', c'⟩ | ⟨l', a', b', c', d'⟩
    · exact ⟨b.trans b'.symm, c.trans c'.symm⟩
    · exact absurd (b'.symm.trans a) (z_m1n (by omega))
  · rcases h' with ⟨a', b', c'⟩ | ⟨l', a', b', c', d'⟩
    · exact absurd (b.symm.trans a') (z_m1n (by omega))
    · obtain rfl := nk b b' (by omega) (by omega)
      refine ⟨?_, c.trans c'.symm⟩
      rcases d with ⟨d1, d2⟩ | ⟨d1, d2⟩
      · rcases d' with ⟨q1, q2⟩ | ⟨q1, q2⟩
        · rw [hlt _ q1] at q2
          by_cases t1 : pl < pl2
          · exact absurd (d2.trans q2.symm) (hd pl2 q1 pl t1)
          · by_cases t2 : pl2 < pl
            · exact absurd (q2.trans d2.symm) (hd pl d1 pl2 t2)
            · omega
        · exact absurd ((hlt _ d1).trans d2) (q1 pl d1)
      · rcases d' with ⟨q1, q2⟩ | ⟨q1, q2⟩
        · exact absurd ((hlt _ q1).symm.trans q2) (d1 pl2 q1)
        · exact d2.trans q2.symm
theorem AG_det (hd : p_dis lt m2) (hlt : ∀ i, i < m2 → lt' i = lt i) (h : AG u N B M S V m2 lt r j un ga av ra rd e ga1 av1 ra1 rd1) : ∀ {ra' rd' : Nat → Int32} {e' : Int32} {ga1' : Nat → Nat} {av1' : Nat → rv} {ra1' rd1' : Nat → Int32}, AG u N B M S V m2 lt' r j un ga av ra' rd' e' ga1' av1' ra1' rd1' → e = e' ∧ ga1 = ga1' ∧ av1 = av1' ∧ ∀ k, (ra k = ra' k → ra1 k = ra1' k) ∧ (rd k = rd' k → rd1 k = rd1' k) := by
  induction h with
  | nil =>
    intro ra' rd' e' ga1' av1' ra1' rd1' g
    cases g with
    | nil => exact ⟨rfl, rfl, rfl, fun k => ⟨id, id⟩⟩
    | bad h0' h' he' => exact absurd rfl h0'
    | no h0' h' hp' hn' => exact absurd rfl h0'
    | ok h0' h' hp' hn' hr' => exact absurd rfl h0'
  | bad h0 h he =>
    intro ra' rd' e' ga1' av1' ra1' rd1' g
    cases g with
    | nil => exact absurd rfl h0
    | bad h0' h' he' =>
      obtain ⟨a, -, c⟩ := FN_det h h'
      exact ⟨a, rfl, rfl, c⟩
    | no h0' h' hp' hn' => exact absurd (FN_det h h').1 he
    | ok h0' h' hp' hn' hr' => exact absurd (FN_det h h').1 he
  | no h0 h hp hn =>
    intro ra' rd' e' ga1' av1' ra1' rd1' g
    cases g with
    | nil => exact absurd rfl h0
    | bad h0' h' he' => exact absurd (FN_det h h').1.symm he'
    | no h0' h' hp' hn' =>
      obtain ⟨-, -, c⟩ := FN_det h h'
      exact ⟨rfl, rfl, rfl, c⟩
    | ok h0' h' hp' hn' hr' =>
      obtain ⟨rfl, -⟩ := PLC_det hd hlt hp hp'
      exact absurd hn' hn
  | ok h0 h hp hn hr ih =>
    intro ra' rd' e' ga1' av1' ra1' rd1' g
    cases g with
    | nil => exact absurd rfl h0
    | bad h0' h' he' => exact absurd (FN_det h h').1.symm he'
    | no h0' h' hp' hn' =>
      obtain ⟨rfl, -⟩ := PLC_det hd hlt hp hp'
      exact absurd hn hn'
    | ok h0' h' hp' hn' hr' =>
      obtain ⟨rfl, rfl⟩ := PLC_det hd hlt hp hp'
      obtain ⟨-, rfl, c⟩ := FN_det h h'
      obtain ⟨a1, a2, a3, c2⟩ := ih hr'
      exact ⟨a1, a2, a3, fun k => ⟨fun q => (c2 k).1 ((c k).1 q), fun q => (c2 k).2 ((c k).2 q)⟩⟩
theorem p_vl_c {g : Nat → Option rv} : ∀ {m : Nat}, (∀ i, i < m → lt' i = lt i) → p_vl lt' g m = p_vl lt g m
  | 0, _ => rfl
  | m + 1, h => by
    funext l
    unfold p_vl
    rw [h m (Nat.lt_succ_self m), p_vl_c (fun i hi => h i (by omega))]
theorem DF_det (hlt : ∀ i, i < m2 → lt' i = lt i) (hx : ∀ i, i < m2 → x' i = x i) {i : Nat} {g g1 : Nat → Option rv} (h : DF u N B M S V m2 lt x i g ra rd e g1 ra1 rd1) : ∀ {ra' rd' : Nat → Int32} {e' : Int32} {g1' : Nat → Option rv} {ra1' rd1' : Nat → Int32}, DF u N B M S V m2 lt' x' i g ra' rd' e' g1' ra1' rd1' → e = e' ∧ g1 = g1' ∧ ∀ k, (ra k = ra' k → ra1 k = ra1' k) ∧ (rd k = rd' k → rd1 k = rd1' k) := by
  have cmp : ∀ {ra rd ra1 rd1 ra2 rd2 ra' rd' ra1' rd1' ra2' rd2' : Nat → Int32}, (∀ k, (ra k = ra' k → ra1 k = ra1' k) ∧ (rd k = rd' k → rd1 k = rd1' k)) → (∀ k, (ra1 k = ra1' k → ra2 k = ra2' k) ∧ (rd1 k = rd1' k → rd2 k = rd2' k)) → ∀ k, (ra k = ra' k → ra2 k = ra2' k) ∧ (rd k = rd' k → rd2 k = rd2' k) := fun a b k => ⟨fun q => (b k).1 ((a k).1 q), fun q => (b k).2 ((a k).2 q)⟩
  induction h with
  | nil =>
    intro ra' rd' e' g1' ra1' rd1' g
    cases g with
    | nil => exact ⟨rfl, rfl, fun k => ⟨id, id⟩⟩
    | non hi' hg' h6' hr' => exact absurd hi' (Nat.lt_irrefl _)
    | bad hi' hg' h6' h' he' => exact absurd hi' (Nat.lt_irrefl _)
    | dfl hi' hg' h6' h' hr' => exact absurd hi' (Nat.lt_irrefl _)
    | has hi' hg' hr' => exact absurd hi' (Nat.lt_irrefl _)
  | non hi hg h6 hr ih =>
    intro ra' rd' e' g1' ra1' rd1' g
    cases g with
    | nil => exact absurd hi (Nat.lt_irrefl _)
    | non hi' hg' h6' hr' => exact ih hr'
    | bad hi' hg' h6' h' he' => exact absurd (by rw [hx _ hi]; exact h6) h6'
    | dfl hi' hg' h6' h' hr' => exact absurd (by rw [hx _ hi]; exact h6) h6'
    | has hi' hg' hr' => exact nomatch hg.symm.trans hg'
  | bad hi hg h6 h he =>
    intro ra' rd' e' g1' ra1' rd1' g
    cases g with
    | nil => exact absurd hi (Nat.lt_irrefl _)
    | non hi' hg' h6' hr' => exact absurd (by rw [← hx _ hi]; exact h6') h6
    | bad hi' hg' h6' h' he' =>
      rw [hx _ hi, p_vl_c hlt] at h'
      obtain ⟨a, -, c⟩ := FN_det h h'
      exact ⟨a, rfl, c⟩
    | dfl hi' hg' h6' h' hr' =>
      rw [hx _ hi, p_vl_c hlt] at h'
      exact absurd (FN_det h h').1 he
    | has hi' hg' hr' => exact nomatch hg.symm.trans hg'
  | dfl hi hg h6 h hr ih =>
    intro ra' rd' e' g1' ra1' rd1' g
    cases g with
    | nil => exact absurd hi (Nat.lt_irrefl _)
    | non hi' hg' h6' hr' => exact absurd (by rw [← hx _ hi]; exact h6') h6
    | bad hi' hg' h6' h' he' =>
      rw [hx _ hi, p_vl_c hlt] at h'
      exact absurd (FN_det h h').1.symm he'
    | dfl hi' hg' h6' h' hr' =>
      rw [hx _ hi, p_vl_c hlt] at h'
      obtain ⟨-, rfl, c⟩ := FN_det h h'
      obtain ⟨a1, a2, c2⟩ := ih hr'
      exact ⟨a1, a2, cmp c c2⟩
    | has hi' hg' hr' => exact nomatch hg.symm.trans hg'
  | has hi hg hr ih =>
    intro ra' rd' e' g1' ra1' rd1' g
    cases g with
    | nil => exact absurd hi (Nat.lt_irrefl _)
    | non hi' hg' h6' hr' => exact nomatch hg.symm.trans hg'
    | bad hi' hg' h6' h' he' => exact nomatch hg.symm.trans hg'
    | dfl hi' hg' h6' h' hr' => exact nomatch hg.symm.trans hg'
    | has hi' hg' hr' => exact ih hr'
theorem BK_det {g k0 g' k0' : Nat} (h : BK u r lc ln g k0) (h' : BK u r lc ln g' k0') : g = g' ∧ k0 = k0' := by
  rcases h with ⟨T, p, n, a, b, c⟩ | ⟨T, p, j, n, hT, a, b, c, d, f, q⟩
  · rcases h' with ⟨T', p', n', a', b', c'⟩ | ⟨T', p', j', n', hT', a', b', c', d', f', q'⟩
    · exact ⟨nk a a' (by omega) (by omega), c.trans c'.symm⟩
    · exact absurd (nd_det n n' (by decide) (by decide)) (by decide)
  · rcases h' with ⟨T', p', n', a', b', c'⟩ | ⟨T', p', j', n', hT', a', b', c', d', f', q'⟩
    · exact absurd (nd_det n n' (by decide) (by decide)) (by decide)
    · obtain rfl := nd_T n n' hT hT'
      refine ⟨nk a a' (by omega) (by omega), ?_⟩
      have hjj : j = j' := by
        by_cases t1 : j < j'
        · exact absurd d (f' j t1)
        · by_cases t2 : j' < j
          · exact absurd d' (f j' t2)
          · omega
      omega
theorem BK_kd {g k0 : Nat} (h : BK u r lc ln g k0) : ∃ c, (c = 35 ∨ c = 94) ∧ mj_i (u_G u) r 0 = nI c := by
  rcases h with ⟨T, p, n, -⟩ | ⟨T, p, j, n, -⟩
  · exact ⟨35, Or.inl rfl, n.2.2.2.2.2⟩
  · exact ⟨94, Or.inr rfl, n.2.2.2.2.2⟩
theorem MCR_kd {c rm T2 : Nat} {a : Nat → Nat} (h : MCR u r lc ln c rm m2 x a T2) : (c = 33 ∨ c = 38) ∧ mj_i (u_G u) r 0 = nI c := by
  obtain ⟨h1, ⟨T, p, h2⟩, -⟩ := h
  exact ⟨h1, h2.2.2.2.2.2⟩
theorem MCR_dis {c rm T2 : Nat} {a : Nat → Nat} (h : MCR u r lc ln c rm m2 x a T2) : p_dis (p_lt (u_w u T2) a) m2 := by
  obtain ⟨-, -, gg, tg, me, -, -, -, -, -, mc⟩ := h
  exact mc_dis mc
theorem MCR_det {c rm T2 c' rm' m2' T2' : Nat} {a a' : Nat → Nat} (h : MCR u r lc ln c rm m2 x a T2) (h' : MCR u r lc ln c' rm' m2' x' a' T2') : c = c' ∧ rm = rm' ∧ T2 = T2' ∧ m2 = m2' ∧ (∀ i, i < m2 → x' i = x i) ∧ ∀ i, i < m2 → p_lt (u_w u T2) a' i = p_lt (u_w u T2) a i := by
  obtain ⟨k1, k2⟩ := MCR_kd h
  obtain ⟨k1', k2'⟩ := MCR_kd h'
  obtain rfl := nk k2 k2' (by omega) (by omega)
  obtain ⟨-, -, gg, tg, me, h1, h2, h3, h4, h5, mc⟩ := h
  obtain ⟨-, -, gg', tg', me', h1', h2', h3', h4', h5', mc'⟩ := h'
  obtain rfl := nk h2 h2' (by omega) (by omega)
  obtain rfl : T2 = T2' := h4.trans h4'.symm
  obtain ⟨rfl, rfl⟩ := Prod.mk.inj (Option.some.inj (h5.symm.trans h5'))
  obtain ⟨q1, q2, q3, q4, q5, q6, ⟨p1, p2, p3⟩, -⟩ := mc
  obtain ⟨q1', q2', q3', q4', q5', q6', ⟨p1', p2', p3'⟩, -⟩ := mc'
  have xx : ∀ i, i ≤ m2 → i ≤ m2' → x' i = x i := fun i => by
    induction i with
    | zero => intro _ _; exact q4'.symm.trans q4
    | succ i ih =>
      intro i1 i2
      obtain ⟨-, -, -, -, -, e1, -⟩ := p3 i (by omega)
      obtain ⟨-, -, -, -, -, e2, -⟩ := p3' i (by omega)
      rw [e1, e2, ih (by omega) (by omega)]
  have hm : m2 = m2' := by
    by_cases t1 : m2 < m2'
    · exact absurd ((xx m2 (Nat.le_refl _) (by omega)).trans p2) (p3' m2 t1).2.1
    · by_cases t2 : m2' < m2
      · exact absurd ((xx m2' (by omega) (Nat.le_refl _)).symm.trans p2') (p3 m2' t2).2.1
      · omega
  subst hm
  refine ⟨rfl, rfl, rfl, rfl, fun i hi => xx i (by omega) (by omega), fun i hi => ?_⟩
  obtain ⟨-, -, -, l1, l2, -⟩ := p3 i hi
  obtain ⟨-, -, -, l1', l2', -⟩ := p3' i hi
  unfold tx_L at l1 l1'
  rw [xx i (by omega) (by omega)] at l2'
  have := nk l2 l2' (by omega) (by omega)
  unfold p_lt
  omega
end D01
