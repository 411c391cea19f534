/-! ARGUMENTS found by the model -/
section ZZE
variable {u : wo} {Gm : mj_G} {f f1 f' : mm_F} {P S1 R1 : Nat → Prop} {T T2 p q s d tg rm me un un' j pl r k i : Nat} {x a lt : Nat → Nat} {ga : Nat → Nat} {av : Nat → rv} {m2 : Nat} {e : Int32} {v : rv} {N : Nat} {B : Nat → Nat} {M : Nat} {S : Nat → Nat} {lc : Nat} {ln : Nat → Nat} {op : Nat} {ch : List en} {V : Nat → Nat → Option rv} {o : ost} {ra rd : Nat → Int32} {sp : Nat → Bool} {st hts : Nat} {FG : Nat → kfr} {V' : Nat → Nat → Option rv} {o' : ost} {ra' rd' : Nat → Int32} {sp' : Nat → Bool} {st' hts' : Nat} {FG' : Nat → kfr} {bg : Nat → Nat} {vc li LC : Nat} {ci : Int32} {CA tr : Nat}
theorem mv_fr (h : mv f k v) (hv : rv_ok v) (F : mw P S1 R1 f f') (hP : ¬ P k) : mv f' k v := by
  obtain ⟨h1, h2, h3, h4, h5, h6⟩ := h
  have r : ∀ a, 1728 ≤ a → a ≤ 1731 → f' a k = f a k := fun a a1 a2 => F.2.2.1 a k a1 a2 hP
  refine ⟨(r _ (by decide) (by decide)).trans h1, (r _ (by decide) (by decide)).trans h2, (r _ (by decide) (by decide)).trans h3, fun q => (r _ (by decide) (by decide)).trans (h4 q), fun q => (r _ (by decide) (by decide)).trans (h5 q), fun q j hj => (F.2.2.2 _ ?_).trans (h6 q j hj)⟩
  have := (hv.2.2.2.1 q).1
  rw [show (300 * k + j) / 300 = k by omega]
  exact hP
theorem u2_same {y : Int32} (h : f 1714 j = y) : mj_u2 f 1714 j y = f := by
  funext a i
  unfold mj_u2
  by_cases hq : a = 1714 ∧ i = j
  · rw [if_pos hq, hq.1, hq.2, h]
  · rw [if_neg hq]
/-- an expression found in a template, some places taken -/
theorem p_f3 {K : Int32 → mm_F → Prop} (hM : mm_S Gm) (hT : T < 10) (h10 : ∀ x, x ∈ ch → en_n x ≤ 10) (h : MM u f N B M S lc ln op ch V o ra rd sp st hts FG (nI 0) bg vc li LC ci CA tr (nI (320 + j))) (hj : j ≤ 3) (hf : fnM Gm T (u_w u T) (u_n u T) (u_D u) (u_I u) N B V M S N p q ra rd e v ra' rd') (hpq : p ≤ q) (hq : q ≤ u_n u T) (h124 : ¬ u_w u T q = 124) (hd : 3 * (q - p) + 50 ≤ d)
    (h1 : e = nI 0 → ∀ f', MM u f' N B M S lc ln op ch V o ra' rd' sp st hts FG (nI 0) bg vc li LC ci CA tr (nI (320 + (j + 1))) → mF tr LC CA f f' → mw (fun k => 320 + j ≤ k) (fun j => j = 21 ∨ j = 22 ∨ j = 23 ∨ j = 70) R_n f f' → mv f' (320 + j) v → f' 1714 23 = nI q → K (nI (320 + j)) f')
    (h2 : ¬ e = nI 0 → ∀ y f' fe, MM u f' N B M S lc ln op ch V o ra' rd' sp st hts FG e bg vc li LC ci CA tr fe → mF tr LC CA f f' → (∃ pp, pp ≤ q ∧ f' 1714 23 = nI pp) → K y f') : m_finds2 Gm (d + 2) (nI T) (nI p) f K := by
  have hT1 := MM_T h hT
  have hn80 := hT1.2.1.1
  have hW := hT1.2.1
  refine w_m_finds2 hM ?_
  have F0 : mw (fun k => 320 + j ≤ k) (fun j => j = 21 ∨ j = 22 ∨ j = 23 ∨ j = 70) R_n f (mj_u2 (mj_u2 f 1714 22 (nI T)) 1714 23 (nI p)) := mw_t (mw_S (by decide)) (mw_S (by decide))
  obtain ⟨w1, w2, w3, w4⟩ := h.1
  have h0 := h
  obtain ⟨-, hs, ⟨m1, m2, m3, m4, m5, m6⟩, -, -, -, -, h8, -⟩ := h0
  have hfm : fm T (u_w u T) (u_n u T) (u_D u) (u_I u) N B V M S N ra rd (320 + j) p (mj_u2 (mj_u2 f 1714 22 (nI T)) 1714 23 (nI p)) := by
    refine ⟨⟨mt_o hT1 (fun _ => rfl) (fun _ => rfl), ?_⟩, ?_, me_f m1 F0 (fun i q => by omega) (by decide) (fun a q => by unfold R_n at q; omega), ?_, hs.2.1, h8, hs.2.2.1, z_u2s⟩
    · exact (z_u2m (by decide)).trans z_u2s
    · exact w3
    · exact ⟨m4.1, m4.2.1, m4.2.2⟩
  refine hf _ (320 + j) hfm (by omega) (by omega) d K hd ⟨fun he f' z1 z2 z3 => ?_, fun he f' k m0 pp z1 z2 z3 z4 z5 z6 z7 z8' z8 z9 => ?_⟩
  · have F1 : mw (fun k => 320 + j ≤ k) (fun j => j = 21 ∨ j = 22 ∨ j = 23 ∨ j = 70) R_n f f' := mw_t F0 (mw_m z1 (fun _ q => q) (fun j q => by unfold zS at q; omega) (fun _ q => q))
    have z2' := z2
    obtain ⟨-, -, -, g4, -, g6, g7, g8⟩ := z2'
    obtain ⟨a1, a2⟩ := MM_v h h10 (mw_m F1 (fun k q => by omega) (fun _ q => q) (fun _ q => q)) g4 g6 g7
    exact fin5 hM hW z2 (by omega) hq h124 (h1 he f' a1 a2 F1 z3 g8)
  · have F1 : mw (fun k => 320 + j ≤ k) (fun j => j = 21 ∨ j = 22 ∨ j = 23 ∨ j = 70) R_n f f' := mw_t F0 (mw_m z1 (fun _ q => q) (fun j q => by unfold zS at q; omega) (fun _ q => q))
    obtain ⟨a1, a2⟩ := MM_v h h10 (mw_m F1 (fun k q => by omega) (fun _ q => q) (fun _ q => q)) z8 z9 rfl
    exact bad5 hM z9 he (h2 he _ f' _ a1 a2 ⟨pp, z7, z8'⟩)
/-- something has failed: the loop of arguments ends -/
theorem p_fa12x {x1 x2 x5 x7 : Int32} {K : Int32 → mm_F → Prop} (hM : mm_S Gm) (hT : mt_T f T (u_w u T) (u_n u T)) (hp : p ≤ 400) (hd : 15 ≤ d) (h70 : ¬ f 1714 70 = nI 0) (hK : ∀ y, K y f) : m_findsArguments_12 Gm (d + 1) x1 x2 (nI T) x5 (nI p) x7 f K :=
  w_m_findsArguments_12 hM hd (c_letter hM hT hp (z_br (fun _ => hK _) (fun _ => z_bf h70 (hK _))))
/-- no argument is left -/
theorem p_fa12e {x1 x2 x5 x7 : Int32} {K : Int32 → mm_F → Prop} (hM : mm_S Gm) (hT : mt_T f T (u_w u T) (u_n u T)) (hp : p < u_n u T) (h125 : u_w u T p = 125) (hd : 15 ≤ d) (hK : K x5 f) : m_findsArguments_12 Gm (d + 1) x1 x2 (nI T) x5 (nI p) x7 f K := by
  have hn := hT.2.1.1
  refine w_m_findsArguments_12 hM hd (c_letter hM hT (by omega) (z_bt ?_ hK))
  rw [tx_nxi hp, h125]
/-- an argument that may not be -/
theorem p_fa199x {x1 x2 x5 x7 x10 x11 : Int32} {K : Int32 → mm_F → Prop} (hM : mm_S Gm) (hT : T < 10) (h10 : ∀ x, x ∈ ch → en_n x ≤ 10) {fe : Int32} (h : MM u f N B M S lc ln op ch V o ra rd sp st hts FG (nI 0) bg vc li LC ci CA tr fe) (hq : q ≤ 300) (hd : 15 ≤ d) (hK : ∀ y f', MM u f' N B M S lc ln op ch V o ra rd sp st hts FG (Int32.ofInt (-6)) bg vc li LC ci CA tr fe → mF tr LC CA f f' → K y f') : m_findsArguments_199 Gm (d + 1) x1 x2 (nI T) x5 (nI q) x7 x10 x11 (nI 0) (Int32.ofInt (-6)) f K := by
  obtain ⟨b1, b2⟩ := MM_e (e' := Int32.ofInt (-6)) (f' := mj_u2 f 1714 70 (Int32.ofInt (-6))) h h10 (mw_S rfl) z_u2s (by decide)
  have hT1 := MM_T b1 hT
  have h70 : ¬ (mj_u2 f 1714 70 (Int32.ofInt (-6))) 1714 70 = nI 0 := by rw [z_u2s]; decide
  refine w_m_findsArguments_199 hM (z_bt rfl (c_letter hM hT1 (by omega) (z_br (fun _ => ?_) (fun _ => ?_))))
  · rw [z_add]
    exact p_fa12x hM hT1 (by omega) hd h70 (fun y => hK y _ b1 b2)
  · rw [z_add]
    exact p_fa12x hM hT1 (by omega) hd h70 (fun y => hK y _ b1 b2)
/-- an argument that was found: where it goes -/
theorem p_fa135 {x2 s0 s1 : Int32} {K : Int32 → mm_F → Prop} (hM : mm_S Gm) (hT : T < 10) (h10 : ∀ x, x ∈ ch → en_n x ≤ 10) (mc : mcP u T2 tg rm x a m2 me) (h : MM u f N B M S lc ln op ch V o ra rd sp st hts FG (nI 0) bg vc li LC ci CA tr (nI (320 + (j + 1)))) (hj : j < 3) (hga : ∀ k, ga k = 3 ∨ ga k < j) (hpl : pl ≤ 3) (hs : s0 + s1 = nI un') (hq : q < u_n u T) (hd : 302 ≤ d)
    (h2 : ¬ (pl < m2 ∧ ga pl = 3) → ∀ y f' fe, MM u f' N B M S lc ln op ch V o ra rd sp st hts FG (Int32.ofInt (-6)) bg vc li LC ci CA tr fe → mF tr LC CA f f' → K y f')
    (h3 : pl < m2 → ga pl = 3 → m_findsArguments_12 Gm (d + 1) (nI T2) (nI tg) (nI T) (gI (g_u ga pl j)) (nI (if u_w u T q = 44 then q + 1 else q)) (nI un') f K) : m_findsArguments_135 Gm (d + 1) (nI T2) (nI tg) (nI T) (gI ga) (nI q) (nI (320 + j)) (nI pl) s0 s1 f K := by
  have mc0 := mc
  obtain ⟨c1, c2, c3, c4, c5, c6, c7, c8, c9⟩ := mc
  have hT2 := MM_T h c1
  have hn2 := hT2.2.1.1
  have hT1 := MM_T h hT
  have hn := hT1.2.1.1
  have hg4 : ∀ k, k < 3 → ga k < 4 := fun k _ => by have := hga k; omega
  have bad : ∀ x10 x11, ¬ (pl < m2 ∧ ga pl = 3) → m_findsArguments_199 Gm (d + 1) (nI T2) (nI tg) (nI T) (gI ga) (nI q) (s0 + s1) x10 x11 (nI 0) (Int32.ofInt (-6)) f K := fun x10 x11 hno => p_fa199x hM hT h10 h (by omega) (by omega) (fun y f' b1 b2 => h2 hno y f' _ b1 b2)
  refine w_m_findsArguments_135 hM (z_br (fun t => bad _ _ ?_) (fun t => ?_))
  · rw [z_le (by omega) (by omega)] at t
    omega
  rw [z_le (by omega) (by omega)] at t
  refine p_pat hM hT2 c7 c5 c6 (by omega) c8 c9 (by omega) (c_letter hM hT2 ?_ ?_)
  · by_cases t2 : pl < m2
    · rw [if_pos t2]
      have := pA_le c7 (j := m2 - pl) (i := pl) (by omega)
      omega
    · rw [if_neg t2]
      omega
  · by_cases t2 : pl < m2
    · have hal := pA_le c7 (j := m2 - pl) (i := pl) (by omega)
      have hl := mc_lt mc0 t2
      rw [if_pos t2, tx_nxi (by omega), z_eq (by omega) (by omega)]
      refine z_bf (by omega) ?_
      rw [gi_get hg4 (by omega), gi_255 (hg4 pl (by omega))]
      refine z_br (fun t3 => ?_) (fun t3 => bad _ _ (fun y => t3 y.2))
      refine w_m_findsArguments_199 hM (z_bf (by decide) ?_)
      rw [u2_same h.2.2.2.2.2.2.2.1, hs, gi_put hg4 (by omega) hj]
      have hw := tx_le hT1.2.1 q
      have k3 := h3 t2 t3
      refine c_letter hM hT1 (by omega) ?_
      rw [tx_nxi hq, z_eq (by omega) (by omega), z_add, z_add]
      refine z_br (fun t4 => ?_) (fun t4 => ?_)
      · rw [if_pos t4] at k3
        exact k3
      · rw [if_neg t4] at k3
        exact k3
    · rw [if_neg t2, tx_nxi c9, c8]
      exact z_bt rfl (bad _ _ (fun y => t2 y.1))
/-- an argument, by the model -/
theorem p_fa12 {y4 : Int32} {K : Int32 → mm_F → Prop} (hM : mm_S Gm) (hT : T < 10) (h10 : ∀ x, x ∈ ch → en_n x ≤ 10) (mc : mcP u T2 tg rm x a m2 me) (h : MM u f N B M S lc ln op ch V o ra rd sp st hts FG (nI 0) bg vc li LC ci CA tr (nI (320 + j))) (hj : j < 3) (hga : ∀ k, ga k = 3 ∨ ga k < j) (hav : ∀ i, i < j → mv f (320 + i) (av i)) (hok : ∀ i, i < j → rv_ok (av i)) (hun : un ≤ j)
    (hah : tx_ah (u_w u T) p s y4) (hp125 : ¬ u_w u T p = 125)
    (hx : (¬ (tx_L (u_w u T p) ∧ u_w u T (p + 1) = 58) ∧ pl = un ∧ un' = un + 1) ∨ (tx_L (u_w u T p) ∧ u_w u T (p + 1) = 58 ∧ un' = un ∧ ((pl < m2 ∧ u_w u T2 (a pl) = u_w u T p) ∨ ((∀ i, i < m2 → ¬ u_w u T2 (a i) = u_w u T p) ∧ pl = 3))))
    (hfn : fnM Gm T (u_w u T) (u_n u T) (u_D u) (u_I u) N B V M S N s q ra rd e v ra' rd') (hsq : s < q) (hq : q < u_n u T) (h124 : ¬ u_w u T q = 124) (hd : 304 ≤ d)
    (h1 : ¬ e = nI 0 → ∀ y f' fe, MM u f' N B M S lc ln op ch V o ra' rd' sp st hts FG e bg vc li LC ci CA tr fe → mF tr LC CA f f' → K y f')
    (h2 : e = nI 0 → ¬ (pl < m2 ∧ ga pl = 3) → ∀ y f' fe, MM u f' N B M S lc ln op ch V o ra' rd' sp st hts FG (Int32.ofInt (-6)) bg vc li LC ci CA tr fe → mF tr LC CA f f' → K y f')
    (h3 : e = nI 0 → pl < m2 → ga pl = 3 → ∀ f', MM u f' N B M S lc ln op ch V o ra' rd' sp st hts FG (nI 0) bg vc li LC ci CA tr (nI (320 + (j + 1))) → mF tr LC CA f f' → (∀ i, i < j + 1 → mv f' (320 + i) (g_u av j v i)) → m_findsArguments_12 Gm (d + 1) (nI T2) (nI tg) (nI T) (gI (g_u ga pl j)) (nI (if u_w u T q = 44 then q + 1 else q)) (nI un') f' K) : m_findsArguments_12 Gm (d + 1) (nI T2) (nI tg) (nI T) (gI ga) (nI p) (nI un) f K := by
  obtain ⟨d, rfl⟩ : ∃ y, d = y + 2 := ⟨d - 2, by omega⟩
  have hT1 := MM_T h hT
  have hW := hT1.2.1
  have hn := hW.1
  have hw := tx_le hW p
  have hps : p ≤ s ∧ s ≤ p + 2 := by
    rcases hah with ⟨-, -, t, -⟩ | ⟨-, t, -⟩ <;> omega
  have mc0 := mc
  obtain ⟨c1, c2, c3, c4, c5, c6, c7, c8, c9⟩ := mc
  -- behind the head
  have go : ∀ x9, ((x9 = nI 0 ∧ ¬ (tx_L (u_w u T p) ∧ u_w u T (p + 1) = 58)) ∨ (x9 = nI 1 ∧ tx_L (u_w u T p) ∧ u_w u T (p + 1) = 58)) → m_findsArguments_85 Gm (d + 2 + 1) (nI T2) (nI tg) (nI T) (gI ga) (nI un) (nI (u_w u T p)) x9 (nI T) (nI s) f K := fun x9 h9 => by
    refine w_m_findsArguments_85 hM (p_f3 hM hT h10 h (by omega) hfn (by omega) (by omega) h124 (by omega) (fun he f' a1 a2 a3 a4 a5 => ?_) (fun he y f' fe a1 a2 a3 => ?_))
    · have h70 : f' 1714 70 = nI 0 := a1.2.2.2.2.2.2.2.1
      refine z_bt h70 ?_
      have hT2 := MM_T a1 c1
      have hav' : ∀ i, i < j + 1 → mv f' (320 + i) (g_u av j v i) := fun i hi => by
        by_cases t : i = j
        · rw [t, g_us]
          exact a4
        · rw [g_un t]
          exact mv_fr (hav i (by omega)) (hok i (by omega)) a3 (by omega)
      rw [a5]
      have fin : ∀ s0 s1, s0 + s1 = nI un' → pl ≤ 3 → m_findsArguments_135 Gm (d + 2 + 1) (nI T2) (nI tg) (nI T) (gI ga) (nI q) (nI (320 + j)) (nI pl) s0 s1 f' K := fun s0 s1 hs hpl => p_fa135 (x2 := nI 0) hM hT h10 mc0 a1 hj hga hpl hs hq (by omega) (fun hno y f2 fe b1 b2 => h2 he hno y f2 fe b1 (mF_t a2 b2)) (fun q1 q2 => h3 he q1 q2 f' a1 a2 hav')
      rcases h9 with ⟨g1, g2⟩ | ⟨g1, g2, g3⟩
      · subst g1
        rcases hx with ⟨-, i2, i3⟩ | ⟨i1, i2, -⟩
        · subst i2 i3
          exact z_bt rfl (z_bt rfl (fin _ _ (z_add _ _) (by omega)))
        · exact absurd ⟨i1, i2⟩ g2
      · subst g1
        rcases hx with ⟨i1, -⟩ | ⟨-, -, i3, i4⟩
        · exact absurd ⟨g2, g3⟩ i1
        · subst i3
          refine z_bf (by decide) (p_parameterOf hM hT2 c7 c5 c6 c8 c9 (by omega) g2 (fun i hi hwi => z_bf (by decide) ?_) (fun hno => z_bf (by decide) ?_))
          · rcases i4 with ⟨j1, j2⟩ | ⟨j1, -⟩
            · have hip : i = pl := by
                by_cases t1 : i < pl
                · exact absurd (hwi.trans j2.symm) ((c7.2.2 pl j1).2.2.2.2.2.2.2 i t1)
                · by_cases t2 : pl < i
                  · exact absurd (j2.trans hwi.symm) ((c7.2.2 i hi).2.2.2.2.2.2.2 pl t2)
                  · omega
              rw [hip]
              exact fin _ _ (by rw [z_add, Nat.add_zero]) (by omega)
            · exact absurd hwi (j1 i hi)
          · rcases i4 with ⟨j1, j2⟩ | ⟨-, j2⟩
            · exact absurd j2 (hno pl j1)
            · rw [← j2]
              exact fin _ _ (by rw [z_add, Nat.add_zero]) (by omega)
    · have h70 : ¬ f' 1714 70 = nI 0 := by rw [a1.2.2.2.2.2.2.2.1]; exact he
      obtain ⟨pp, p1, p2⟩ := a3
      have hT2 := MM_T a1 hT
      refine z_bf h70 ?_
      rw [p2]
      refine c_letter hM hT2 (by omega) (z_br (fun _ => ?_) (fun _ => ?_))
      · rw [z_add]
        exact p_fa12x hM hT2 (by omega) (by omega) h70 (fun y => h1 he y f' fe a1 a2)
      · rw [z_add]
        exact p_fa12x hM hT2 (by omega) (by omega) h70 (fun y => h1 he y f' fe a1 a2)
  refine w_m_findsArguments_12 hM (by omega) (c_letter hM hT1 (by omega) ?_)
  rw [tx_nxi (by omega)]
  refine z_bf (by rw [z_eq (by omega) (by omega)]; exact hp125) (z_bt h.2.2.2.2.2.2.2.1 (c_letter hM hT1 (by omega) ?_))
  rw [tx_nxi (by omega), z_13005 (by omega)]
  refine z_br (fun hL => ?_) (fun hL => ?_)
  · have hw1 := tx_le hW (p + 1)
    rw [show nI p + nI 1 = nI (p + 1) from z_add p 1]
    refine c_letter hM hT1 (by omega) ?_
    rw [tx_nxi (by omega), z_eq (by omega) (by omega)]
    refine z_br (fun h58 => ?_) (fun h58 => ?_)
    · rcases hah with ⟨-, -, t, -⟩ | ⟨t, -⟩
      · rw [z_add, ← t]
        exact go _ (Or.inr ⟨rfl, hL, h58⟩)
      · exact absurd ⟨hL, h58⟩ t
    · rcases hah with ⟨-, t, -⟩ | ⟨-, t, -⟩
      · exact absurd t h58
      · have g := go _ (Or.inl ⟨rfl, fun y => h58 y.2⟩)
        rw [t] at g
        exact g
  · rcases hah with ⟨t, -⟩ | ⟨-, t, -⟩
    · exact absurd t hL
    · have g := go _ (Or.inl ⟨rfl, fun y => hL y.1⟩)
      rw [t] at g
      exact g
end ZZE
