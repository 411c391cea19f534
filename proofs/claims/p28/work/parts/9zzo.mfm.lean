/-! FRAGMENTS met by the model -/
theorem z_snS : ∀ i, i < 10 → ∀ l, l < 26 → q_13108 (nI i) (nI 0) (nI l) = nI (98 * (52 * i + l)) ∧ q_13108 (nI i) (nI 1) (nI l) = nI (98 * (52 * i + 26 + l)) := by decide +kernel
theorem z_r26 : ∀ k, k < 52 → mm_rem (nI k) (nI 26) = nI (if k < 26 then k else k - 26) := by decide +kernel
/-- the k-th of what fits: letters of the scopes, then of the data -/
def fC (u : wo) (k : kfr) (N : Nat) (B : Nat → Nat) (V : Nat → Nat → Option rv) (j : Nat) : Prop := (j < 26 → bt (k_ra k) j → rv_sk (k_I k) (u_I u) (k_vs k j) (e_vl (u_D u) B V j N)) ∧ (26 ≤ j → bt (k_rd k) (j - 26) → rv_sk (k_I k) (u_I u) (k_vd k (j - 26)) (u_D u (j - 26)))
section ZZO
variable {u : wo} {Gm : mj_G} {f f0 f1 f' : mm_F} {T p q s d D i l j : Nat} {e : Int32} {v : rv} {k : kfr} {N : Nat} {B : Nat → Nat} {M : Nat} {S : Nat → Nat} {lc : Nat} {ln : Nat → Nat} {op : Nat} {ch : List en} {V : Nat → Nat → Option rv} {o : ost} {ra rd : Nat → Int32} {sp : Nat → Bool} {st hts : Nat} {FG : Nat → kfr} {V' : Nat → Nat → Option rv} {o' : ost} {ra' rd' : Nat → Int32} {sp' : Nat → Bool} {st' hts' : Nat} {FG' : Nat → kfr} {bg : Nat → Nat} {vc li LC : Nat} {ci : Int32} {CA tr : Nat}
theorem fC_all : (∀ j, j < 52 → fC u k N B V j) ↔ fitV u k N B V := by
  refine ⟨fun h => ⟨fun l hl => (h l (by omega)).1 hl, fun l hl hb => ?_⟩, fun h j hj => ⟨fun hl => h.1 j hl, fun hl => h.2 (j - 26) (by omega)⟩⟩
  have := (h (26 + l) (by omega)).2 (by omega)
  rw [Nat.add_sub_cancel_left] at this
  exact this hb
/-- the items of a list as they are -/
theorem iv_md {D : Nat → rv} {I : Nat → Nat → rv} (h : md f D I) (hv : rv_in D v) (t3 : rv_t v = 3) (hj : j < rv_l v) : iv f (8 * rv_d v + j) (I (rv_d v) j) := by
  obtain ⟨-, hd⟩ := hv.1.2.2.2.2 t3
  obtain ⟨e1, e2⟩ := hv.2 t3
  obtain ⟨-, -, -, -, -, g⟩ := h _ hd
  obtain ⟨-, g2⟩ := g e1
  obtain ⟨a1, a2, a3, a4, a5⟩ := g2 j (by omega)
  exact ⟨a1, a2, a3.imp id (fun q => ⟨q.1, q.2.2⟩), a4, a5⟩
/-- whether what it had read is as it was, from the j-th on -/
theorem p_ik131 {K : Bool → mm_F → Prop} (hM : mm_S Gm) (hu : uP u) (h10 : ∀ x, x ∈ ch → en_n x ≤ 10) (hB : ∀ s, B s ≤ s) (hV : pV u N V) (hi : i < 10) (hki : k_is (FG i) = true) (hd : 18 ≤ d) {f0 : mm_F} (h1 : fitV u (FG i) N B V → ∀ f', MM u f' N B M S lc ln op ch V o ra rd sp st hts FG (nI 0) bg vc li LC ci CA tr (nI 320) → mF tr LC CA f0 f' → K true f') (h2 : ¬ fitV u (FG i) N B V → ∀ f', MM u f' N B M S lc ln op ch V o ra rd sp st hts FG (nI 0) bg vc li LC ci CA tr (nI 320) → mF tr LC CA f0 f' → K false f') : ∀ {n j : Nat} {f : mm_F}, j + n = 52 → MM u f N B M S lc ln op ch V o ra rd sp st hts FG (nI 0) bg vc li LC ci CA tr (nI 320) → mF tr LC CA f0 f → (∀ j', j' < j → fC u (FG i) N B V j') → m_isKept_131 Gm (d + 1) (nI i) (nI 1) (nI j) f K
  | 0, j, f, hj, hm, hF, hh => by
    have q : j = 52 := by omega
    subst q
    exact w_m_isKept_131 hM (z_bt (by decide) (z_ex (b := true) (h1 (fC_all.mp hh) f hm hF)))
  | n + 1, j, f, hj, hm, hF, hh => by
    obtain ⟨g0, g1⟩ := hm.2.2.2.2.2.2.2.2.2 i hi
    obtain ⟨-, -, -, -, -, -, -, -, -, -, -, -, x54, x55, x56⟩ := g1 hki
    have h27 : f 1714 27 = sh N := hm.2.1.2.1
    have h21 : f 1714 21 = nI 320 := hm.2.1.2.2.1
    have hda := hu.1
    -- the next one
    have nx : ∀ {f2 : mm_F}, fC u (FG i) N B V j → MM u f2 N B M S lc ln op ch V o ra rd sp st hts FG (nI 0) bg vc li LC ci CA tr (nI 320) → mF tr LC CA f0 f2 → m_isKept_131 Gm (d + 1) (nI i) (nI 1) (nI (j + 1)) f2 K := fun hc m2 F2 => p_ik131 hM hu h10 hB hV hi hki hd h1 h2 (n := n) (j := j + 1) (by omega) m2 F2 (fun j' hj' => by
      by_cases q : j' = j
      · rw [q]
        exact hc
      · exact hh j' (by omega))
    -- one that does not fit
    have no : ∀ {f2 : mm_F}, ¬ fC u (FG i) N B V j → MM u f2 N B M S lc ln op ch V o ra rd sp st hts FG (nI 0) bg vc li LC ci CA tr (nI 320) → mF tr LC CA f0 f2 → m_isKept_131 Gm (d + 1) (nI i) (nI 0) (nI (j + 1)) f2 K := fun hc m2 F2 => by
      have hno : ¬ fitV u (FG i) N B V := fun t => hc (fC_all.mpr t j (by omega))
      refine w_m_isKept_131 hM (z_br (fun _ => z_ex (b := false) (h2 hno _ m2 F2)) (fun _ => z_bt rfl (z_ex (b := false) (h2 hno _ m2 F2))))
    -- a value looked up and held against what was stored
    have hold : ∀ {w v0 : rv} {fm : Nat} {x5 x6 : Int32} {l : Nat}, rv_in (u_D u) w → rv_ok v0 → kit (FG i) v0 → sn f (k_I (FG i)) fm v0 → fm + 98 ≤ 50960 → q_13108 (nI i) x5 x6 = nI fm → (rv_sk (k_I (FG i)) (u_I u) v0 w ↔ fC u (FG i) N B V j) → (∀ KK, jV f 320 w KK → m_valueOf Gm d x5 x6 f KK) → m_valueOf Gm d x5 x6 f (fun v23 f22 => m_isStored Gm d (q_13108 (nI i) x5 x6) v23 f22 (fun v25 f24 => mm_br (v25 = true) (m_isKept_131 Gm (d + 1) (nI i) (nI 1) (nI j + nI 1) f24 K) (m_isKept_131 Gm (d + 1) (nI i) (nI 0) (nI j + nI 1) f24 K))) := fun {w v0 fm x5 x6 l} hw ok0 hk0 hs hfm hq hiff hval => by
      refine hval _ (fun f2 F2 e2 v2 => ?_)
      obtain ⟨m2, gg2⟩ := MM_pl (fe' := nI 320) hm h10 F2 (fun y q => by have q' : y = 320 := q; omega) e2
      obtain ⟨d, rfl⟩ : ∃ y, d = y + 2 := ⟨d - 2, by omega⟩
      have e56 : f2 1756 = f 1756 := funext fun y => F2.1 1756 y (by decide) (by decide) (fun q => q)
      rw [hq, z_add]
      refine p_isStored hM (by decide) hfm hw.1 ok0 v2 (sn_e hs e56) (fun t3 y hy => iv_md m2.1.2.2.1 hw t3 hy) hk0 (fun t => z_bt rfl (nx (hiff.mp t) m2 (mF_t hF gg2))) (fun t => z_bf (by decide) (no (fun q => t (hiff.mpr q)) m2 (mF_t hF gg2)))
    refine w_m_isKept_131 hM (z_bf (by rw [z_le (by omega) (by omega)]; omega) (z_bf (by decide) ?_))
    rw [z_lt (by omega) (by omega), z_r26 j (by omega)]
    by_cases h26 : j < 26
    · refine z_bt h26 (z_ixi hi (by omega) (w_m_isKept_183 hM (by omega) ?_))
      rw [if_pos h26, x54, bt_1r (by omega)]
      refine z_br (fun hb => ?_) (fun hb => ?_)
      · obtain ⟨ok0, hk0, hs0⟩ := (x56 j h26).1 hb
        have hin : rv_in (u_D u) (e_vl (u_D u) B V j N) := e_vl_in hda (fun s l v q => (hV s l v q).2.2) h26
        obtain ⟨d, rfl⟩ : ∃ y, d = y + 3 := ⟨d - 3, by omega⟩
        exact hold (l := j) hin ok0 hk0 hs0 (by omega) (z_snS i hi j h26).1 ⟨fun t => ⟨fun _ _ => t, fun q => absurd q (by omega)⟩, fun t => t.1 h26 hb⟩ (fun KK hKK => p_valueOf hM hm.1.2.2.1 hm.2.2.1.1 hB h26 (Nat.le_refl N) h27 h21 (Nat.le_refl _) (by decide) hin.1 hKK)
      · rw [z_add]
        exact nx ⟨fun _ t => absurd t hb, fun q => absurd q (by omega)⟩ hm hF
    · refine z_bf h26 (z_ixi hi (by omega) (w_m_isKept_183 hM (by omega) ?_))
      rw [if_neg h26, x55, bt_1r (by omega)]
      refine z_br (fun hb => ?_) (fun hb => ?_)
      · obtain ⟨ok0, hk0, hs0⟩ := (x56 (j - 26) (by omega)).2 hb
        have hin : rv_in (u_D u) (u_D u (j - 26)) := by
          have := e_vl_in (x := 0) (B := B) (V := V) hda (fun s l v q => (hV s l v q).2.2) (l := j - 26) (by omega)
          rw [show e_vl (u_D u) B V (j - 26) 0 = u_D u (j - 26) from if_pos rfl] at this
          exact this
        obtain ⟨d, rfl⟩ : ∃ y, d = y + 1 := ⟨d - 1, by omega⟩
        exact hold (l := j - 26) hin ok0 hk0 hs0 (by omega) (z_snS i hi (j - 26) (by omega)).2 ⟨fun t => ⟨fun q => absurd q (by omega), fun _ _ => t⟩, fun t => t.2 (by omega) hb⟩ (fun KK hKK => p_valueOfD hM hm.1.2.2.1 (by omega) h21 (by decide) hKK)
      · rw [z_add]
        exact nx ⟨fun q => absurd q (by omega), fun _ t => absurd t hb⟩ hm hF
/-- it does not fit -/
theorem p_ik0 {K : Bool → mm_F → Prop} {x4 : Int32} (hM : mm_S Gm) (hm : MM u f N B M S lc ln op ch V o ra rd sp st hts FG (nI 0) bg vc li LC ci CA tr (nI 320)) (hK : K false f) : m_isKept_68 Gm (d + 1) (nI i) (nI 0) x4 f K := by
  have h34 : f 1714 34 = nI li := hm.2.1.2.2.2.1
  have hli : li < 14 := by
    have := hm.2.1.2.2.2.2.1
    have := hm.2.1.2.2.2.2.2.1
    have := hm.2.1.2.2.2.2.2.2.1
    omega
  have fin : m_isKept_131 Gm (d + 1) (nI i) (nI 0) (nI 0) f K := w_m_isKept_131 hM (z_br (fun _ => z_ex (b := false) hK) (fun _ => z_bt rfl (z_ex (b := false) hK)))
  refine w_m_isKept_68 hM ?_
  rw [h34]
  exact z_ixi hli (by omega) (z_br (fun _ => fin) (fun _ => z_bt rfl fin))
/-- its line, from the j-th template on -/
theorem p_ik68 {K : Bool → mm_F → Prop} (hM : mm_S Gm) (hi : i < 10) (hki : k_is (FG i) = true) (hlc : k_lc (FG i) = lc) (hm : MM u f N B M S lc ln op ch V o ra rd sp st hts FG (nI 0) bg vc li LC ci CA tr (nI 320)) (h1 : (∀ j, j < lc → k_ln (FG i) j = ln j) → m_isKept_131 Gm (d + 1) (nI i) (nI 1) (nI 0) f K) (h2 : ¬ (∀ j, j < lc → k_ln (FG i) j = ln j) → K false f) : ∀ {n j : Nat}, j + n = lc → (∀ j', j' < j → k_ln (FG i) j' = ln j') → m_isKept_68 Gm (d + 1) (nI i) (nI 1) (nI j) f K
  | n, j, hj, hh => by
    have hs := hm.2.1
    have h34 : f 1714 34 = nI li := hs.2.2.2.1
    have hli : li < 14 := by
      have := hs.2.2.2.2.1
      have := hs.2.2.2.2.2.1
      have := hs.2.2.2.2.2.2.1
      omega
    have hml := hs.2.2.2.2.2.2.2.2.1
    have hlc10 := hs.2.2.2.2.2.2.2.2.2.1
    obtain ⟨g0, g1⟩ := hm.2.2.2.2.2.2.2.2.2 i hi
    obtain ⟨-, -, -, -, -, x50, -⟩ := g1 hki
    refine w_m_isKept_68 hM ?_
    rw [h34]
    refine z_ixi hli (by omega) ?_
    rw [hml.1, z_le (by omega) (by omega)]
    refine z_br (fun q => h1 (fun j' hj' => hh j' (by omega))) (fun q => z_bf (by decide) ?_)
    rw [show nI 10 * nI i + nI j = nI (10 * i + j) by rw [z_mul, z_add], show nI 10 * nI li + nI j = nI (10 * li + j) by rw [z_mul, z_add]]
    refine z_ixi (by omega) (by omega) (z_ixi (by omega) (by omega) ?_)
    obtain ⟨a1, a2⟩ := x50 j (by omega)
    obtain ⟨b1, b2⟩ := hml.2 j (by omega)
    rw [a1, b1, z_eq (by omega) (by omega), z_add]
    refine z_br (fun t => ?_) (fun t => p_ik0 hM hm (h2 (fun r => t (r j (by omega)))))
    match n, hj with
    | 0, hj => exact absurd hj (by omega)
    | n + 1, hj => exact p_ik68 hM hi hki hlc hm h1 h2 (n := n) (j := j + 1) (by omega) (fun j' hj' => by
        by_cases q : j' = j
        · rw [q]
          exact t
        · exact hh j' (by omega))
/-- whether a fragment fits, by the model -/
theorem p_isKept {K : Bool → mm_F → Prop} (hM : mm_S Gm) (hu : uP u) (h10 : ∀ x, x ∈ ch → en_n x ≤ 10) (hB : ∀ s, B s ≤ s) (hV : pV u N V) (hT : T < 10) (hp : p < 80) (hi : i < 10) (hd : 18 ≤ d) (hm : MM u f N B M S lc ln op ch V o ra rd sp st hts FG (nI 0) bg vc li LC ci CA tr (nI 320)) (h1 : fitS (FG i) T p lc ln o → fitV u (FG i) N B V → ∀ f', MM u f' N B M S lc ln op ch V o ra rd sp st hts FG (nI 0) bg vc li LC ci CA tr (nI 320) → mF tr LC CA f f' → K true f') (h2 : ¬ (fitS (FG i) T p lc ln o ∧ fitV u (FG i) N B V) → ∀ f', MM u f' N B M S lc ln op ch V o ra rd sp st hts FG (nI 0) bg vc li LC ci CA tr (nI 320) → mF tr LC CA f f' → K false f') : m_isKept Gm (d + 1) (nI i) (nI (1 + 100 * T + p)) f K := by
  have hs := hm.2.1
  have h34 : f 1714 34 = nI li := hs.2.2.2.1
  have hli : li < 14 := by
    have := hs.2.2.2.2.1
    have := hs.2.2.2.2.2.1
    have := hs.2.2.2.2.2.2.1
    omega
  have hml := hs.2.2.2.2.2.2.2.2.1
  have hlc10 := hs.2.2.2.2.2.2.2.2.2.1
  have ho := hm.2.2.2.2.2.2.2.2.1
  have hok := ho.1
  have hx8 := o_x8 hok (Nat.le_refl (o_n o))
  obtain ⟨g0, g1⟩ := hm.2.2.2.2.2.2.2.2.2 i hi
  have no : ∀ {P : Prop}, ¬ P → (fitS (FG i) T p lc ln o ∧ fitV u (FG i) N B V → P) → K false f := fun hn hp => h2 (fun t => hn (hp t)) f hm mF_r
  refine w_m_isKept hM (z_ixi hi (by omega) ?_)
  by_cases hki : k_is (FG i) = true
  · obtain ⟨x49, xT, xp, x51, xlc, x50, x52, xx, x53, -⟩ := g1 hki
    rw [x49, z_eq (by omega) (by omega), h34]
    refine z_br (fun e0 => ?_) (fun e0 => p_ik0 hM hm (no e0 (fun t => by rw [t.1.2.1, t.1.2.2.1])))
    refine z_ixi hi (by omega) (z_ixi hli (by omega) ?_)
    rw [x51, hml.1, z_eq (by omega) (by omega)]
    refine z_br (fun e1 => ?_) (fun e1 => p_ik0 hM hm (no e1 (fun t => t.1.2.2.2.1)))
    refine z_ixi hi (by omega) ?_
    rw [ho.2.1]
    refine z_ixi (by have := hok.1; omega) (by have := hok.1; omega) ?_
    rw [x52, ho.2.2.2.2 _ (Nat.le_refl _), z_eq (by omega) (by omega)]
    refine z_br (fun e2 => ?_) (fun e2 => p_ik0 hM hm (no e2 (fun t => t.1.2.2.2.2.2.1)))
    refine z_ixi hi (by omega) ?_
    rw [x53, ho.2.2.1]
    refine z_br (fun e3 => ?_) (fun e3 => p_ik0 hM hm (no (P := bI (k_w (FG i)) = bI (o_w o)) e3 (fun t => by rw [t.1.2.2.2.2.2.2])))
    have e3' : k_w (FG i) = o_w o := by rw [← qb_bI (k_w (FG i)), e3, qb_bI]
    refine p_ik68 hM hi hki e1 hm (fun e4 => ?_) (fun e4 => no e4 (fun t => t.1.2.2.2.2.1)) (n := lc) (j := 0) (Nat.zero_add _) (fun j hj => absurd hj (Nat.not_lt_zero j))
    have hfs : fitS (FG i) T p lc ln o := ⟨hki, by omega, by omega, e1, e4, e2, e3'⟩
    exact p_ik131 hM hu h10 hB hV hi hki hd (f0 := f) (fun t f' a1 a2 => h1 hfs t f' a1 a2) (fun t f' a1 a2 => h2 (fun r => t r.2) f' a1 a2) (n := 52) (j := 0) (Nat.zero_add _) hm mF_r (fun j hj => absurd hj (Nat.not_lt_zero j))
  · have hk0 : k_is (FG i) = false := Bool.eq_false_iff.mpr hki
    rw [g0 hk0, z_eq (by omega) (by omega)]
    exact z_bf (by omega) (p_ik0 hM hm (no hki (fun t => t.1.1)))
/-- one more was put out -/
theorem MM_ht (h : MM u f N B M S lc ln op ch V o ra rd sp st hts FG e bg vc li LC ci CA tr (nI 320)) (h10 : ∀ x, x ∈ ch → en_n x ≤ 10) : MM u (mj_u2 f 1714 69 (nI (hts + 1))) N B M S lc ln op ch V o ra rd sp st (hts + 1) FG e bg vc li LC ci CA tr (nI 320) ∧ mF tr LC CA f (mj_u2 f 1714 69 (nI (hts + 1))) := by
  have F : mw no_R (fun j => j = 69) no_R f (mj_u2 f 1714 69 (nI (hts + 1))) := mw_S rfl
  have h69 : (mj_u2 f 1714 69 (nI (hts + 1))) 1714 69 = nI (hts + 1) := z_u2s
  generalize mj_u2 f 1714 69 (nI (hts + 1)) = f' at F h69 ⊢
  obtain ⟨h1, h2, h3, h4, h5, h6, h7, h8, h9, h0⟩ := h
  have nr : ∀ a, no_R a → False := fun a q => q
  exact ⟨⟨wM_f h1 F (by decide) (fun a q => absurd q (nr a)), sM_f h2 h10 F (fun j q => by omega) (fun a q => absurd q (nr a)), dM_f h3 F (fun i q => absurd q (nr i)) (fun j q => by omega) (fun a q => absurd q (nr a)), (F.2.1 68 (by decide)).trans h4, h5, h6, h69, (F.2.1 70 (by decide)).trans h8, oM_f h9 F ⟨by decide, by decide⟩ ⟨nr _, nr _⟩, fgM_f h0 F (fun a q => absurd q (nr a))⟩, mF_w F (fun j q => by unfold rS; omega) (fun a q => absurd q (nr a))⟩
theorem bt_one1 {S1 : Int32} {l : Nat} (hl : l < 32) (h : bt S1 l) : S1 &&& mm_shl (nI 1) (nI l) = mm_shl (nI 1) (nI l) := bt_ext (fun i hi => by
  rw [bt_and2, bt_1l hl hi]
  exact ⟨fun q => q.2, fun q => ⟨by rw [q]; exact h, q⟩⟩)
theorem bt_or0 {S1 S2 : Int32} (h : S2 = nI 0) : S1 ||| S2 = S1 := bt_ext (fun i hi => by
  rw [bt_or2, h]
  exact ⟨fun q => q.resolve_right bt_0, Or.inl⟩)
/-- the data's letters told, from the j-th fragment on -/
theorem p_pk52 {K : mm_F → Prop} (hM : mm_S Gm) (h10 : ∀ x, x ∈ ch → en_n x ≤ 10) (hi : i < 10) (hki : k_is (FG i) = true) (hl : l < 26) {ra0 rd0 : Nat → Int32} {f0 : mm_F} (hK : ∀ f', MM u f' N B M S lc ln op ch V o ra0 (hR2 (FG i) B M S l rd0) sp st hts FG (nI 0) bg vc li LC ci CA tr (nI 320) → mF tr LC CA f0 f' → m_putsKept_12 Gm (d + 1) (nI i) (nI (l + 1)) f' K) : ∀ {n j : Nat} {rd : Nat → Int32} {f : mm_F}, j + n = M → (∀ k, k < j → rd k = hR2 (FG i) B M S l rd0 k) → (∀ k, j ≤ k → rd k = rd0 k) → MM u f N B M S lc ln op ch V o ra0 rd sp st hts FG (nI 0) bg vc li LC ci CA tr (nI 320) → mF tr LC CA f0 f → m_putsKept_52 Gm (d + 1) (nI i) (nI l) (nI j) f K
  | 0, j, rd, f, hj, ha, hb, hm, hF => by
    have q : j = M := by omega
    subst q
    have e : rd = hR2 (FG i) B j S l rd0 := by
      funext k
      by_cases q : k < j
      · exact ha k q
      · rw [hb k (by omega)]
        unfold hR2
        by_cases t : (k_rd (FG i)).toBitVec.getLsbD l = true
        · rw [if_pos t]
          exact (if_neg (fun r => q r.1)).symm
        · rw [if_neg t]
    subst e
    refine w_m_putsKept_52 hM (z_bt ?_ ?_)
    · rw [hm.2.2.1.2.2.2.1.2.1]
      exact Int32.le_refl _
    · rw [z_add]
      exact hK f hm hF
  | n + 1, j, rd, f, hj, ha, hb, hm, hF => by
    have hmn := hm.2.2.1.2.2.2.1
    have hM12 := hmn.1
    obtain ⟨g0, g1⟩ := hm.2.2.2.2.2.2.2.2.2 i hi
    obtain ⟨-, -, -, -, -, -, -, -, -, -, -, -, x54, x55, -⟩ := g1 hki
    refine w_m_putsKept_52 hM (z_bf (by rw [hmn.2.1, z_le (by omega) (by omega)]; omega) (z_ixi (by omega) (by omega) (z_ixi hi (by omega) (z_ixi (by omega) (by omega) ?_))))
    rw [(hmn.2.2 j (by omega)).2.2.2, x55, z_add]
    have F : mw no_R no_R R_n f (mj_u2 f 1747 j (rd j ||| ((k_rd (FG i)) &&& (mm_shl (nI 1) (nI l))))) := ⟨fun a y q1 q2 q3 => z_u2n (fun t => q3 (Or.inr t)), fun y _ => z_u2n (by decide), fun a y b1 b2 _ => z_u2n (by omega), fun y _ => z_u2n (by decide)⟩
    have ej : (mj_u2 f 1747 j (rd j ||| ((k_rd (FG i)) &&& (mm_shl (nI 1) (nI l))))) 1747 j = rd j ||| ((k_rd (FG i)) &&& (mm_shl (nI 1) (nI l))) := z_u2s
    have en : ∀ k, k ≠ j → (mj_u2 f 1747 j (rd j ||| ((k_rd (FG i)) &&& (mm_shl (nI 1) (nI l))))) 1747 k = f 1747 k := fun k hk => z_u2m hk
    have eo : ∀ a k, a ≠ 1747 → (mj_u2 f 1747 j (rd j ||| ((k_rd (FG i)) &&& (mm_shl (nI 1) (nI l))))) a k = f a k := fun a k ha => z_u2n ha
    generalize mj_u2 f 1747 j (rd j ||| ((k_rd (FG i)) &&& (mm_shl (nI 1) (nI l)))) = f2 at F ej en eo ⊢
    have val : rd j ||| ((k_rd (FG i)) &&& (mm_shl (nI 1) (nI l))) = hR2 (FG i) B M S l rd0 j := by
      rw [hb j (Nat.le_refl j)]
      unfold hR2
      by_cases t : (k_rd (FG i)).toBitVec.getLsbD l = true
      · rw [if_pos t, bt_one1 (by omega) t]
        unfold e_nd
        refine (if_pos ⟨by omega, by omega, ?_⟩).symm
        cases S j <;> rfl
      · rw [if_neg t]
        exact bt_or0 (by rw [bt_and (by omega)]; exact t)
    have mn2 : mn f2 N M S ra0 (g_u rd j (hR2 (FG i) B M S l rd0 j)) := ⟨hM12, (F.2.1 44 (fun q => q)).trans hmn.2.1, fun k hk => by
      obtain ⟨a1, a2, a3, a4⟩ := hmn.2.2 k hk
      refine ⟨a1, (eo _ _ (by decide)).trans a2, (eo _ _ (by decide)).trans a3, ?_⟩
      by_cases q : k = j
      · rw [q, g_us, ej, val]
      · rw [g_un q, en k q]
        exact a4⟩
    obtain ⟨m2, F2⟩ := MM_v (e := nI 0) (fe' := nI 320) hm h10 (mw_m F (fun y q => absurd q (fun t => t)) (fun y q => absurd q (fun t => t)) (fun _ q => q)) mn2 ((F.2.1 70 (fun q => q)).trans hm.2.2.2.2.2.2.2.1) ((F.2.1 21 (fun q => q)).trans hm.2.1.2.2.1)
    refine p_pk52 hM h10 hi hki hl hK (n := n) (j := j + 1) (by omega) (fun k hk => ?_) (fun k hk => ?_) m2 (mF_t hF F2)
    · by_cases q : k = j
      · rw [q, g_us]
      · rw [g_un q]
        exact ha k (by omega)
    · rw [g_un (by omega)]
      exact hb k (by omega)
/-- what it had read is told, from the l-th letter on -/
theorem p_pk12 {K : mm_F → Prop} (hM : mm_S Gm) (h10 : ∀ x, x ∈ ch → en_n x ≤ 10) (hB : ∀ s, B s ≤ s) (hi : i < 10) (hki : k_is (FG i) = true) {f0 : mm_F} : ∀ {n l : Nat} {ra rd : Nat → Int32} {f : mm_F}, l + n = 26 → MM u f N B M S lc ln op ch V o ra rd sp st hts FG (nI 0) bg vc li LC ci CA tr (nI 320) → mF tr LC CA f0 f → (∀ f', MM u f' N B M S lc ln op ch V o (hIa (FG i) N B M S V n l ra) (hId (FG i) N B M S V n l rd) sp st hts FG (nI 0) bg vc li LC ci CA tr (nI 320) → mF tr LC CA f0 f' → m_putsKept_93 Gm (d + 2) (nI i) (nI 0) f' K) → m_putsKept_12 Gm (d + 2) (nI i) (nI l) f K
  | 0, l, ra, rd, f, hl, hm, hF, h => by
    have q : l = 26 := by omega
    subst q
    exact w_m_putsKept_12 hM (z_bt (by decide) (h f hm hF))
  | n + 1, l, ra, rd, f, hl, hm, hF, h => by
    obtain ⟨g0, g1⟩ := hm.2.2.2.2.2.2.2.2.2 i hi
    obtain ⟨-, -, -, -, -, -, -, -, -, -, -, -, x54, x55, -⟩ := g1 hki
    have h27 : f 1714 27 = sh N := hm.2.1.2.1
    -- the rest
    have go : ∀ {ra' rd' : Nat → Int32} {f2 : mm_F}, ra' = hRa (FG i) N B M S V l ra → rd' = hR1 (FG i) N B M S V l rd → MM u f2 N B M S lc ln op ch V o ra' rd' sp st hts FG (nI 0) bg vc li LC ci CA tr (nI 320) → mF tr LC CA f0 f2 → m_putsKept_52 Gm (d + 2) (nI i) (nI l) (nI 0) f2 K := fun {ra' rd' f2} ea ed m2 F2 => by
      subst ea ed
      exact p_pk52 (d := d + 1) hM h10 hi hki (by omega) (f0 := f0) (fun f' a1 a2 => p_pk12 hM h10 hB hi hki (n := n) (l := l + 1) (by omega) a1 a2 h) (n := M) (j := 0) (Nat.zero_add _) (fun k hk => absurd hk (Nat.not_lt_zero k)) (fun k _ => rfl) m2 F2
    refine w_m_putsKept_12 hM (z_bf (by rw [z_le (by omega) (by omega)]; omega) (z_ixi hi (by omega) ?_))
    rw [x54, bt_1r (by omega), h27]
    refine z_br (fun hb => ?_) (fun hb => go (if_neg hb).symm (if_neg hb).symm hm hF)
    have hfd := e_fd_le (V := V) (l := l) hB (n := N) (x := N)
    -- what was found is told
    have tell : ∀ {c : Int32}, ((e_fd B V l N N = 0 ∧ c = Int32.ofInt (-1)) ∨ (e_fd B V l N N ≠ 0 ∧ e_fd B V l N N ≤ N ∧ ∃ k, k < 320 ∧ c = nI k ∧ f 1735 k = nI (e_fd B V l N N - 1))) → m_notes Gm (d + 1) (sh N) (nI l) c f (fun f4 => m_putsKept_52 Gm (d + 2) (nI i) (nI l) (nI 0) f4 K) := fun {c} hy => by
      refine p_notes hM hm.2.2.1.1 hm.2.2.1.2.2.2.1 hB (by omega) (Nat.le_refl N) hy (fun f2 F2 n2 => ?_)
      obtain ⟨m2, G2⟩ := MM_v (e := nI 0) (fe' := nI 320) hm h10 (mw_m F2 (fun y q => absurd q (fun t => t)) (fun y q => absurd q (fun t => t)) (fun _ q => q)) n2 ((F2.2.1 70 (fun q => q)).trans hm.2.2.2.2.2.2.2.1) ((F2.2.1 21 (fun q => q)).trans hm.2.1.2.2.1)
      exact go (if_pos hb).symm (if_pos hb).symm m2 (mF_t hF G2)
    refine p_variableFrom hM hm.2.2.1.1 hB (by omega) (Nat.le_refl N) (fun h0 => tell (Or.inl ⟨h0, rfl⟩)) (fun k hk => tell (Or.inr ⟨hk.2.1, hfd, k, hk.1, rfl, hk.2.2.1⟩))
/-- a kept fragment put out again, by the model -/
theorem p_putsKept {K : mm_F → Prop} (hM : mm_S Gm) (h10 : ∀ x, x ∈ ch → en_n x ≤ 10) (hB : ∀ s, B s ≤ s) (hi : i < 10) (hki : k_is (FG i) = true) (hx0 : k_x (FG i) = o_x o (o_n o)) (hd : 20 ≤ d) (hm : MM u f N B M S lc ln op ch V o ra rd sp st hts FG (nI 0) bg vc li LC ci CA tr (nI 320)) (hK : ∀ f', MM u f' N B M S lc ln op ch V (o_pc (k_c (FG i)) (k_n (FG i)) 0 o).2 (hIa (FG i) N B M S V 26 0 ra) (hId (FG i) N B M S V 26 0 rd) sp st (hts + 1) FG (o_pc (k_c (FG i)) (k_n (FG i)) 0 o).1 bg vc li LC ci CA tr (nI 320) → mF tr LC CA f f' → K f') : m_putsKept Gm d (nI i) f K := by
  obtain ⟨d, rfl⟩ : ∃ y, d = y + 2 := ⟨d - 2, by omega⟩
  refine w_m_putsKept hM ?_
  rw [hm.2.2.2.2.2.2.1, z_add]
  obtain ⟨m1, F1⟩ := MM_ht hm h10
  generalize mj_u2 f 1714 69 (nI (hts + 1)) = f1 at m1 F1 ⊢
  refine p_pk12 hM h10 hB hi hki (f0 := f) (n := 26) (l := 0) (Nat.zero_add _) m1 F1 (fun f2 m2 F2 => ?_)
  obtain ⟨g0, g1⟩ := m2.2.2.2.2.2.2.2.2.2 i hi
  obtain ⟨-, -, -, -, -, -, -, -, -, x58, xn, x57, -⟩ := g1 hki
  refine p_kept93 hM (by omega) hi xn (fun j hj => (x57 j hj).2) (m := k_n (FG i)) (j := 0) (Nat.zero_add _) x58 (fun j hj => (x57 j hj).1) m2.2.2.2.2.2.2.2.2.1 m2.2.2.2.2.2.2.2.1 hx0.symm (fun f3 F3 o3 e3 => ?_)
  obtain ⟨m3, G3⟩ := MM_o m2 h10 F3 (fun y q => absurd q (fun t => t)) o3 e3
  exact hK f3 m3 (mF_t F2 G3)
end ZZO
