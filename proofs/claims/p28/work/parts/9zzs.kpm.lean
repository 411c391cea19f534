/-! FRAGMENTS kept by the model -/
/-- what keeping the i-th fragment writes -/
def kR (a : Nat) : Prop := 1749 ≤ a ∧ a ≤ 1758
def kF (i : Nat) (f f' : mm_F) : Prop := mw (fun k => 320 ≤ k) (fun j => j = 21) kR f f' ∧ (∀ a y, kR a → a ≠ 1750 → a ≠ 1756 → a ≠ 1757 → y ≠ i → f' a y = f a y) ∧ (∀ j, ¬ (10 * i ≤ j ∧ j < 10 * i + 10) → f' 1750 j = f 1750 j) ∧ (∀ j, ¬ (300 * i ≤ j ∧ j < 300 * i + 300) → f' 1757 j = f 1757 j) ∧ ∀ j, ¬ (5096 * i ≤ j ∧ j < 5096 * i + 5096) → f' 1756 j = f 1756 j
section ZZS
variable {u : wo} {Gm : mj_G} {f f0 f1 f' : mm_F} {T p q r s d D i l j fm n : Nat} {e : Int32} {v : rv} {k : kfr} {ch0 : Nat → Nat} {D0 : Nat → rv} {I0 : Nat → Nat → rv} {N : Nat} {B : Nat → Nat} {M : Nat} {S : Nat → Nat} {lc : Nat} {ln : Nat → Nat} {op : Nat} {ch : List en} {V : Nat → Nat → Option rv} {o : ost} {ra rd : Nat → Int32} {sp : Nat → Bool} {st hts : Nat} {FG : Nat → kfr} {V' : Nat → Nat → Option rv} {o' : ost} {ra' rd' : Nat → Int32} {sp' : Nat → Bool} {st' hts' : Nat} {FG' : Nat → kfr} {bg : Nat → Nat} {vc li LC : Nat} {ci : Int32} {CA tr : Nat}
theorem kF_r : kF i f f := ⟨mw_r, fun _ _ _ _ _ _ _ => rfl, fun _ _ => rfl, fun _ _ => rfl, fun _ _ => rfl⟩
theorem kF_t (h1 : kF i f f1) (h2 : kF i f1 f') : kF i f f' := ⟨mw_t h1.1 h2.1, fun a y a1 a2 a3 a4 a5 => (h2.2.1 a y a1 a2 a3 a4 a5).trans (h1.2.1 a y a1 a2 a3 a4 a5), fun j hj => (h2.2.2.1 j hj).trans (h1.2.2.1 j hj), fun j hj => (h2.2.2.2.1 j hj).trans (h1.2.2.2.1 j hj), fun j hj => (h2.2.2.2.2 j hj).trans (h1.2.2.2.2 j hj)⟩
/-- a place of its own -/
theorem kF_w {a y : Nat} {x : Int32} (ha : kR a) (h : (a ≠ 1750 ∧ a ≠ 1756 ∧ a ≠ 1757 ∧ y = i) ∨ (a = 1750 ∧ 10 * i ≤ y ∧ y < 10 * i + 10) ∨ (a = 1757 ∧ 300 * i ≤ y ∧ y < 300 * i + 300)) : kF i f (mj_u2 f a y x) := by
  have ha' : 1749 ≤ a ∧ a ≤ 1758 := ha
  refine ⟨⟨fun b z q1 q2 q3 => z_u2n (fun t => q3 (by rw [t]; exact ha)), fun z _ => z_u2n (by omega), fun b z b1 b2 _ => z_u2n (by omega), fun z _ => z_u2n (by omega)⟩, fun b z b1 b2 b3 b4 b5 => if_neg (fun t => ?_), fun z hz => if_neg (fun t => ?_), fun z hz => if_neg (fun t => ?_), fun z hz => z_u2n (by omega)⟩
  · omega
  · omega
  · omega
/-- a place for a value, and what is stored of it -/
theorem kF_v {P : Nat → Prop} {S1 : Nat → Prop} (F : mw P S1 no_R f f') (hP : ∀ y, P y → 320 ≤ y) (hS : ∀ y, S1 y → y = 21) : kF i f f' := by
  have nr : ∀ a, no_R a → False := fun a q => q
  have r : ∀ a y, kR a → f' a y = f a y := fun a y ha => F.1 a y (by unfold kR at ha; omega) (by unfold kR at ha; omega) (nr a)
  exact ⟨mw_m F hP hS (fun a q => absurd q (nr a)), fun a y a1 _ _ _ _ => r a y a1, fun j _ => r _ j (by unfold kR; decide), fun j _ => r _ j (by unfold kR; decide), fun j _ => r _ j (by unfold kR; decide)⟩
theorem kF_z (F : mw no_R no_R R_z f f') (hf : ∀ y, ¬ (fm ≤ y ∧ y < fm + 98) → f' 1756 y = f 1756 y) (h1 : 5096 * i ≤ fm) (h2 : fm + 98 ≤ 5096 * i + 5096) : kF i f f' := by
  have nv : ∀ a, R_z a → a = 1756 := fun a q => q
  have r : ∀ a y, a ≠ 1756 → kR a → f' a y = f a y := fun a y h6 ha => F.1 a y (by unfold kR at ha; omega) (by unfold kR at ha; omega) (fun q => h6 (nv a q))
  exact ⟨mw_m F (fun y q => absurd q (fun t => t)) (fun y q => absurd q (fun t => t)) (fun a q => by have := nv a q; unfold kR; omega), fun a y a1 _ a3 _ _ => r a y a3 a1, fun j _ => r _ j (by decide) (by unfold kR; decide), fun j _ => r _ j (by decide) (by unfold kR; decide), fun j hj => hf j (by omega)⟩
theorem pz_l (h : pz f fm n ch0) (e : ∀ j, 4 * j < n → f' 1756 (fm + j) = f 1756 (fm + j)) : pz f' fm n ch0 := fun j hj => (e j hj).trans (h j hj)
/-- what is stored stays, where its places do -/
theorem sn_l (h : sn f I0 fm v) (ov : rv_ok v) (hi : rv_t v = 3 → ∀ j, j < rv_l v → rv_ok (I0 (rv_d v) j) ∧ (rv_t (I0 (rv_d v) j) = 1 ∨ (rv_t (I0 (rv_d v) j) = 2 ∧ rv_l (I0 (rv_d v) j) ≤ 40))) (e : ∀ y, fm ≤ y → y < fm + 98 → f' 1756 y = f 1756 y) : sn f' I0 fm v := by
  obtain ⟨h1, h2, h3, h4⟩ := h
  refine ⟨(e _ (Nat.le_refl _) (by omega)).trans h1, fun t => (e _ (by omega) (by omega)).trans (h2 t), fun t => pz_l (h3 t) (fun j hj => e _ (by omega) (by have := (ov.2.2.2.1 t).1; omega)), fun t k hk => ?_⟩
  have hl8 := (ov.2.2.2.2 t).1
  obtain ⟨i1, i2⟩ := hi t k hk
  obtain ⟨g1, g2⟩ := h4 t k hk
  refine ⟨fun q => ⟨(e _ (by omega) (by omega)).trans (g1 q).1, (e _ (by omega) (by omega)).trans (g1 q).2⟩, fun q => ⟨(e _ (by omega) (by omega)).trans (g2 q).1, pz_l (g2 q).2 (fun j hj => e _ (by omega) ?_)⟩⟩
  rcases i2 with g | ⟨-, g⟩
  · omega
  · omega
/-- the whole picture, with a fragment kept -/
theorem MM_kp (h : MM u f N B M S lc ln op ch V o ra rd sp st hts FG (nI 0) bg vc li LC ci CA tr (nI 320)) (h10 : ∀ x, x ∈ ch → en_n x ≤ 10) (hi : i < 10) (F : kF i f f') (h21 : f' 1714 21 = nI 320) (hk : fgM1 f' i k) : MM u f' N B M S lc ln op ch V o ra rd sp st hts (g_u FG i k) (nI 0) bg vc li LC ci CA tr (nI 320) ∧ mF tr LC CA f f' := by
  obtain ⟨h1, h2, h3, h4, h5, h6, h7, h8, h9, h0⟩ := h
  have nv : ∀ a, kR a → 1749 ≤ a ∧ a ≤ 1758 := fun a q => q
  refine ⟨⟨wM_f h1 F.1 (by decide) (fun a q => by have := nv a q; omega), sM_21 h2 h10 F.1 (fun j q => by omega) (fun a q => by have := nv a q; omega) h21, dM_f h3 F.1 (fun y q => q) (fun j q => by omega) (fun a q => by have := nv a q; omega), (F.1.2.1 68 (by decide)).trans h4, h5, h6, (F.1.2.1 69 (by decide)).trans h7, (F.1.2.1 70 (by decide)).trans h8, oM_f h9 F.1 ⟨by decide, by decide⟩ ⟨by unfold kR; decide, by unfold kR; decide⟩, fun i' hi' => ?_⟩, mF_w F.1 (fun j q => by unfold rS; omega) (fun a q => by have := nv a q; unfold rR; omega)⟩
  by_cases q : i' = i
  · rw [q, g_us]
    exact hk
  · rw [g_un q]
    obtain ⟨f1, f2⟩ := h0 i' hi'
    have s : ∀ a, kR a → a ≠ 1750 → a ≠ 1756 → a ≠ 1757 → f' a i' = f a i' := fun a a1 a2 a3 a4 => F.2.1 a i' a1 a2 a3 a4 q
    refine ⟨fun t => (s _ (by unfold kR; decide) (by decide) (by decide) (by decide)).trans (f1 t), fun t => ?_⟩
    obtain ⟨g1, g2, g3, g4, g5, g6, g7, g8, g9, g10, g11, g12, g13, g14, g15⟩ := f2 t
    refine ⟨(s _ (by unfold kR; decide) (by decide) (by decide) (by decide)).trans g1, g2, g3, (s _ (by unfold kR; decide) (by decide) (by decide) (by decide)).trans g4, g5, fun j hj => ⟨(F.2.2.1 _ (by omega)).trans (g6 j hj).1, (g6 j hj).2⟩, (s _ (by unfold kR; decide) (by decide) (by decide) (by decide)).trans g7, g8, (s _ (by unfold kR; decide) (by decide) (by decide) (by decide)).trans g9, (s _ (by unfold kR; decide) (by decide) (by decide) (by decide)).trans g10, g11, fun j hj => ⟨(F.2.2.2.1 _ (by omega)).trans (g12 j hj).1, (g12 j hj).2⟩, (s _ (by unfold kR; decide) (by decide) (by decide) (by decide)).trans g13, (s _ (by unfold kR; decide) (by decide) (by decide) (by decide)).trans g14, fun l hl => ⟨fun z => ?_, fun z => ?_⟩⟩
    · obtain ⟨a1, a2, a3⟩ := (g15 l hl).1 z
      exact ⟨a1, a2, sn_l a3 a1 a2 (fun y y1 y2 => F.2.2.2.2 y (by omega))⟩
    · obtain ⟨a1, a2, a3⟩ := (g15 l hl).2 z
      exact ⟨a1, a2, sn_l a3 a1 a2 (fun y y1 y2 => F.2.2.2.2 y (by omega))⟩
/-- the items of lists of the data -/
theorem kit_in {D0 : Nat → rv} {I0 : Nat → Nat → rv} (hD : da D0 I0) (hv : rv_in D0 v) : rv_t v = 3 → ∀ j, j < rv_l v → rv_ok (I0 (rv_d v) j) ∧ (rv_t (I0 (rv_d v) j) = 1 ∨ (rv_t (I0 (rv_d v) j) = 2 ∧ rv_l (I0 (rv_d v) j) ≤ 40)) := fun t j hj => by
  obtain ⟨-, hd⟩ := hv.1.2.2.2.2 t
  obtain ⟨e1, e2⟩ := hv.2 t
  obtain ⟨-, g⟩ := hD _ hd
  obtain ⟨-, g2⟩ := g e1
  obtain ⟨a1, a2⟩ := g2 j (by omega)
  exact ⟨a1, a2.imp id (fun q => ⟨q.1, q.2.2⟩)⟩
/-- the values stored, from the l-th letter on -/
theorem p_kp173 {xa xd : Int32} {K : mm_F → Prop} (hM : mm_S Gm) (hu : uP u) (hB : ∀ s, B s ≤ s) (hV : pV u N V) (hi : i < 10) (hd : 16 ≤ d) (h0 : MM u f0 N B M S lc ln op ch V o ra rd sp st hts FG (nI 0) bg vc li LC ci CA tr (nI 320)) (hK : ∀ f', kF i f0 f' → f' 1714 21 = nI 320 → (∀ a, a ≠ 1756 → kR a → ∀ y, f' a y = f1 a y) → (∀ l, l < 26 → (bt xa l → sn f' (u_I u) (98 * (52 * i + l)) (e_vl (u_D u) B V l N)) ∧ (bt xd l → sn f' (u_I u) (98 * (52 * i + 26 + l)) (u_D u l))) → K f') : ∀ {n l : Nat} {f : mm_F}, l + n = 26 → kF i f0 f → f 1714 21 = nI 320 → f 1754 i = xa → f 1755 i = xd → (∀ a, a ≠ 1756 → kR a → ∀ y, f a y = f1 a y) → (∀ l', l' < l → (bt xa l' → sn f (u_I u) (98 * (52 * i + l')) (e_vl (u_D u) B V l' N)) ∧ (bt xd l' → sn f (u_I u) (98 * (52 * i + 26 + l')) (u_D u l'))) → m_keeps_173 Gm (d + 1) (nI i) (nI l) f K
  | 0, l, f, hl, F, h21, ha, hb, hf1, hh => by
    have q : l = 26 := by omega
    subst q
    exact w_m_keeps_173 hM (by omega) (z_bt (by decide) (hK f F h21 hf1 hh))
  | n + 1, l, f, hl, F, h21, ha, hb, hf1, hh => by
    have hda := hu.1
    have nv : ∀ a, kR a → 1749 ≤ a ∧ a ≤ 1758 := fun a q => q
    have hVin : ∀ s l v, V s l = some v → rv_in (u_D u) v := fun s l v q => (hV s l v q).2.2
    -- one value stored: where it stands, the others as they were
    have one : ∀ {w : rv} {fm : Nat} {x5 : Int32} {f : mm_F} {KK : mm_F → Prop}, rv_in (u_D u) w → kF i f0 f → f 1714 21 = nI 320 → q_13108 (nI i) x5 (nI l) = nI fm → 5096 * i ≤ fm → fm + 98 ≤ 5096 * i + 5096 → (∀ KK2, jV f 320 w KK2 → m_valueOf Gm d x5 (nI l) f KK2) → (∀ f', kF i f0 f' → f' 1714 21 = nI 320 → (∀ a, a ≠ 1756 → kR a → ∀ y, f' a y = f a y) → (∀ y, ¬ (fm ≤ y ∧ y < fm + 98) → f' 1756 y = f 1756 y) → sn f' (u_I u) fm w → KK f') → m_valueOf Gm d x5 (nI l) f (fun v25 f24 => m_stores Gm d (q_13108 (nI i) x5 (nI l)) v25 f24 KK) := fun {w fm x5 f KK} hw F h21 hq h1 h2 hval hKK => by
      refine hval _ (fun f2 F2 e2 v2 => ?_)
      have kf2 : kF i f f2 := kF_v F2 (fun y q => by have q' : y = 320 := q; omega) (fun y q => q)
      have md2 : md f2 (u_D u) (u_I u) := (wM_f h0.1 (mw_t F.1 kf2.1) (by decide) (fun a q => by have := nv a q; omega)).2.2.1
      obtain ⟨d, rfl⟩ : ∃ y, d = y + 2 := ⟨d - 2, by omega⟩
      rw [hq]
      refine p_stores (I := u_I u) hM (by decide) (by omega) hw.1 v2 (fun t3 y hy => iv_md md2 hw t3 hy) (fun f3 F3 z3 s3 => ?_)
      have kf3 : kF i f2 f3 := kF_z F3 z3 h1 h2
      refine hKK f3 (kF_t F (kF_t kf2 kf3)) ((F3.2.1 21 (fun q => q)).trans e2) (fun a a6 ak y => ?_) (fun y hy => ?_) s3
      · have a1 : f3 a y = f2 a y := F3.1 a y (by have := nv a ak; omega) (by have := nv a ak; omega) (fun q => a6 q)
        exact a1.trans (F2.1 a y (by have := nv a ak; omega) (by have := nv a ak; omega) (fun q => q))
      · exact (z3 y hy).trans (F2.1 1756 y (by decide) (by decide) (fun q => q))
    -- the data's value, and on
    have two : ∀ {f : mm_F}, kF i f0 f → f 1714 21 = nI 320 → f 1754 i = xa → f 1755 i = xd → (∀ a, a ≠ 1756 → kR a → ∀ y, f a y = f1 a y) → (∀ l', l' < l → (bt xa l' → sn f (u_I u) (98 * (52 * i + l')) (e_vl (u_D u) B V l' N)) ∧ (bt xd l' → sn f (u_I u) (98 * (52 * i + 26 + l')) (u_D u l'))) → (bt xa l → sn f (u_I u) (98 * (52 * i + l)) (e_vl (u_D u) B V l N)) → mm_br (((mm_shr (f 1755 i) (nI l)) &&& (nI 1)) = (nI 1)) (m_valueOf Gm d (nI 1) (nI l) f (fun v29 f28 => m_stores Gm d (q_13108 (nI i) (nI 1) (nI l)) v29 f28 (fun f30 => m_keeps_173 Gm (d + 1) (nI i) (nI l + nI 1) f30 K))) (m_keeps_173 Gm (d + 1) (nI i) (nI l + nI 1) f K) := fun {f} F h21 ha hb hf1 hh hl1 => by
      rw [hb, bt_1r (by omega), z_add]
      refine z_br (fun q => ?_) (fun q => ?_)
      · have hin : rv_in (u_D u) (u_D u l) := by
          have := e_vl_in (x := 0) (B := B) (V := V) hda hVin (l := l) (by omega)
          rw [show e_vl (u_D u) B V l 0 = u_D u l from if_pos rfl] at this
          exact this
        have md1 : md f (u_D u) (u_I u) := (wM_f h0.1 F.1 (by decide) (fun a q => by have := nv a q; omega)).2.2.1
        refine one hin F h21 (z_snS i hi l (by omega)).2 (by omega) (by omega) (fun KK2 hKK2 => ?_) (fun f' b1 b2 b3 b4 b5 => ?_)
        · obtain ⟨d', rfl⟩ : ∃ y, d = y + 1 := ⟨d - 1, by omega⟩
          exact p_valueOfD hM md1 (by omega) h21 (by decide) hKK2
        · refine p_kp173 hM hu hB hV hi hd h0 hK (n := n) (l := l + 1) (by omega) b1 b2 ((b3 1754 (by decide) (by unfold kR; decide) i).trans ha) ((b3 1755 (by decide) (by unfold kR; decide) i).trans hb) (fun a a6 ak y => (b3 a a6 ak y).trans (hf1 a a6 ak y)) (fun l' hl' => ?_)
          by_cases e : l' = l
          · subst e
            exact ⟨fun t => sn_l (hl1 t) (e_vl_in hda hVin (by omega)).1 (kit_in hda (e_vl_in hda hVin (by omega))) (fun y y1 y2 => b4 y (by omega)), fun _ => b5⟩
          · obtain ⟨g1, g2⟩ := hh l' (by omega)
            have hin' : rv_in (u_D u) (u_D u l') := by
              have := e_vl_in (x := 0) (B := B) (V := V) hda hVin (l := l') (by omega)
              rw [show e_vl (u_D u) B V l' 0 = u_D u l' from if_pos rfl] at this
              exact this
            exact ⟨fun t => sn_l (g1 t) (e_vl_in hda hVin (by omega)).1 (kit_in hda (e_vl_in hda hVin (by omega))) (fun y y1 y2 => b4 y (by omega)), fun t => sn_l (g2 t) hin'.1 (kit_in hda hin') (fun y y1 y2 => b4 y (by omega))⟩
      · refine p_kp173 hM hu hB hV hi hd h0 hK (n := n) (l := l + 1) (by omega) F h21 ha hb hf1 (fun l' hl' => ?_)
        by_cases e : l' = l
        · subst e
          exact ⟨hl1, fun t => absurd t q⟩
        · exact hh l' (by omega)
    refine w_m_keeps_173 hM (by omega) (z_bf (by rw [z_le (by omega) (by omega)]; omega) (z_ixi hi (by omega) ?_))
    rw [ha, bt_1r (by omega)]
    refine z_br (fun q => ?_) (fun q => z_ixi hi (by omega) (two F h21 ha hb hf1 hh (fun t => absurd t q)))
    have hin : rv_in (u_D u) (e_vl (u_D u) B V l N) := e_vl_in hda hVin (by omega)
    have md1 : md f (u_D u) (u_I u) := (wM_f h0.1 F.1 (by decide) (fun a q => by have := nv a q; omega)).2.2.1
    have me1 : me f (u_D u) N B V := me_f h0.2.2.1.1 F.1 (fun y q => q) (by decide) (fun a q => by have := nv a q; omega)
    have h27 : f 1714 27 = sh N := (F.1.2.1 27 (by decide)).trans h0.2.1.2.1
    refine one hin F h21 (z_snS i hi l (by omega)).1 (by omega) (by omega) (fun KK2 hKK2 => ?_) (fun f' b1 b2 b3 b4 b5 => z_ixi hi (by omega) ?_)
    · obtain ⟨d', rfl⟩ : ∃ y, d = y + 3 := ⟨d - 3, by omega⟩
      exact p_valueOf hM md1 me1 hB (by omega) (Nat.le_refl N) h27 h21 (Nat.le_refl _) (by decide) hin.1 hKK2
    · refine two b1 b2 ((b3 1754 (by decide) (by unfold kR; decide) i).trans ha) ((b3 1755 (by decide) (by unfold kR; decide) i).trans hb) (fun a a6 ak y => (b3 a a6 ak y).trans (hf1 a a6 ak y)) (fun l' hl' => ?_) (fun _ => b5)
      obtain ⟨g1, g2⟩ := hh l' hl'
      have hin' : rv_in (u_D u) (u_D u l') := by
        have := e_vl_in (x := 0) (B := B) (V := V) hda hVin (l := l') (by omega)
        rw [show e_vl (u_D u) B V l' 0 = u_D u l' from if_pos rfl] at this
        exact this
      exact ⟨fun t => sn_l (g1 t) (e_vl_in hda hVin (by omega)).1 (kit_in hda (e_vl_in hda hVin (by omega))) (fun y y1 y2 => b4 y (by omega)), fun t => sn_l (g2 t) hin'.1 (kit_in hda hin') (fun y y1 y2 => b4 y (by omega))⟩
/-- the cells kept, from the j-th one on -/
theorem p_kp133 {n0 : Nat} {K : mm_F → Prop} (hM : mm_S Gm) (hi : i < 10) (h0 : MM u f0 N B M S lc ln op ch V o ra rd sp st hts FG (nI 0) bg vc li LC ci CA tr (nI 320)) (hn0 : n0 ≤ o_n o) (hK : ∀ f', kF i f0 f' → f' 1714 21 = nI 320 → (∀ a, a ≠ 1757 → kR a → ∀ y, f' a y = f1 a y) → (∀ y, y < o_n o - n0 → f' 1757 (300 * i + y) = om (o_c o (n0 + y))) → m_keeps_173 Gm (d + 1) (nI i) (nI 0) f' K) : ∀ {n j : Nat} {f : mm_F}, j + n = o_n o - n0 → kF i f0 f → f 1714 21 = nI 320 → (∀ a, a ≠ 1757 → kR a → ∀ y, f a y = f1 a y) → (∀ y, y < j → f 1757 (300 * i + y) = om (o_c o (n0 + y))) → m_keeps_133 Gm (d + 1) (nI i) (nI n0) (nI (n0 + j)) f K
  | 0, j, f, hj, F, h21, hf1, hh => by
    have ho := h0.2.2.2.2.2.2.2.2.1
    have hn3 := ho.1.1
    have h61 : f 1714 61 = nI (o_n o) := (F.1.2.1 61 (by decide)).trans ho.2.1
    refine w_m_keeps_133 hM (z_bt ?_ (hK f F h21 hf1 (fun y hy => hh y (by omega))))
    rw [h61, z_le (by omega) (by omega)]
    omega
  | n + 1, j, f, hj, F, h21, hf1, hh => by
    have ho := h0.2.2.2.2.2.2.2.2.1
    have hn3 := ho.1.1
    have h61 : f 1714 61 = nI (o_n o) := (F.1.2.1 61 (by decide)).trans ho.2.1
    refine w_m_keeps_133 hM (z_bf (by rw [h61, z_le (by omega) (by omega)]; omega) (z_ixi (by omega) (by omega) ?_))
    rw [z_mul, z_add, z_sub (by omega), show 300 * i + (n0 + j) - n0 = 300 * i + j by omega]
    refine z_ixi (by omega) (by omega) ?_
    have e59 : f 1759 (n0 + j) = om (o_c o (n0 + j)) := (F.1.1 1759 _ (by decide) (by decide) (by unfold kR; decide)).trans (ho.2.2.2.1 _ (by omega))
    rw [e59, z_add, show n0 + j + 1 = n0 + (j + 1) by omega]
    refine p_kp133 hM hi h0 hn0 hK (n := n) (j := j + 1) (by omega) (kF_t F (kF_w (by unfold kR; decide) (Or.inr (Or.inr ⟨rfl, by omega, by omega⟩)))) ((z_u2n (by decide)).trans h21) (fun a a7 ak y => (z_u2n a7).trans (hf1 a a7 ak y)) (fun y hy => ?_)
    by_cases q : y = j
    · rw [q]
      exact z_u2s
    · exact (z_u2m (by omega)).trans (hh y (by omega))
/-- the line kept, from the j-th template on -/
theorem p_kp83 {x3 : Int32} {K : mm_F → Prop} (hM : mm_S Gm) (hi : i < 10) (h0 : MM u f0 N B M S lc ln op ch V o ra rd sp st hts FG (nI 0) bg vc li LC ci CA tr (nI 320)) (hK : ∀ f', kF i f0 f' → f' 1714 21 = nI 320 → (∀ a, a ≠ 1750 → kR a → ∀ y, f' a y = f1 a y) → (∀ y, y < lc → f' 1750 (10 * i + y) = nI (ln y)) → m_keeps_133 Gm (d + 1) (nI i) x3 x3 f' K) : ∀ {n j : Nat} {f : mm_F}, j + n = lc → kF i f0 f → f 1714 21 = nI 320 → (∀ a, a ≠ 1750 → kR a → ∀ y, f a y = f1 a y) → (∀ y, y < j → f 1750 (10 * i + y) = nI (ln y)) → m_keeps_83 Gm (d + 1) (nI i) x3 (nI j) f K
  | n, j, f, hj, F, h21, hf1, hh => by
    have hs := h0.2.1
    have hli : li < 14 := by
      have := hs.2.2.2.2.1
      have := hs.2.2.2.2.2.1
      have := hs.2.2.2.2.2.2.1
      omega
    have hml := hs.2.2.2.2.2.2.2.2.1
    have hlc10 := hs.2.2.2.2.2.2.2.2.2.1
    have h34 : f 1714 34 = nI li := (F.1.2.1 34 (by decide)).trans hs.2.2.2.1
    have r : ∀ a y, a = 1737 ∨ a = 1738 → f a y = f0 a y := fun a y ha => F.1.1 a y (by omega) (by omega) (by unfold kR; omega)
    refine w_m_keeps_83 hM ?_
    rw [h34]
    refine z_ixi hli (by omega) ?_
    rw [r _ _ (Or.inr rfl), hml.1, z_le (by omega) (by omega)]
    refine z_br (fun q => hK f F h21 hf1 (fun y hy => hh y (by omega))) (fun q => ?_)
    rw [show nI 10 * nI li + nI j = nI (10 * li + j) by rw [z_mul, z_add], show nI 10 * nI i + nI j = nI (10 * i + j) by rw [z_mul, z_add]]
    refine z_ixi (by omega) (by omega) (z_ixi (by omega) (by omega) ?_)
    rw [r _ _ (Or.inl rfl), (hml.2 j (by omega)).1, z_add]
    match n, hj with
    | 0, hj => exact absurd hj (by omega)
    | n + 1, hj =>
      refine p_kp83 hM hi h0 hK (n := n) (j := j + 1) (by omega) (kF_t F (kF_w (by unfold kR; decide) (Or.inr (Or.inl ⟨rfl, by omega, by omega⟩)))) ((z_u2n (by decide)).trans h21) (fun a a7 ak y => (z_u2n a7).trans (hf1 a a7 ak y)) (fun y hy => ?_)
      by_cases q : y = j
      · rw [q]
        exact z_u2s
      · exact (z_u2m (by omega)).trans (hh y (by omega))
/-- a fragment kept by the model -/
theorem p_keeps {n0 : Nat} {w0 : Bool} {xa xd x4 : Int32} {K : mm_F → Prop} (hM : mm_S Gm) (hu : uP u) (h10 : ∀ x, x ∈ ch → en_n x ≤ 10) (hB : ∀ s, B s ≤ s) (hV : pV u N V) (hi : i < 10) (hT : T < 10) (hp : p < 80) (hd : 17 ≤ d) (h : MM u f N B M S lc ln op ch V o ra rd sp st hts FG (nI 0) bg vc li LC ci CA tr (nI 320)) (hM12 : M < 12) (h46 : f 1746 M = xa) (h47 : f 1747 M = xd) (hn0 : n0 ≤ o_n o) (hx4 : x4 = nI (o_x o n0)) (hK : ∀ f', MM u f' N B M S lc ln op ch V o ra rd sp st hts (g_u FG i (k_nw u T p r lc ln n0 w0 o xa xd N B V)) (nI 0) bg vc li LC ci CA tr (nI 320) → mF tr LC CA f f' → K f') : m_keeps Gm d (nI i) (nI (1 + 100 * T + p)) (nI n0) x4 (bI w0) f K := by
  obtain ⟨d, rfl⟩ : ∃ y, d = y + 1 := ⟨d - 1, by omega⟩
  have hs := h.2.1
  have hli : li < 14 := by
    have := hs.2.2.2.2.1
    have := hs.2.2.2.2.2.1
    have := hs.2.2.2.2.2.2.1
    omega
  have hml := hs.2.2.2.2.2.2.2.2.1
  have hlc10 := hs.2.2.2.2.2.2.2.2.2.1
  have h34 : f 1714 34 = nI li := hs.2.2.2.1
  have h44 : f 1714 44 = nI M := h.2.2.1.2.2.2.1.2.1
  have h21 : f 1714 21 = nI 320 := hs.2.2.1
  have ho := h.2.2.2.2.2.2.2.2.1
  have hok := ho.1
  have hn3 := hok.1
  refine w_m_keeps hM (z_ixi hi (by omega) ?_)
  rw [show (mj_u2 f 1749 i (nI (1 + 100 * T + p))) 1714 34 = nI li from (z_u2n (by decide)).trans h34]
  refine z_ixi hli (by omega) (z_ixi hi (by omega) (z_ixi hi (by omega) (z_ixi hi (by omega) ⟨bI_b _, ?_⟩)))
  rw [show (mj_u2 f 1749 i (nI (1 + 100 * T + p))) 1738 li = nI lc from (z_u2n (by decide)).trans hml.1]
  -- the writes one by one
  have k1 : kF i f (mj_u2 f 1749 i (nI (1 + 100 * T + p))) := kF_w (by unfold kR; decide) (Or.inl ⟨by decide, by decide, by decide, rfl⟩)
  have a49 : (mj_u2 f 1749 i (nI (1 + 100 * T + p))) 1749 i = nI (1 + 100 * T + p) := z_u2s
  have a21 : (mj_u2 f 1749 i (nI (1 + 100 * T + p))) 1714 21 = nI 320 := (z_u2n (by decide)).trans h21
  generalize mj_u2 f 1749 i (nI (1 + 100 * T + p)) = g1 at k1 a21 a49 ⊢
  have k2 : kF i f (mj_u2 g1 1751 i (nI lc)) := kF_t k1 (kF_w (by unfold kR; decide) (Or.inl ⟨by decide, by decide, by decide, rfl⟩))
  have b49 : (mj_u2 g1 1751 i (nI lc)) 1749 i = nI (1 + 100 * T + p) := (z_u2n (by decide)).trans a49
  have b51 : (mj_u2 g1 1751 i (nI lc)) 1751 i = nI lc := z_u2s
  have b21 : (mj_u2 g1 1751 i (nI lc)) 1714 21 = nI 320 := (z_u2n (by decide)).trans a21
  generalize mj_u2 g1 1751 i (nI lc) = g2 at k2 b21 b49 b51 ⊢
  have k3 : kF i f (mj_u2 g2 1752 i x4) := kF_t k2 (kF_w (by unfold kR; decide) (Or.inl ⟨by decide, by decide, by decide, rfl⟩))
  have c49 : (mj_u2 g2 1752 i x4) 1749 i = nI (1 + 100 * T + p) := (z_u2n (by decide)).trans b49
  have c51 : (mj_u2 g2 1752 i x4) 1751 i = nI lc := (z_u2n (by decide)).trans b51
  have c52 : (mj_u2 g2 1752 i x4) 1752 i = x4 := z_u2s
  have c21 : (mj_u2 g2 1752 i x4) 1714 21 = nI 320 := (z_u2n (by decide)).trans b21
  generalize mj_u2 g2 1752 i x4 = g3 at k3 c21 c49 c51 c52 ⊢
  have k4 : kF i f (mj_u2 g3 1753 i (bI w0)) := kF_t k3 (kF_w (by unfold kR; decide) (Or.inl ⟨by decide, by decide, by decide, rfl⟩))
  have d49 : (mj_u2 g3 1753 i (bI w0)) 1749 i = nI (1 + 100 * T + p) := (z_u2n (by decide)).trans c49
  have d51 : (mj_u2 g3 1753 i (bI w0)) 1751 i = nI lc := (z_u2n (by decide)).trans c51
  have d52 : (mj_u2 g3 1753 i (bI w0)) 1752 i = x4 := (z_u2n (by decide)).trans c52
  have d53 : (mj_u2 g3 1753 i (bI w0)) 1753 i = bI w0 := z_u2s
  have d21 : (mj_u2 g3 1753 i (bI w0)) 1714 21 = nI 320 := (z_u2n (by decide)).trans c21
  generalize mj_u2 g3 1753 i (bI w0) = g4 at k4 d21 d49 d51 d52 d53 ⊢
  have lo : ∀ {f' : mm_F}, kF i f f' → ∀ a y, a ≠ 1714 → ¬ (1728 ≤ a ∧ a ≤ 1732) → ¬ kR a → f' a y = f a y := fun F a y h1 h2 h3 => F.1.1 a y h1 h2 h3
  rw [show g4 1714 44 = nI M from (k4.1.2.1 44 (by decide)).trans h44]
  refine z_ixi hM12 (by omega) (z_ixi hi (by omega) ?_)
  rw [show g4 1746 M = xa from (lo k4 1746 M (by decide) (by decide) (by unfold kR; decide)).trans h46]
  have k5 : kF i f (mj_u2 g4 1754 i xa) := kF_t k4 (kF_w (by unfold kR; decide) (Or.inl ⟨by decide, by decide, by decide, rfl⟩))
  have e49 : (mj_u2 g4 1754 i xa) 1749 i = nI (1 + 100 * T + p) := (z_u2n (by decide)).trans d49
  have e51 : (mj_u2 g4 1754 i xa) 1751 i = nI lc := (z_u2n (by decide)).trans d51
  have e52 : (mj_u2 g4 1754 i xa) 1752 i = x4 := (z_u2n (by decide)).trans d52
  have e53 : (mj_u2 g4 1754 i xa) 1753 i = bI w0 := (z_u2n (by decide)).trans d53
  have e54 : (mj_u2 g4 1754 i xa) 1754 i = xa := z_u2s
  have e21 : (mj_u2 g4 1754 i xa) 1714 21 = nI 320 := (z_u2n (by decide)).trans d21
  generalize mj_u2 g4 1754 i xa = g5 at k5 e21 e49 e51 e52 e53 e54 ⊢
  rw [show g5 1714 44 = nI M from (k5.1.2.1 44 (by decide)).trans h44]
  refine z_ixi hM12 (by omega) (z_ixi hi (by omega) (z_ixi hi (by omega) ?_))
  rw [show g5 1747 M = xd from (lo k5 1747 M (by decide) (by decide) (by unfold kR; decide)).trans h47]
  have k6 : kF i f (mj_u2 g5 1755 i xd) := kF_t k5 (kF_w (by unfold kR; decide) (Or.inl ⟨by decide, by decide, by decide, rfl⟩))
  have f49 : (mj_u2 g5 1755 i xd) 1749 i = nI (1 + 100 * T + p) := (z_u2n (by decide)).trans e49
  have f51 : (mj_u2 g5 1755 i xd) 1751 i = nI lc := (z_u2n (by decide)).trans e51
  have f52 : (mj_u2 g5 1755 i xd) 1752 i = x4 := (z_u2n (by decide)).trans e52
  have f53 : (mj_u2 g5 1755 i xd) 1753 i = bI w0 := (z_u2n (by decide)).trans e53
  have f54 : (mj_u2 g5 1755 i xd) 1754 i = xa := (z_u2n (by decide)).trans e54
  have f55 : (mj_u2 g5 1755 i xd) 1755 i = xd := z_u2s
  have f21 : (mj_u2 g5 1755 i xd) 1714 21 = nI 320 := (z_u2n (by decide)).trans e21
  generalize mj_u2 g5 1755 i xd = g6 at k6 f21 f49 f51 f52 f53 f54 f55 ⊢
  rw [show g6 1714 61 = nI (o_n o) from (k6.1.2.1 61 (by decide)).trans ho.2.1, z_sub hn0]
  have k7 : kF i f (mj_u2 g6 1758 i (nI (o_n o - n0))) := kF_t k6 (kF_w (by unfold kR; decide) (Or.inl ⟨by decide, by decide, by decide, rfl⟩))
  have s49 : (mj_u2 g6 1758 i (nI (o_n o - n0))) 1749 i = nI (1 + 100 * T + p) := (z_u2n (by decide)).trans f49
  have s51 : (mj_u2 g6 1758 i (nI (o_n o - n0))) 1751 i = nI lc := (z_u2n (by decide)).trans f51
  have s52 : (mj_u2 g6 1758 i (nI (o_n o - n0))) 1752 i = x4 := (z_u2n (by decide)).trans f52
  have s53 : (mj_u2 g6 1758 i (nI (o_n o - n0))) 1753 i = bI w0 := (z_u2n (by decide)).trans f53
  have s54 : (mj_u2 g6 1758 i (nI (o_n o - n0))) 1754 i = xa := (z_u2n (by decide)).trans f54
  have s55 : (mj_u2 g6 1758 i (nI (o_n o - n0))) 1755 i = xd := (z_u2n (by decide)).trans f55
  have s58 : (mj_u2 g6 1758 i (nI (o_n o - n0))) 1758 i = nI (o_n o - n0) := z_u2s
  have s21 : (mj_u2 g6 1758 i (nI (o_n o - n0))) 1714 21 = nI 320 := (z_u2n (by decide)).trans f21
  generalize mj_u2 g6 1758 i (nI (o_n o - n0)) = g7 at k7 s49 s51 s52 s53 s54 s55 s58 s21 ⊢
  refine p_kp83 (f1 := g7) hM hi h (fun f8 F8 z8 n8 l8 => ?_) (n := lc) (j := 0) (Nat.zero_add _) k7 s21 (fun _ _ _ _ => rfl) (fun y hy => absurd hy (Nat.not_lt_zero y))
  refine p_kp133 (f1 := f8) (n0 := n0) hM hi h hn0 (fun f9 F9 z9 n9 l9 => ?_) (n := o_n o - n0) (j := 0) (Nat.zero_add _) F8 z8 (fun _ _ _ _ => rfl) (fun y hy => absurd hy (Nat.not_lt_zero y))
  have t : ∀ a, kR a → a ≠ 1750 → a ≠ 1757 → ∀ y, f9 a y = g7 a y := fun a ha h1 h2 y => (n9 a h2 ha y).trans (n8 a h1 ha y)
  have tx : ∀ a, kR a → a ≠ 1757 → ∀ y, f9 a y = f8 a y := fun a ha h2 y => n9 a h2 ha y
  refine p_kp173 (f1 := f9) (xa := xa) (xd := xd) hM hu hB hV hi (by omega) h (fun fz Fz zz nz lz => ?_) (n := 26) (l := 0) (Nat.zero_add _) F9 z9 ((t 1754 (by unfold kR; decide) (by decide) (by decide) i).trans s54) ((t 1755 (by unfold kR; decide) (by decide) (by decide) i).trans s55) (fun _ _ _ _ => rfl) (fun y hy => absurd hy (Nat.not_lt_zero y))
  have tz : ∀ a, kR a → a ≠ 1750 → a ≠ 1757 → a ≠ 1756 → ∀ y, fz a y = g7 a y := fun a ha h1 h2 h3 y => (nz a h3 ha y).trans (t a ha h1 h2 y)
  have hx8 := o_x8 hok hn0
  have hVin : ∀ s l v, V s l = some v → rv_in (u_D u) v := fun s l v q => (hV s l v q).2.2
  have hfg : fgM1 fz i (k_nw u T p r lc ln n0 w0 o xa xd N B V) := by
    refine ⟨fun q => absurd q (show ¬ true = false by decide), fun _ => ⟨(tz 1749 (by unfold kR; decide) (by decide) (by decide) (by decide) i).trans s49, hT, hp, (tz 1751 (by unfold kR; decide) (by decide) (by decide) (by decide) i).trans s51, hlc10, fun y hy => ⟨?_, (hml.2 y hy).2⟩, (tz 1752 (by unfold kR; decide) (by decide) (by decide) (by decide) i).trans (s52.trans hx4), hx8, (tz 1753 (by unfold kR; decide) (by decide) (by decide) (by decide) i).trans s53, (tz 1758 (by unfold kR; decide) (by decide) (by decide) (by decide) i).trans s58, (show o_n o - n0 ≤ 300 by omega), fun y hy => ⟨?_, ?_⟩, (tz 1754 (by unfold kR; decide) (by decide) (by decide) (by decide) i).trans s54, (tz 1755 (by unfold kR; decide) (by decide) (by decide) (by decide) i).trans s55, fun y hy => ⟨fun z => ?_, fun z => ?_⟩⟩⟩
    · exact (nz 1750 (by decide) (by unfold kR; decide) _).trans ((tx 1750 (by unfold kR; decide) (by decide) _).trans (l8 y hy))
    · exact (nz 1757 (by decide) (by unfold kR; decide) _).trans (l9 y hy)
    · have hy' : y < o_n o - n0 := hy
      obtain ⟨q1, q2, q3, -, q5⟩ := hok.2.2 (n0 + y) (by omega)
      refine ⟨q1, q2, q3, ?_⟩
      show gz (kcx (o_x o n0) (fun j => o_c o (n0 + j)) y) (o_c o (n0 + y))
      rw [kcx_o hok (by omega)]
      exact q5
    · have hin := e_vl_in (x := N) (B := B) hu.1 hVin hy
      exact ⟨hin.1, kit_in hu.1 hin, (lz y hy).1 z⟩
    · have hin := e_vl_in (x := 0) (B := B) hu.1 hVin hy
      rw [show e_vl (u_D u) B V y 0 = u_D u y from if_pos rfl] at hin
      exact ⟨hin.1, kit_in hu.1 hin, (lz y hy).2 z⟩
  obtain ⟨m1, m2⟩ := MM_kp h h10 hi Fz zz hfg
  exact hK fz m1 m2
end ZZS
