/-! TRIES, by both sides -/
section ZM
variable {u : wo} {Gm : mj_G} {f f' : mm_F} {ρ ρ' ρ1 : Nat → Nat} {G G1 G2 G' : mj_G} {cur r nx p q m d t T l s k c x : Nat} {e : Int32} {v : rv} {b1 : Int32} {L1 : List (Nat × Nat)} {N : Nat} {B : Nat → Nat} {M : Nat} {S : Nat → Nat} {lc : Nat} {ln : Nat → Nat} {op : Nat} {ch : List en} {V : Nat → Nat → Option rv} {o : ost} {ra rd : Nat → Int32} {sp : Nat → Bool} {st hts : Nat} {FG : Nat → kfr} {V' : Nat → Nat → Option rv} {o' : ost} {ra' rd' : Nat → Int32} {sp' : Nat → Bool} {st' hts' : Nat} {FG' : Nat → kfr} {fr b cn : Nat → Nat} {top la : Nat} {bg : Nat → Nat} {vc li LC : Nat} {ci : Int32} {CA tr : Nat}
theorem chM_r (r : ∀ a i, 1737 ≤ a → a ≤ 1744 → f' a i = f a i) : ∀ {L : List en} {m c : Nat} {z : Int32}, chM f L m c z → chM f' L m c z := fun {L} => by
  induction L with
  | nil =>
    intro m c z h
    rcases h with h | ⟨j, h1, h2, h3⟩
    · exact Or.inl h
    · exact Or.inr ⟨j, h1, h2, (r _ _ (by decide) (by decide)).trans h3⟩
  | cons x L ih =>
    intro m c z ⟨j, l, h1, h2, h3, h4, h5, h6, h7, h8, h9, h11⟩
    refine ⟨j, l, h1, h2, (r _ _ (by decide) (by decide)).trans h3, (r _ _ (by decide) (by decide)).trans h4, (r _ _ (by decide) (by decide)).trans h5, (r _ _ (by decide) (by decide)).trans h6, (r _ _ (by decide) (by decide)).trans h7, h8, ⟨(r _ _ (by decide) (by decide)).trans h9.1, fun k hk => ⟨(r _ _ (by decide) (by decide)).trans (h9.2 k hk).1, (h9.2 k hk).2⟩⟩, ?_⟩
    rw [r _ _ (by decide) (by decide)]
    exact ih h11
/-- how many tries are open, and what they saved -/
theorem MM_66 {S1 : Nat → Prop} {tr' : Nat} {fe : Int32} (h : MM u f N B M S lc ln op ch V o ra rd sp st hts FG e bg vc li LC ci CA tr fe) (F : mw no_R S1 R_y f f') (hS : ∀ j, S1 j → j = 66) (h66 : f' 1714 66 = nI tr') : MM u f' N B M S lc ln op ch V o ra rd sp st hts FG e bg vc li LC ci CA tr' fe := by
  obtain ⟨h1, ⟨s1, s2, s3, s4, s5, s6, s7, s8, s9, s9', s11, s12, s13, s14, s15, s16⟩, h3, h4, h5, h6, h7, h8, h9, h0⟩ := h
  have nr : ∀ a, no_R a → False := fun a q => q
  have nv : ∀ a, R_y a → a = 1762 := fun a q => q
  have s : ∀ j, ¬ j = 66 → f' 1714 j = f 1714 j := fun j hj => F.2.1 j (fun q => hj (hS j q))
  have r : ∀ a i, 1737 ≤ a → a ≤ 1744 → f' a i = f a i := fun a i h1 h2 => F.1 a i (by omega) (by omega) (fun q => by have := nv a q; omega)
  refine ⟨wM_f h1 F (fun q => by have := hS _ q; omega) (fun a q => by have := nv a q; omega), ⟨s1, (s 27 (by decide)).trans s2, (s 21 (by decide)).trans s3, (s 34 (by decide)).trans s4, s5, s6, s7, (s 33 (by decide)).trans s8, ⟨(r _ _ (by decide) (by decide)).trans s9.1, fun k hk => ⟨(r _ _ (by decide) (by decide)).trans (s9.2 k hk).1, (s9.2 k hk).2⟩⟩, s9', (s 43 (by decide)).trans s11, (s 41 (by decide)).trans s12, s13, (s 42 (by decide)).trans s14, chM_r r s15, h66⟩, dM_f h3 F (fun i q => absurd q (nr i)) (fun j q => by have := hS j q; omega) (fun a q => by have := nv a q; omega), (s 68 (by decide)).trans h4, h5, h6, (s 69 (by decide)).trans h7, (s 70 (by decide)).trans h8, oM_f h9 F ⟨fun q => by have := hS _ q; omega, fun q => by have := hS _ q; omega⟩ ⟨by unfold R_y; decide, by unfold R_y; decide⟩, fgM_f h0 F (fun a q => by have := nv a q; omega)⟩
theorem pX_s (h : pX u N B M S lc ln op ch) (hx : x ≤ N) : pX u (N + 1) (e_bh B N x) M S lc ln op ch := by
  obtain ⟨h1, h2, h3, h4, h5, h6, h7, h8⟩ := h
  refine ⟨by omega, h2, h3, h4, fun s => ?_, h6, fun k hk => by have := h7 k hk; omega, fun y hy => ?_⟩
  · unfold e_bh
    by_cases q : s = N
    · rw [if_pos q]
      omega
    · rw [if_neg q]
      exact h5 s
  · obtain ⟨a1, a2, a3, a4, a5⟩ := h8 y hy
    exact ⟨a1, a2, a3, by omega, a5⟩
theorem pV_s (h : pV u N V) : pV u (N + 1) V := fun s l v q => by
  obtain ⟨a1, a2, a3⟩ := h s l v q
  exact ⟨by omega, a2, a3⟩
theorem bd_0 {L : List (Nat × Nat)} {hm : Int32} {w : Nat → Nat} {A : Nat → Prop} {G : mj_G} {b : Int32} (hB : tb_B k A G hm b r w p q L) (hV : pV u N V) (hst : st ≤ u_bu u) (ih : r ≠ 0 → bdJ u Gm T N B M S lc ln op ch V o ra rd sp st hts FG r p q) : bdJ u Gm T N B M S lc ln op ch V o ra rd sp st hts FG r p q := by
  by_cases hr : r = 0
  · subst hr
    have hpq := tb_0 hB
    subst hpq
    exact ⟨nI 0, V, o, ra, rd, sp, st, hts, FG, pJ_r hV hst, sgC_0, sgM_0⟩
  · exact ih hr
/-- a try by the model -/
theorem try_M {q1 : Nat} {x5 x6 x3 : Int32} {e1 : Int32} {V1 : Nat → Nat → Option rv} {o1 : ost} {ra1 rd1 : Nat → Int32} {sp1 : Nat → Bool} {st1 hts1 : Nat} {FG1 : Nat → kfr} {KK : mm_F → Prop} (hM : mm_S Gm) (hx : pX u N B M S lc ln op ch) (hV : pV u N V) (hm : MM u f N B M S lc ln op ch V o ra rd sp st hts FG (nI 0) bg vc li LC ci CA tr (nI 320)) (ih : sgM u Gm T (N + 1) (e_bh B N N) M S lc ln op ch V o ra rd sp st hts FG (x + 1) q1 e1 V1 o1 ra1 rd1 sp1 st1 hts1 FG1) (hV1 : ∀ s l, s < N → V1 s l = V s l) (h80 : q1 ≤ 80) (hq1 : q1 ≤ u_n u T) (hb1 : 9 * (tr + 1) + (q1 - (x + 1)) ≤ 72 * op + 80 ∧ 7 * (N + 1) + (q1 - (x + 1)) ≤ 84 * op + 87) (hb2 : 5 * vc ≤ 95 * op + (x + 1)) (hd : (q1 - (x + 1)) + 90 * (12 - op) + 325 ≤ d)
    (kA : e1 = nI 0 ∨ e1 = Int32.ofInt (-9) → ∀ f', MM u f' N B M S lc ln op ch V o1 ra1 rd1 sp1 st1 hts1 FG1 e1 bg vc li LC ci CA tr (nI 320) → mF tr LC CA f f' → KK f')
    (kC : ¬ e1 = nI 0 → ¬ e1 = Int32.ofInt (-9) → ∀ f', MM u f' N B M S lc ln op ch V o ra1 rd1 sp1 st1 hts1 FG1 (nI 0) bg vc li LC ci CA tr (nI 320) → mF tr LC CA f f' → mm_br (x5 = Int32.ofInt (-1)) (KK f') (m_renders Gm d (nI T) (x5 + nI 3) x6 f' (fun f22 => KK f22))) : m_rendersBodies_39 Gm (d + 1) (nI 43) (nI T) x3 (nI (x + 1)) x5 x6 (nI q1) f KK := by
  obtain ⟨d, rfl⟩ : ∃ y, d = y + 1 := ⟨d - 1, by omega⟩
  have hop := hx.2.1
  have ho : oM f o := hm.2.2.2.2.2.2.2.2.1
  have hok := ho.1
  have htr : tr < 112 := by omega
  have h66 : f 1714 66 = nI tr := hm.2.1.2.2.2.2.2.2.2.2.2.2.2.2.2.2.2
  refine w_m_rendersBodies_39 hM (z_bt rfl (w_m_isTried hM ?_))
  rw [h66, ho.2.1, ho.2.2.1]
  refine p_try21 (m := o_n o) (j := 0) (o := o) hM ho htr (fun f1 F1 t1 t2 => ?_) (Nat.zero_add _) mw_r (fun i hi => absurd hi (by omega)) (fun i _ => rfl)
  have e61 : f1 1714 61 = nI (o_n o) := (F1.2.1 61 (fun q => q)).trans ho.2.1
  have e66 : f1 1714 66 = nI tr := (F1.2.1 66 (fun q => q)).trans h66
  refine w_m_isTried_21 hM (z_bt (by rw [e61, z_le (by have := hok.1; omega) (by have := hok.1; omega)]; exact Nat.le_refl _) ?_)
  rw [e66, z_add]
  have m2 : MM u (mj_u2 f1 1714 66 (nI (tr + 1))) N B M S lc ln op ch V o ra rd sp st hts FG (nI 0) bg vc li LC ci CA (tr + 1) (nI 320) := MM_66 (S1 := fun j => j = 66) hm (mw_t (mw_m F1 (fun _ q => q) (fun _ q => absurd q (fun t => t)) (fun _ q => q)) (mw_S rfl)) (fun j q => q) z_u2s
  have h27 : (mj_u2 f1 1714 66 (nI (tr + 1))) 1714 27 = sh N := m2.2.1.2.1
  have g0 : mF tr LC CA f (mj_u2 f1 1714 66 (nI (tr + 1))) := by
    have Fa : mw al rS rR f (mj_u2 f1 1714 66 (nI (tr + 1))) := mw_t (mw_m F1 (fun _ _ => trivial) (fun _ q => absurd q (fun t => t)) (fun a q => by have q' : a = 1762 := q; unfold rR; omega)) (mw_S (by unfold rS; omega))
    have r0 : ∀ a i, a ≠ 1762 → ¬ (1728 ≤ a ∧ a ≤ 1732) → a ≠ 1714 → (mj_u2 f1 1714 66 (nI (tr + 1))) a i = f a i := fun a i h1 h2 h3 => (z_u2n h3).trans (F1.1 a i h3 h2 (fun q => h1 q))
    exact ⟨Fa, fun j hj => (z_u2n (by decide)).trans (t2 j hj), fun j _ => r0 _ _ (by decide) (by decide) (by decide), fun j _ => r0 _ _ (by decide) (by decide) (by decide), fun a a1 a2 i _ => r0 _ _ (by omega) (by omega) (by omega)⟩
  rw [h27]
  refine sco_M hM (pX_10 hx) ih m2 hV hV1 hx.2.2.2.2.2.2.1 (Nat.le_refl N) (by omega) h80 hq1 hb1 hb2 (by omega) (fun f3 m3 g3 => ?_)
  have e366 : f3 1714 66 = nI (tr + 1) := m3.2.1.2.2.2.2.2.2.2.2.2.2.2.2.2.2.2
  rw [e366, show nI (tr + 1) - nI 1 = nI tr by rw [z_sub (by omega), Nat.add_sub_cancel]]
  have m4 : MM u (mj_u2 f3 1714 66 (nI tr)) N B M S lc ln op ch V o1 ra1 rd1 sp1 st1 hts1 FG1 e1 bg vc li LC ci CA tr (nI 320) := MM_66 (S1 := fun j => j = 66) m3 (mw_S rfl) (fun j q => q) z_u2s
  have g4 : mF tr LC CA f (mj_u2 f3 1714 66 (nI tr)) := mF_t (mF_t g0 (mF_lo g3 (Nat.le_succ _) (Nat.le_refl _) (Nat.le_refl _))) (mF_w (P := no_R) (S1 := fun j => j = 66) (R1 := no_R) (mw_S rfl) (fun j q => by unfold rS; omega) (fun a q => absurd q (fun t => t)))
  have e470 : (mj_u2 f3 1714 66 (nI tr)) 1714 70 = e1 := m4.2.2.2.2.2.2.2.1
  have e470' : (mj_u2 f3 1714 66 (nI tr)) 1714 70 = e1 := e470
  refine z_br (fun q => z_bt rfl (kA (Or.inl (e470.symm.trans q)) _ m4 g4)) (fun q0 => z_br (fun q => z_bt rfl (kA (Or.inr (e470.symm.trans q)) _ m4 g4)) (fun q9 => ?_))
  rw [e470] at q0 q9
  refine ⟨bI_b _, ?_⟩
  have t3 : ∀ j, j < o_n o → (mj_u2 f3 1714 66 (nI tr)) 1762 (300 * tr + j) = om (o_c o j) := fun j hj => (z_u2n (by decide)).trans ((g3.2.1 _ (by have := hok.1; omega)).trans ((z_u2n (by decide)).trans (t1 j hj)))
  have Fb : mw no_R oS oR (mj_u2 f3 1714 66 (nI tr)) (mj_u2 (mj_u2 (mj_u2 (mj_u2 f3 1714 66 (nI tr)) 1714 70 (nI 0)) 1714 61 (nI (o_n o))) 1714 62 (bI (o_w o))) := mw_t (mw_S (by unfold oS; omega)) (mw_t (mw_S (by unfold oS; omega)) (mw_S (by unfold oS; omega)))
  have i61 : (mj_u2 (mj_u2 (mj_u2 (mj_u2 f3 1714 66 (nI tr)) 1714 70 (nI 0)) 1714 61 (nI (o_n o))) 1714 62 (bI (o_w o))) 1714 61 = nI (o_n o) := (z_u2m (by decide)).trans z_u2s
  have i62 : (mj_u2 (mj_u2 (mj_u2 (mj_u2 f3 1714 66 (nI tr)) 1714 70 (nI 0)) 1714 61 (nI (o_n o))) 1714 62 (bI (o_w o))) 1714 62 = bI (o_w o) := z_u2s
  have i70 : (mj_u2 (mj_u2 (mj_u2 (mj_u2 f3 1714 66 (nI tr)) 1714 70 (nI 0)) 1714 61 (nI (o_n o))) 1714 62 (bI (o_w o))) 1714 70 = nI 0 := (z_u2m (by decide)).trans ((z_u2m (by decide)).trans z_u2s)
  have i60 : (mj_u2 (mj_u2 (mj_u2 (mj_u2 f3 1714 66 (nI tr)) 1714 70 (nI 0)) 1714 61 (nI (o_n o))) 1714 62 (bI (o_w o))) 1760 0 = (mj_u2 f3 1714 66 (nI tr)) 1760 0 := (z_u2n (by decide)).trans ((z_u2n (by decide)).trans (z_u2n (by decide)))
  have iT : ∀ j, j < o_n o → (mj_u2 (mj_u2 (mj_u2 (mj_u2 f3 1714 66 (nI tr)) 1714 70 (nI 0)) 1714 61 (nI (o_n o))) 1714 62 (bI (o_w o))) 1762 (300 * tr + j) = om (o_c o j) := fun j hj => (z_u2n (by decide)).trans ((z_u2n (by decide)).trans ((z_u2n (by decide)).trans (t3 j hj)))
  generalize mj_u2 (mj_u2 (mj_u2 (mj_u2 f3 1714 66 (nI tr)) 1714 70 (nI 0)) 1714 61 (nI (o_n o))) 1714 62 (bI (o_w o)) = f5 at Fb i61 i62 i70 i60 iT ⊢
  refine p_try126 (m := o_n o) (j := 0) hM hok htr (by omega) i61 i62 iT (fun f6 F6 o6 => z_bf (by decide) ?_) (Nat.zero_add _) mw_r (fun i hi => absurd hi (by omega)) (fun i hi => ?_)
  · have F7 : mw no_R oS oR (mj_u2 f3 1714 66 (nI tr)) f6 := mw_t Fb (mw_m F6 (fun _ q => q) (fun _ q => absurd q (fun t => t)) (fun _ q => q))
    obtain ⟨m6, g6⟩ := MM_o m4 (pX_10 hx) F7 (fun i q => q.elim) o6 ((F6.2.1 70 (fun q => q)).trans i70)
    exact kC q0 q9 f6 m6 (mF_t g4 g6)
  · have hi0 : i = 0 := by omega
    subst hi0
    rw [hok.2.1]
    have hz := (m4.2.2.2.2.2.2.2.2.1).2.2.2.2 0 (Nat.zero_le _)
    rw [(m4.2.2.2.2.2.2.2.2.1).1.2.1] at hz
    exact i60.trans hz
/-- a try -/
theorem md_43 (hM : mm_S Gm) (hu : uP u) (hT : T < 10) (hx : pX u N B M S lc ln op ch) (hV : pV u N V) (hA : u_A u r) (ht : tb_t k (u_A u) (u_G u) (nI T) b1 r (u_w u T) p m L1) (hc : u_w u T (p + 1) = 43) (hst : st ≤ u_bu u) (ih : ∀ N' B', pX u N' B' M S lc ln op ch → ihB u Gm T k b1 L1 N' B' M S lc ln op ch) : mdJ u Gm T 43 N B M S lc ln op ch V o ra rd sp st hts FG r p m := by
  have hW := (hu.2.2.2 T hT).1
  have hn := hW.1
  have hop := hx.2.1
  have hnd := tg_nd hA ht hc
  have hch : ∀ y, y ∈ ch → en_x y ≤ N := fun y hy => (hx.2.2.2.2.2.2.2 y hy).2.2.2.1
  obtain ⟨t1, t2, t3, t4, t5, t6, t7, x, h8, h9, h10, h11⟩ := ht
  have hxp : x = p + 2 := by
    rcases h9 with ⟨a, -⟩ | ⟨a, -⟩ | ⟨a, -⟩ | ⟨a, -⟩ | ⟨a, a2, -⟩ | ⟨a, -⟩ | ⟨a, -⟩ | ⟨a, -⟩
    any_goals omega
  obtain ⟨q1, x5, x6, La, y1, y2, y3, y4, y5, y43, y6, y7⟩ := tg_two hM hW t5 h8 h9 h10 h11 hc (by omega)
  have y43' := y43 rfl
  have hx1 := pX_s (x := N) hx (Nat.le_refl N)
  obtain ⟨e1, V1, o1, ra1, rd1, sp1, st1, hts1, FG1, j1, j2, j3⟩ := bd_0 (ra := ra) (rd := rd) (sp := sp) (hts := hts) (FG := FG) (o := o) y1 (pV_s hV) hst (fun hr => ih _ _ hx1 _ _ _ _ y1 (by omega) y2 hr V o ra rd sp st hts FG (pV_s hV) hst)
  have hV1 : ∀ s l, s < N → V1 s l = V s l := fun s l hs => j1.2.2.1 s l (by omega)
  have hst1 : st ≤ st1 := j1.2.2.2.1
  have hst2 : st1 ≤ u_bu u := j1.2.2.2.2
  by_cases h0 : e1 = nI 0 ∨ e1 = Int32.ofInt (-9)
  · refine ⟨e1, V, o1, ra1, rd1, sp1, st1, hts1, FG1, ⟨j1.1, hV, fun _ _ _ => rfl, hst1, hst2⟩, ?_, ?_⟩
    · intro fr b cn top la ρ G hC hnx k1 k2 k3 Q hQ h80 hb1 hb2 d dm K t hd hdm htt c1 c2
      refine ⟨fun q => absurd q (by decide), fun q => absurd q (by decide), fun q => absurd q (by decide), fun _ => ?_, fun q => absurd q (by decide), fun q => absurd q (by decide), fun q => absurd q (by decide), fun q => absurd q (by decide), fun q => absurd q (by decide), fun q => absurd q (by decide)⟩
      refine try_C (q := m) (TT := t + 100 * (2000 - st) + 100 + (m - p)) hA t2 rfl hC hnx hV hch j2 hV1 (by omega) hop (by omega) (by omega) (by omega) hd (by omega) (by omega) (by omega) (fun he ρ' G' t' hN => c1 he ρ' G' cn t' hN) (fun he o2 ρ' G' cn' top' t' hX => c2 (by rw [he]; decide) o2 ρ' G' cn' top' t' hX) (fun n0 n9 => absurd h0 (by
        rintro (q | q)
        · exact n0 q
        · exact n9 q))
    · intro f bg vc li LC ci CA tr hm Q hQ hQn hb1 hb2 D KK hD hk
      obtain ⟨D, rfl⟩ : ∃ x, D = x + 20 := ⟨D - 20, by omega⟩
      refine ⟨fun _ => y6 f (D + 19) KK (MM_T hm hT) (by omega) ?_, fun q => absurd q (by decide), fun q => absurd q (by decide)⟩
      refine try_M hM hx hV hm j3 hV1 (by omega) (by omega) (by omega) (by omega) (by omega) (fun _ f' a1 a2 => hk f' vc _ a1 a2 (by omega)) (fun n0 n9 => absurd h0 (by
        rintro (q | q)
        · exact n0 q
        · exact n9 q))
  · have n0 : ¬ e1 = nI 0 := fun q => h0 (Or.inl q)
    have n9 : ¬ e1 = Int32.ofInt (-9) := fun q => h0 (Or.inr q)
    obtain ⟨p', q', e, V', o', ra', rd', sp', st', hts', FG', i1, i2, i3, z1, z2, z3, z4⟩ := y7 N B M S lc ln op ch (ih N B hx) V o ra1 rd1 sp1 st1 hts1 FG1 hV hst2
    refine ⟨e, V', o', ra', rd', sp', st', hts', FG', ⟨oJ_s j1.1.2.1 i1.1, i1.2.1, i1.2.2.1, Nat.le_trans hst1 i1.2.2.2.1, i1.2.2.2.2⟩, ?_, ?_⟩
    · intro fr b cn top la ρ G hC hnx k1 k2 k3 Q hQ h80 hb1 hb2 d dm K t hd hdm htt c1 c2
      refine ⟨fun q => absurd q (by decide), fun q => absurd q (by decide), fun q => absurd q (by decide), fun _ => ?_, fun q => absurd q (by decide), fun q => absurd q (by decide), fun q => absurd q (by decide), fun q => absurd q (by decide), fun q => absurd q (by decide), fun q => absurd q (by decide)⟩
      refine try_C (q := m) (TT := t + 100 * (2000 - st) + 100 + (m - p)) hA t2 rfl hC hnx hV hch j2 hV1 (by omega) hop (by omega) (by omega) (by omega) hd (by omega) (by omega) (by omega) (fun q => absurd q n0) (fun q => absurd q n9) (fun _ _ ρ2 G2 t2 a1 a2 a3 a4 a5 a6 => ?_)
      obtain ⟨d, rfl⟩ : ∃ y, d = y + 1 := ⟨d - 1, by omega⟩
      refine i2 fr b cn top la ρ2 G2 a1 _ m (t + 100 * (2000 - st) + 100 + (m - p)) a5 (by omega) (by omega) hop (by omega) (by omega) (d + 1) d K t2 _ (fun G' h => h) (by omega) (by omega) (by omega) (fun he ρ' G' cn' t' hN => ?_) (fun he o2 ρ' G' cn' top' t' hX => ?_)
      · exact c1 he ρ' G' cn' t' (rN_l a2 a3 a4 (Nat.le_refl _) hN)
      · exact c2 he o2 ρ' G' cn' top' t' (rX_l o_le_r a2 a3 a4 (Nat.le_refl _) hX)
    · intro f bg vc li LC ci CA tr hm Q hQ hQn hb1 hb2 D KK hD hk
      obtain ⟨D, rfl⟩ : ∃ x, D = x + 20 := ⟨D - 20, by omega⟩
      refine ⟨fun _ => y6 f (D + 19) KK (MM_T hm hT) (by omega) ?_, fun q => absurd q (by decide), fun q => absurd q (by decide)⟩
      refine try_M hM hx hV hm j3 hV1 (by omega) (by omega) (by omega) (by omega) (by omega) (fun q => absurd q h0) (fun _ _ f2 a1 a2 => ?_)
      exact i3 f2 bg vc li LC ci CA tr a1 (by omega) (by omega) (D + 19) KK (by omega) (fun f3 vc3 g1 g2 g3 => hk f3 vc3 _ g1 (mF_t a2 g2) (by omega))
end ZM
