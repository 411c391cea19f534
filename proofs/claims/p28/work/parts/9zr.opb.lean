/-! BLOCKS opened, by both sides -/
/-- what of a template's tag lies in its tree -/
theorem tb_sub {A : Nat → Prop} {G : mj_G} {hm : Int32} {w : Nat → Nat} : ∀ {k b r p q L}, tb_B k A G hm b r w p q L → ∀ x, x ∈ L → ∃ k' b' m L1, A x.2 ∧ tb_t k' A G hm b' x.2 w x.1 m L1 ∧ (∀ y, y ∈ L1 → y ∈ L) ∧ m ≤ q
  | 0, _, _, _, _, _, h => h.elim
  | k + 1, b, r, p, q, L, h => by
    rcases h with ⟨-, -, rfl⟩ | ⟨-, -, -, -, -, -, -, -, -, -, h⟩ | ⟨h1, h2, h3, h4, h5, h6, h7, h8, e, m, L1, L2, he, hH, h125, rfl, h13, h14⟩
    · exact fun x hx => nomatch hx
    · exact tb_sub h
    · have hmq := tb_le h13
      have ht : tb_t k A G hm b r w p m L1 := ⟨h2, h3, h4, h5, h6, h7, h8, e, he, hH, h125, h14⟩
      intro x hx
      rcases List.mem_cons.mp hx with rfl | hx
      · exact ⟨k, b, m, L1, h1, ht, fun y hy => List.mem_cons_of_mem _ (List.mem_append.mpr (Or.inl hy)), hmq⟩
      · rcases List.mem_append.mp hx with hx | hx
        · have go : ∀ {b0 r0 p0 q0 L0}, tb_B k A G hm b0 r0 w p0 q0 L0 → x ∈ L0 → (∀ y, y ∈ L0 → y ∈ L1) → q0 ≤ m → ∃ k' b' m' L1', A x.2 ∧ tb_t k' A G hm b' x.2 w x.1 m' L1' ∧ (∀ y, y ∈ L1' → y ∈ (p, r) :: (L1 ++ L2)) ∧ m' ≤ q := fun hb hx0 hs hq => by
            obtain ⟨k', b', m', L1', a1, a2, a3, a4⟩ := tb_sub hb x hx0
            exact ⟨k', b', m', L1', a1, a2, fun y hy => List.mem_cons_of_mem _ (List.mem_append.mpr (Or.inl (hs y (a3 y hy)))), by omega⟩
          rcases h14 with ⟨-, -, rfl, -⟩ | ⟨-, -, -, q1, a4, -, -, -, rfl⟩ | ⟨-, q1, q2, La, Lb, a2, -, -, -, a6, -, -, -, rfl, rfl⟩
          · exact nomatch hx
          · exact go a4 hx (fun y hy => hy) (by omega)
          · have := tb_le a6
            rcases List.mem_append.mp hx with hx | hx
            · exact go a2 hx (fun y hy => List.mem_append.mpr (Or.inl hy)) (by omega)
            · exact go a6 hx (fun y hy => List.mem_append.mpr (Or.inr hy)) (by omega)
        · obtain ⟨k', b', m', L1', a1, a2, a3, a4⟩ := tb_sub h13 x hx
          exact ⟨k', b', m', L1', a1, a2, fun y hy => List.mem_cons_of_mem _ (List.mem_append.mpr (Or.inr (a3 y hy))), a4⟩
theorem l_fb_s {q : Nat → Option (Nat × Nat)} {c : Nat → Nat} : ∀ {m k : Nat}, l_fb q c m k < k + m → ∃ x, q (c (l_fb q c m k)) = some x
  | 0, k, h => absurd h (by unfold l_fb; omega)
  | m + 1, k, h => by
    unfold l_fb at h ⊢
    by_cases hq : (q (c k)).isSome = true
    · rw [if_pos hq]
      exact Option.isSome_iff_exists.mp hq
    · rw [if_neg hq] at h ⊢
      exact l_fb_s (by omega)
/-- the bodies of templates, at a depth -/
def ihO (u : wo) (Gm : mj_G) (op : Nat) : Prop := ∀ (T : Nat), T < 10 → ∀ (k : Nat) (b : Int32) (r p q : Nat) (L : List (Nat × Nat)), tb_B k (u_A u) (u_G u) (nI T) b r (u_w u T) p q L → (∀ y, y ∈ L → y ∈ u_L u T) → q ≤ u_n u T → r ≠ 0 → ∀ (N : Nat) (B : Nat → Nat) (M : Nat) (S : Nat → Nat) (lc : Nat) (ln : Nat → Nat) (ch : List en) (V : Nat → Nat → Option rv) (o : ost) (ra rd : Nat → Int32) (sp : Nat → Bool) (st hts : Nat) (FG : Nat → kfr), pX u N B M S lc ln op ch → pV u N V → st ≤ u_bu u → bdJ u Gm T N B M S lc ln op ch V o ra rd sp st hts FG r p q
/-- a block opened by the class -/
def obC (u : wo) (r nd0 : Nat) (N : Nat) (B : Nat → Nat) (M : Nat) (S : Nat → Nat) (lc : Nat) (ln : Nat → Nat) (op : Nat) (ch : List en) (V : Nat → Nat → Option rv) (o : ost) (ra rd : Nat → Int32) (sp : Nat → Bool) (st hts : Nat) (FG : Nat → kfr) (e : Int32) (V' : Nat → Nat → Option rv) (o' : ost) (ra' rd' : Nat → Int32) (sp' : Nat → Bool) (st' hts' : Nat) (FG' : Nat → kfr) : Prop := ∀ (fr b cn : Nat → Nat) (top la : Nat) (ρ : Nat → Nat) (G : mj_G), CC u ρ G N B M S lc ln op ch V o ra rd sp st hts FG fr b cn top la → ∀ nx q TT, mj_r G (707 + 4 * top) 2 = nx → 7 * top ≤ 84 * op + 77 → 5 * (b (N - 1) + cn (N - 1)) ≤ 95 * op + 80 → 5 * (b (N - 1) + cn (N - 1)) ≤ 95 * op + q → ∀ d dm K t, 299 ≤ d → 10 ≤ dm → t + 90 + 100 * (2000 - st) ≤ TT → TT ≤ 900000 → (e = nI 0 → ∀ ρ' G' t', rN u ρ G N B M S lc ln op ch V' o' ra' rd' sp' st' hts' FG' fr b cn top la nx q TT ρ' G' cn t' → lp (d + 1) K t' G') → (¬ e = nI 0 → ∀ o1 ρ' G' cn' top' t', rX u ρ G o e N B M S lc ln op ch V' o1 ra' rd' sp' st' hts' FG' fr b cn top la TT ρ' G' cn' top' t' → lf (d + 1) K t' e G') → Rn_openBody dm r nd0 G (kk d K t)
/-- and by the model -/
def obM (u : wo) (Gm : mj_G) (g k0 : Nat) (N : Nat) (B : Nat → Nat) (M : Nat) (S : Nat → Nat) (lc : Nat) (ln : Nat → Nat) (op : Nat) (ch : List en) (V : Nat → Nat → Option rv) (o : ost) (ra rd : Nat → Int32) (sp : Nat → Bool) (st hts : Nat) (FG : Nat → kfr) (e : Int32) (V' : Nat → Nat → Option rv) (o' : ost) (ra' rd' : Nat → Int32) (sp' : Nat → Bool) (st' hts' : Nat) (FG' : Nat → kfr) : Prop := ∀ (f : mm_F) (bg : Nat → Nat) (vc li LC : Nat) (ci : Int32) (CA tr : Nat), MM u f N B M S lc ln op ch V o ra rd sp st hts FG (nI 0) bg vc li LC ci CA tr (nI 320) → (9 * tr ≤ 72 * op + 77 ∧ 7 * N ≤ 84 * op + 84) → 5 * vc ≤ 95 * op + 80 → ∀ D (KK : mm_F → Prop), 90 * (12 - op) + 316 ≤ D → (∀ f' fe, MM u f' N B M S lc ln op ch V' o' ra' rd' sp' st' hts' FG' e bg vc li LC ci CA tr fe → mF tr LC CA f f' → KK f') → m_rendersBlock Gm D (nI k0) (nI (48 + g)) f KK
section ZR
variable {u : wo} {Gm : mj_G} {f f' : mm_F} {ρ ρ' ρ0 ρ1 : Nat → Nat} {G G0 G1 G2 G' : mj_G} {cur r nx p q m d t T l s k c x j q1 : Nat} {e : Int32} {K : Int32 → mj_G → Prop} {v : rv} {b1 : Int32} {L1 : List (Nat × Nat)} {N : Nat} {B : Nat → Nat} {M : Nat} {S : Nat → Nat} {lc : Nat} {ln : Nat → Nat} {op : Nat} {ch : List en} {V : Nat → Nat → Option rv} {o : ost} {ra rd : Nat → Int32} {sp : Nat → Bool} {st hts : Nat} {FG : Nat → kfr} {V' : Nat → Nat → Option rv} {o' : ost} {ra' rd' : Nat → Int32} {sp' : Nat → Bool} {st' hts' : Nat} {FG' : Nat → kfr} {fr b cn : Nat → Nat} {top la : Nat} {bg : Nat → Nat} {vc li LC : Nat} {ci : Int32} {CA tr : Nat}
theorem tQ_w (hM : mm_S Gm) (hu : uP u) (hw : wM u f) {g kd : Nat} (hg : g < 10) (hd : 2 ≤ d) (hk : kd = 35 ∨ kd = 36) : tQ Gm f d kd (48 + g) (fun t => tl_fx (u_w u t) kd (48 + g) (u_L u t)) := fun t ht K h1 h2 => by
  obtain ⟨hT, -, -⟩ := hw.1 t ht
  obtain ⟨hW, -, s, k, hP, hB⟩ := hu.2.2.2 t ht
  refine c_firstOf hM hT hd (by omega) (by omega) hP hB (fun x hx => h2 x hx ?_) h1
  obtain ⟨i1, i2, -⟩ := tl_fx_in hx
  have := tx_in hW (k := x.1 + 1) (by omega)
  have := hW.1
  omega
/-- one more is open -/
theorem MM_43 {op' : Nat} {S1 : Nat → Prop} {fe : Int32} {e' : Int32} (h : MM u f N B M S lc ln op ch V o ra rd sp st hts FG e bg vc li LC ci CA tr fe) (F : mw no_R S1 no_R f f') (hS : ∀ j, S1 j → j = 43 ∨ j = 70) (h43 : f' 1714 43 = nI op') (h70 : f' 1714 70 = e') (h1 : LC ≤ op' + 1) (h2 : op' ≤ 12) (h3 : CA ≤ op') : MM u f' N B M S lc ln op' ch V o ra rd sp st hts FG e' bg vc li LC ci CA tr fe ∧ mF tr LC CA f f' := by
  obtain ⟨w1, ⟨s1, s2, s3, s4, s5, s6, s7, s8, s9, s9', s11, s12, s13, s14, s15, s16⟩, w3, w4, w5, w6, w7, w8, w9, w0⟩ := h
  have nr : ∀ a, no_R a → False := fun a q => q
  have s : ∀ j, ¬ (j = 43 ∨ j = 70) → f' 1714 j = f 1714 j := fun j hj => F.2.1 j (fun q => hj (hS j q))
  have r : ∀ a i, 1737 ≤ a → a ≤ 1744 → f' a i = f a i := fun a i h1 h2 => F.1 a i (by omega) (by omega) (nr a)
  exact ⟨⟨wM_f w1 F (fun q => by have := hS _ q; omega) (fun a q => absurd q (nr a)), ⟨s1, (s 27 (by decide)).trans s2, (s 21 (by decide)).trans s3, (s 34 (by decide)).trans s4, s5, h1, h2, (s 33 (by decide)).trans s8, ⟨(r _ _ (by decide) (by decide)).trans s9.1, fun k hk => ⟨(r _ _ (by decide) (by decide)).trans (s9.2 k hk).1, (s9.2 k hk).2⟩⟩, s9', h43, (s 41 (by decide)).trans s12, h3, (s 42 (by decide)).trans s14, chM_r r s15, (s 66 (by decide)).trans s16⟩, dM_f w3 F (fun i q => absurd q (nr i)) (fun j q => by have := hS j q; omega) (fun a q => absurd q (nr a)), (s 68 (by decide)).trans w4, w5, w6, (s 69 (by decide)).trans w7, h70, oM_f w9 F ⟨fun q => by have := hS _ q; omega, fun q => by have := hS _ q; omega⟩ ⟨nr _, nr _⟩, fgM_f w0 F (fun a q => absurd q (nr a))⟩, mF_w F (fun j q => by have := hS j q; unfold rS; omega) (fun a q => absurd q (nr a))⟩
theorem pX_o (h : pX u N B M S lc ln op ch) (ho : op < 12) : pX u N B M S lc ln (op + 1) ch := by
  obtain ⟨h1, h2, h3, h4, h5, h6, h7, h8⟩ := h
  exact ⟨h1, by omega, h3, h4, h5, by omega, h7, h8⟩
/-- something that fails at once, by the class -/
theorem kk_x {e' : Int32} {TT : Nat} (hC : CC u ρ G N B M S lc ln op ch V o ra rd sp st hts FG fr b cn top la) (he' : ¬ e' = nI 0) (hT : t + 100 * (2000 - st) ≤ TT) (c2 : ¬ e' = nI 0 → ∀ o1 ρ' G' cn' top' t', rX u ρ G o e' N B M S lc ln op ch V o1 ra rd sp st hts FG fr b cn top la TT ρ' G' cn' top' t' → lf (d + 1) K t' e' G') : kk d K t e' G := ⟨fun q => absurd q he', fun _ => c2 he' o ρ G cn top t (rX_of hC o_le_r ro_r fw_r FF_r (fun _ _ => rfl) hT)⟩
/-- a body opened, with the line and the calls of its place -/
theorem op_C {r8 p8 q8 q TT dm : Nat} (hC : CC u ρ G N B M S lc ln op ch V o ra rd sp st hts FG fr b cn top la) (hnx : mj_r G (707 + 4 * top) 2 = nx) (hk6 : mj_k G r = 6) (hkd : ¬ mj_i G r 0 = nI 42 ∧ ¬ mj_i G r 0 = nI 107 ∧ ¬ mj_i G r 0 = nI 43) (hV : pV u N V) (hch : ∀ y, y ∈ ch → en_x y ≤ N) (hop : op ≤ 12) (htop : 7 * top ≤ 84 * op + 77) (hb2 : 5 * (b (N - 1) + cn (N - 1)) ≤ 95 * op + 80) (hbq : 5 * (b (N - 1) + cn (N - 1)) ≤ 95 * op + q) (hd : 299 ≤ d) (hT : t + 90 + 100 * (2000 - st) ≤ TT) (hT9 : TT ≤ 900000) (h80 : q8 ≤ 80) (hV' : ∀ s l, s < N → V' s l = V s l)
    (h : op < 12 → sgC u (N + 1) (e_bh B N N) M S lc ln (op + 1) ch V o ra rd sp st hts FG r8 p8 0 q8 e V' o' ra' rd' sp' st' hts' FG')
    (h12 : op = 12 → kk d K t (Int32.ofInt (-8)) G)
    (c1 : op < 12 → e = nI 0 → ∀ ρ' G' t', rN u ρ G N B M S lc ln op ch V o' ra' rd' sp' st' hts' FG' fr b cn top la nx q TT ρ' G' cn t' → lp (d + 1) K t' G') (c2 : op < 12 → ¬ e = nI 0 → ∀ o1 ρ' G' cn' top' t', rX u ρ G o e N B M S lc ln op ch V o1 ra' rd' sp' st' hts' FG' fr b cn top la TT ρ' G' cn' top' t' → lf (d + 1) K t' e G') : St_open (dm + 2) r r8 G (fun v3 G2 => mm_br (v3 = 0) (kk d K t (Int32.ofInt (-8)) G2) (kk d K t (nI 0) G2)) := by
  have ht : top < 199 := by omega
  have hs := hC.2.2.1
  have hG := hh_n hC.1
  refine c_open hC.1 hC.2.2.2.2.1 ht hs.2.2.2.2.2.2.2.2.1 hop hk6 (fun ho G1 a1 a2 a3 => z_bf (by omega) ?_) (fun ho => z_bt rfl (h12 ho))
  obtain ⟨p1, p2, p3, p4, p5, p6, p7, p8', p9, p10, p11, p12, p13, p14⟩ := a3
  obtain ⟨C1, F1, FF1⟩ := CC_ps (cur := fr (N - 1)) (op' := op + 1) hC ht hV hch a1 ro_r (fw_m a2 (fun o q => by unfold pW at q; unfold qW; omega)) p1 p2 p3 p5 p6 p7 p8' p9
  have hs' : ∀ s, s < N → e_bh B N N s = B s ∧ e_bh fr N (top + 1) s = fr s ∧ e_bh b N (b (N - 1) + cn (N - 1)) s = b s ∧ e_bh cn N 0 s = cn s := fun s hsl => ⟨if_neg (by omega), if_neg (by omega), if_neg (by omega), if_neg (by omega)⟩
  have hcN : e_bh cn N 0 N = 0 := if_pos rfl
  have nx1 : mj_r G1 (707 + 4 * top) 2 = nx := by
    rw [((a2.2.2.2 (707 + 4 * top) (by omega)).2.2 (by rw [ow_s (by omega)]; unfold pW; omega)).1 2]
    exact hnx
  refine ⟨fun _ => ?_, fun q => absurd rfl q⟩
  exact sc_C hC nx1 hV' C1 ro_r F1 FF1 p12 p4 hkd hs' (if_pos rfl) (if_pos rfl) (by rw [hcN]; exact Nat.zero_le _) (Nat.le_refl M) (fun _ _ => rfl) (h ho) o_le_r h80 (by omega) (by omega) (by rw [hcN]; omega) hbq hd (by omega) hT9 (c1 ho) (c2 ho)
/-- the body of a tag that has one, and cannot turn -/
theorem tg_one {A : Nat → Prop} {G : mj_G} {hm : Int32} {w : Nat → Nat} {n : Nat} (ht : tb_t k A G hm b1 r w p m L1) (hW : tx_W w n) (hc : w (p + 1) = 35 ∨ w (p + 1) = 107 ∨ w (p + 1) = 36 ∨ w (p + 1) = 38) : ∃ e q1 b', tb_h A G r b1 w p e ∧ w p = 123 ∧ w e = 125 ∧ p + 2 ≤ e ∧ tb_B k A G hm b' (mj_r G r 8) w (e + 1) q1 L1 ∧ w q1 = 123 ∧ w (q1 + 1) = 59 ∧ m = q1 + 3 ∧ e + 1 ≤ q1 ∧ q1 + 2 < n := by
  obtain ⟨t1, t2, t3, t4, t5, t6, t7, e, h8, h9, h10, h11⟩ := ht
  rcases h11 with ⟨g, -⟩ | ⟨-, g2, g3, q1, g4, g5, g6, g7, g8⟩ | ⟨g, -⟩
  · unfold tx_B at g
    omega
  · exact ⟨e, q1, _, h9, t5, h10, h8, g4, g5, g6, g8, tb_le g4, tx_in hW (by omega)⟩
  · omega
/-- a block of the line opened -/
theorem ob_all {g k0 : Nat} (hM : mm_S Gm) (hu : uP u) (hx : pX u N B M S lc ln op ch) (hV : pV u N V) (hst : st ≤ u_bu u) (hA : u_A u r) (hk6 : mj_k (u_G u) r = 6) (hkd : ¬ mj_i (u_G u) r 0 = nI 42 ∧ ¬ mj_i (u_G u) r 0 = nI 107 ∧ ¬ mj_i (u_G u) r 0 = nI 43) (hg : g < 10) (hk0 : k0 ≤ lc) (ih : op < 12 → ihO u Gm (op + 1)) : ∃ (e : Int32) (V' : Nat → Nat → Option rv) (o' : ost) (ra' rd' : Nat → Int32) (sp' : Nat → Bool) (st' hts' : Nat) (FG' : Nat → kfr), V' = V ∧ pJ u N V o st e V' o' st' M sp sp' ∧ obC u r (l_nd (u_qb u g) ln lc k0) N B M S lc ln op ch V o ra rd sp st hts FG e V' o' ra' rd' sp' st' hts' FG' ∧ obM u Gm g k0 N B M S lc ln op ch V o ra rd sp st hts FG e V' o' ra' rd' sp' st' hts' FG' := by
  have hop := hx.2.1
  have hch : ∀ y, y ∈ ch → en_x y ≤ N := fun y hy => (hx.2.2.2.2.2.2.2 y hy).2.2.2.1
  have hlc := hx.2.2.1
  have hle := l_fb_le (q := u_qb u g) (c := ln) (m := lc - k0) (k := k0)
  have hnz : ∀ t, t < 10 → ∀ y, u_qb u g t = some y → y.2 ≠ 0 := fun t ht y hy => by
    obtain ⟨-, -, s, k, -, hB⟩ := hu.2.2.2 t ht
    exact tb_nz hB y (tl_fx_in hy).1
  -- the model up to the block
  have mod : ∀ (f : mm_F) (bg : Nat → Nat) (vc li LC : Nat) (ci : Int32) (CA tr : Nat), MM u f N B M S lc ln op ch V o ra rd sp st hts FG (nI 0) bg vc li LC ci CA tr (nI 320) → ∀ D (KK : mm_F → Prop), 3 ≤ D → m_rendersBlock_46 Gm (D + 1) (nI (48 + g)) (nI (l_fb (u_qb u g) ln (lc - k0) k0)) f KK → m_rendersBlock Gm (D + 1) (nI k0) (nI (48 + g)) f KK := fun f bg vc li LC ci CA tr hm D KK hD hK => by
    have hs := hm.2.1
    have hli : li < 14 := by
      have := hs.2.2.2.2.1
      have := hs.2.2.2.2.2.1
      have := hs.2.2.2.2.2.2.1
      omega
    refine w_m_rendersBlock hM (p_rb2 hM hs.2.2.2.1 (by omega) hlc hs.2.2.2.2.2.2.2.2.1 (tQ_w hM hu hm.1 hg (by omega) (Or.inl rfl)) (by omega) hK)
  by_cases hno : l_fb (u_qb u g) ln (lc - k0) k0 = lc
  · -- there is none
    refine ⟨Int32.ofInt (-7), V, o, ra, rd, sp, st, hts, FG, rfl, pJ_r hV hst, ?_, ?_⟩
    · intro fr b cn top la ρ G hC nx q TT hnx htop hb2 hbq d dm K t hd hdm hT hT9 c1 c2
      obtain ⟨dm, rfl⟩ : ∃ y, dm = y + 1 := ⟨dm - 1, by omega⟩
      have h0 : l_nd (u_qb u g) ln lc k0 = 0 := if_neg (by omega)
      rw [h0]
      exact w_Rn_openBody hC.1.1 (z_bt rfl (kk_x hC (by decide) (by omega) c2))
    · intro f bg vc li LC ci CA tr hm hb1 hb2 D KK hD hk
      obtain ⟨D, rfl⟩ : ∃ y, D = y + 1 := ⟨D - 1, by omega⟩
      have hs := hm.2.1
      have hli : li < 14 := by
        have := hs.2.2.2.2.1
        have := hs.2.2.2.2.2.1
        have := hs.2.2.2.2.2.2.1
        omega
      refine mod f bg vc li LC ci CA tr hm D KK (by omega) (w_m_rendersBlock_46 hM ?_)
      rw [hs.2.2.2.1]
      refine z_ixi (by omega) (by omega) (z_bt ?_ ?_)
      · rw [hs.2.2.2.2.2.2.2.2.1.1, hno]
      · obtain ⟨b1, b2⟩ := MM_e (e' := Int32.ofInt (-7)) hm (pX_10 hx) (mw_S rfl) z_u2s (by decide)
        exact hk _ _ b1 b2
  · have hlt : l_fb (u_qb u g) ln (lc - k0) k0 < lc := by omega
    obtain ⟨y, hy⟩ := l_fb_s (q := u_qb u g) (c := ln) (m := lc - k0) (k := k0) (by omega)
    have hT10 := hx.2.2.2.1 _ hlt
    have hnd0 : l_nd (u_qb u g) ln lc k0 = y.2 := by
      unfold l_nd
      rw [if_pos hlt, hy]
      rfl
    generalize hTT' : ln (l_fb (u_qb u g) ln (lc - k0) k0) = T' at hy hT10
    have hy0 := hnz T' hT10 y hy
    obtain ⟨i1, i2, i3⟩ := tl_fx_in hy
    obtain ⟨hW, -, s0, kk0, hP0, hB0⟩ := hu.2.2.2 T' hT10
    obtain ⟨k', b', m', L1', z1, z2, z3, z4⟩ := tb_sub hB0 y i1
    obtain ⟨x, q8, b8, w1, w2, w3, w4, w5, w6, w7, w8, w9, w10⟩ := tg_one z2 hW (Or.inl i2)
    have hn := hW.1
    have hy6 := z2.2.1
    by_cases ho : op = 12
    · -- too much is open
      refine ⟨Int32.ofInt (-8), V, o, ra, rd, sp, st, hts, FG, rfl, pJ_r hV hst, ?_, ?_⟩
      · intro fr b cn top la ρ G hC nx q TT hnx htop hb2 hbq d dm K t hd hdm hT hT9 c1 c2
        obtain ⟨dm, rfl⟩ : ∃ y, dm = y + 3 := ⟨dm - 3, by omega⟩
        obtain ⟨A1, A2, A3⟩ := wC_A hC.2.1 hA
        obtain ⟨B1, B2, B3⟩ := wC_A hC.2.1 z1
        rw [hnd0]
        refine w_Rn_openBody hC.1.1 (z_bf hy0 ⟨B1.trans hy6, ?_⟩)
        refine c_open hC.1 hC.2.2.2.2.1 (by omega) hC.2.2.1.2.2.2.2.2.2.2.2.1 hop (A1.trans hk6) (fun q => absurd q (by omega)) (fun _ => z_bt rfl (kk_x hC (by decide) (by omega) c2))
      · intro f bg vc li LC ci CA tr hm hb1 hb2 D KK hD hk
        obtain ⟨D, rfl⟩ : ∃ y, D = y + 1 := ⟨D - 1, by omega⟩
        have hs := hm.2.1
        have hli : li < 14 := by
          have := hs.2.2.2.2.1
          have := hs.2.2.2.2.2.1
          have := hs.2.2.2.2.2.2.1
          omega
        refine mod f bg vc li LC ci CA tr hm D KK (by omega) (w_m_rendersBlock_46 hM ?_)
        rw [hs.2.2.2.1]
        refine z_ixi (by omega) (by omega) (z_bf ?_ ?_)
        · rw [hs.2.2.2.2.2.2.2.2.1.1, z_eq (by omega) (by omega)]
          exact hno
        · refine p_opens hM hm.2.2.2.2.2.2.2.1 hs.2.2.2.2.2.2.2.2.2.2.1 hop (fun q => absurd q (by omega)) (fun _ f1 F1 e1 e2 => z_bf (by decide) ?_)
          obtain ⟨b1, b2⟩ := MM_43 hm F1 (fun j q => q) e1 e2 hs.2.2.2.2.2.1 hop hs.2.2.2.2.2.2.2.2.2.2.2.2.1
          exact hk _ _ b1 b2
    · have ho12 : op < 12 := by omega
      have hx1 := pX_s (x := N) (pX_o hx ho12) (Nat.le_refl N)
      obtain ⟨e, V', o', ra', rd', sp', st', hts', FG', j1, j2, j3⟩ := bd_0 (o := o) (ra := ra) (rd := rd) (sp := sp) (hts := hts) (FG := FG) w5 (pV_s hV) hst (fun hr => ih ho12 T' hT10 _ _ _ _ _ _ w5 (fun y2 hy2 => z3 y2 hy2) (by omega) hr _ _ _ _ _ _ _ V o ra rd sp st hts FG hx1 (pV_s hV) hst)
      have hVV : ∀ s l, s < N → V' s l = V s l := fun s l hsl => j1.2.2.1 s l (by omega)
      refine ⟨e, V, o', ra', rd', sp', st', hts', FG', rfl, ⟨j1.1, hV, fun _ _ _ => rfl, j1.2.2.2.1, j1.2.2.2.2⟩, ?_, ?_⟩
      · intro fr b cn top la ρ G hC nx q TT hnx htop hb2 hbq d dm K t hd hdm hT hT9 c1 c2
        obtain ⟨dm, rfl⟩ : ∃ y, dm = y + 3 := ⟨dm - 3, by omega⟩
        obtain ⟨A1, A2, A3⟩ := wC_A hC.2.1 hA
        obtain ⟨B1, B2, B3⟩ := wC_A hC.2.1 z1
        rw [hnd0]
        refine w_Rn_openBody hC.1.1 (z_bf hy0 ⟨B1.trans hy6, ?_⟩)
        rw [B2 8]
        exact op_C hC hnx (A1.trans hk6) (by rw [A3]; exact hkd) hV hch hop htop hb2 hbq hd hT hT9 (by omega) hVV (fun _ => j2) (fun q => absurd q ho) (fun _ => c1) (fun _ => c2)
      · intro f bg vc li LC ci CA tr hm hb1 hb2 D KK hD hk
        obtain ⟨D, rfl⟩ : ∃ y, D = y + 1 := ⟨D - 1, by omega⟩
        have hs := hm.2.1
        have hli : li < 14 := by
          have := hs.2.2.2.2.1
          have := hs.2.2.2.2.2.1
          have := hs.2.2.2.2.2.2.1
          omega
        refine mod f bg vc li LC ci CA tr hm D KK (by omega) (w_m_rendersBlock_46 hM ?_)
        rw [hs.2.2.2.1]
        refine z_ixi (by omega) (by omega) (z_bf ?_ ?_)
        · rw [hs.2.2.2.2.2.2.2.2.1.1, z_eq (by omega) (by omega)]
          exact hno
        · refine p_opens hM hm.2.2.2.2.2.2.2.1 hs.2.2.2.2.2.2.2.2.2.2.1 hop (fun _ f1 F1 e1 e2 => z_bt rfl ?_) (fun q => absurd q ho)
          obtain ⟨m1, g1⟩ := MM_43 hm F1 (fun j q => q) e1 e2 (by have := hs.2.2.2.2.2.1; omega) (by omega) (by have := hs.2.2.2.2.2.2.2.2.2.2.2.2.1; omega)
          have hs1 := m1.2.1
          have hmT := MM_T m1 hT10
          rw [hs1.2.2.2.1]
          have hrow : f1 1737 (10 * li + l_fb (u_qb u g) ln (lc - k0) k0) = nI T' := by
            rw [(hs1.2.2.2.2.2.2.2.2.1.2 _ hlt).1, hTT']
          rw [z_mul, z_add]
          refine z_ixi (by omega) (by omega) ?_
          rw [hrow]
          refine tQ_w (d := D) hM hu m1.1 hg (by omega) (Or.inl rfl) T' hT10 _ (fun q => ?_) (fun y' hy' h80 => ?_)
          · have : u_qb u g T' = none := q
            rw [this] at hy
            exact absurd hy (by simp)
          · have hyy : y' = y := by
              have : u_qb u g T' = some y' := hy'
              rw [this] at hy
              exact Option.some.inj hy
            subst hyy
            refine c_tagEnd hM hmT (by omega) w1 w2 w3 (c_closeOf hM hmT (by omega) w1 w2 w3 w5 w6 (Or.inr w7) (fun _ => ?_) (fun q => absurd q (by omega)))
            rw [hs1.2.1, z_add]
            refine sco_M hM (pX_10 hx) j3 m1 hV hVV hx.2.2.2.2.2.2.1 (Nat.le_refl N) (by omega) (by omega) (by omega) (by omega) (by omega) (by omega) (fun f3 m3 g3 => ?_)
            have e43 : f3 1714 43 = nI (op + 1) := m3.2.1.2.2.2.2.2.2.2.2.2.2.1
            rw [e43, show nI (op + 1) - nI 1 = nI op by rw [z_sub (by omega), Nat.add_sub_cancel]]
            obtain ⟨m4, g4⟩ := MM_43 (op' := op) (S1 := fun j => j = 43) m3 (mw_S rfl) (fun j q => Or.inl q) z_u2s ((z_u2m (by decide)).trans m3.2.2.2.2.2.2.2.1) hs.2.2.2.2.2.1 hop hs.2.2.2.2.2.2.2.2.2.2.2.2.1
            exact hk _ _ m4 (mF_t g1 (mF_t g3 g4))
/-- a block met -/
theorem md_35 (hM : mm_S Gm) (hu : uP u) (hT : T < 10) (hx : pX u N B M S lc ln op ch) (hV : pV u N V) (hA : u_A u r) (ht : tb_t k (u_A u) (u_G u) (nI T) b1 r (u_w u T) p m L1) (hc : u_w u T (p + 1) = 35) (hst : st ≤ u_bu u) (hmn : m ≤ u_n u T) (ih : op < 12 → ihO u Gm (op + 1)) : mdJ u Gm T 35 N B M S lc ln op ch V o ra rd sp st hts FG r p m := by
  have hW := (hu.2.2.2 T hT).1
  have hn := hW.1
  have hnd := tg_nd hA ht hc
  obtain ⟨x, q1, b', w1, w2, w3, w4, w5, w6, w7, w8, w9, w10⟩ := tg_one ht hW (Or.inl hc)
  have hgd : tx_D (u_w u T (p + 2)) ∧ mj_i (u_G u) r 3 = nI (u_w u T (p + 2) - 48) := by
    rcases w1 with ⟨a, -⟩ | ⟨a, -⟩ | ⟨a, -⟩ | ⟨a, a2, a3, a4, -⟩ | ⟨a, -⟩ | ⟨a, -⟩ | ⟨a, -⟩ | ⟨a, -⟩
    any_goals omega
    exact ⟨a2, a4⟩
  obtain ⟨g1, g2⟩ := hgd
  have hg10 : u_w u T (p + 2) - 48 < 10 ∧ 48 ≤ u_w u T (p + 2) := by
    unfold tx_D at g1
    omega
  obtain ⟨e, V', o', ra', rd', sp', st', hts', FG', j0, j1, j2, j3⟩ := ob_all (g := u_w u T (p + 2) - 48) (k0 := 0) (o := o) (ra := ra) (rd := rd) (sp := sp) (hts := hts) (FG := FG) hM hu hx hV hst hA hnd.2.2.1 (by rw [hnd.2.2.2.2.2]; decide) hg10.1 (Nat.zero_le _) ih
  subst j0
  refine ⟨e, V', o', ra', rd', sp', st', hts', FG', j1, ?_, ?_⟩
  · intro fr b cn top la ρ G hC hnx k1 k2 k3 Q hQ h80 hb1 hb2 d dm K t hd hdm htt c1 c2
    obtain ⟨dm, rfl⟩ : ∃ y, dm = y + 1 := ⟨dm - 1, by omega⟩
    have hs := hC.2.2.1
    refine ⟨fun q => absurd q (by decide), fun _ => ?_, fun q => absurd q (by decide), fun q => absurd q (by decide), fun q => absurd q (by decide), fun q => absurd q (by decide), fun q => absurd q (by decide), fun q => absurd q (by decide), fun q => absurd q (by decide), fun q => absurd q (by decide)⟩
    rw [k3, g2]
    refine c_firstBlock (n := lc) hC.1.1 hC.2.2.2.2.1 hs.2.1 hs.2.2.2.2.2.2.1 (by have := hs.2.2.2.1; have := hs.2.1; omega) hg10.1 hx.2.2.1 (Nat.zero_le _) hs.2.2.2.2.2.2.2.2.2.1 (hC.2.1.2.1 _ hg10.1).1 ?_
    exact j2 fr b cn top la ρ G hC _ m (t + 100 * (2000 - st) + 100 + (m - p)) hnx (by omega) (by omega) (by omega) d (dm + 1) K t hd (by omega) (by omega) (by omega) (fun he ρ' G' t' hN => c1 he ρ' G' cn t' hN) c2
  · intro f bg vc li LC ci CA tr hm Q hQ hQn hb1 hb2 D KK hD hk
    obtain ⟨D, rfl⟩ : ∃ x, D = x + 1 := ⟨D - 1, by omega⟩
    refine ⟨fun q => absurd q (by decide), fun _ => w_m_rendersOther hM ?_, fun q => absurd q (by decide)⟩
    rw [z_add]
    refine c_letter hM (MM_T hm hT) (by omega) ?_
    rw [tx_nxi (by omega), show u_w u T (p + 2) = 48 + (u_w u T (p + 2) - 48) by omega]
    refine z_bt rfl ?_
    exact j3 f bg vc li LC ci CA tr hm (by omega) (by omega) D KK (by omega) (fun f' fe a1 a2 => hk f' vc fe a1 a2 (by omega))
end ZR
