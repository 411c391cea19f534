/-! LOOPS -/
section C05
variable {u : wo} {Gm : mj_G} {f f' : mm_F} {ρ ρ' ρ0 ρ1 : Nat → Nat} {G G0 G1 G2 G' : mj_G} {cur r nx p q m d t T l s k c x j q1 : Nat} {e : Int32} {v : rv} {b1 : Int32} {L1 : List (Nat × Nat)} {N : Nat} {B : Nat → Nat} {M : Nat} {S : Nat → Nat} {lc : Nat} {ln : Nat → Nat} {op : Nat} {ch : List en} {V : Nat → Nat → Option rv} {o : ost} {ra rd : Nat → Int32} {sp : Nat → Bool} {st hts : Nat} {FG : Nat → kfr} {V' : Nat → Nat → Option rv} {o' : ost} {ra' rd' : Nat → Int32} {sp' : Nat → Bool} {st' hts' : Nat} {FG' : Nat → kfr} {fr b cn : Nat → Nat} {top la : Nat} {bg : Nat → Nat} {vc li LC : Nat} {ci : Int32} {CA tr : Nat}
theorem ls_all (hM : mm_S Gm) (hu : uP u) (hT : T < 10) (hx : pX u N B M S lc ln op ch) (hV : pV u N V) (hv : rv_in (u_D u) v) (h3 : rv_t v = 3) (hA : u_A u r) (hk6 : mj_k (u_G u) r = 6) (h4 : mj_i (u_G u) r 4 = nI l) (hl : l < 26) (hw : u_w u T (p + 2) = 97 + l) (hp2 : p + 2 < u_n u T) (hq1 : q1 ≤ u_n u T) (hpos : 0 < rv_l v) (hxq : x + 1 ≤ q1) {r8 : Nat} (h8 : mj_r (u_G u) r 8 = r8)
    (ih : ∀ (V : Nat → Nat → Option rv) (o : ost) (ra rd : Nat → Int32) (sp : Nat → Bool) (st hts : Nat) (FG : Nat → kfr), pV u (N + 1) V → st ≤ u_bu u → bsJ u (N + 1) (e_bh B N N) M S lc ln op ch V o ra rd sp st hts FG r8 (x + 1) q1) : ∀ {n j : Nat}, j + n = rv_l v → ∀ (o : ost) (ra rd : Nat → Int32) (sp : Nat → Bool) (st hts : Nat) (FG : Nat → kfr), st ≤ u_bu u → ∃ (e : Int32) (V' : Nat → Nat → Option rv) (o' : ost) (ra' rd' : Nat → Int32) (sp' : Nat → Bool) (st' hts' : Nat) (FG' : Nat → kfr), V' = V ∧ pJ u N V o st e V' o' st' M sp sp' ∧ loC u r j q1 x v N B M S lc ln op ch V o ra rd sp st hts FG e V' o' ra' rd' sp' st' hts' FG' ∧ smS u (jlp r j v) N B M S lc ln op ch V o ra rd sp FG e V' o' ra' rd' sp' FG'
  | 0, j, hj, o, ra, rd, sp, st, hts, FG, hst => by
    have hn80 := (hu.2.2.2 T hT).1.1
    have hvl : rv_l v ≤ 8 := (hv.1.2.2.2.2 h3).1
    refine ⟨nI 0, V, o, ra, rd, sp, st, hts, FG, rfl, pJ_r hV hst, ?_, by have q : j = rv_l v := (by omega); rw [q]; exact .lp0⟩
    · intro fr b cn top la ρ0 G0 ρ G oa raa rda spa sta htsa FGa hC0 hL he F hF nx q TT hnx hle h80 hb1 hop hb2 hbq d K t hd hT hT9 c1 c2
      refine lo_end hL hv h3 (by omega) (by omega) (by omega) (fun V1 cn1 G3 g1 g2 g3 i1 i2 i3 i4 i5 i6 => ?_)
      obtain ⟨c3, f3⟩ := CC_popS hC0 g2 (fun s hs => ⟨if_neg (by omega), if_neg (by omega), if_neg (by omega), g3 s hs⟩) (Nat.le_refl M) (fun _ _ => rfl) he F.1 hF g1 i1 i2 i3 i4 i5 i6
      exact c1 rfl ρ G3 (t + 1) ⟨c3, he, fw_t F he (fw_m i2 (fun o q => ⟨by omega, fw11 q⟩)), f3, (i6 _ _).trans hnx, fun _ _ => rfl, by omega, hbq⟩
  | n + 1, j, hj, o, ra, rd, sp, st, hts, FG, hst => by
    have hn80 := (hu.2.2.2 T hT).1.1
    have hvl : rv_l v ≤ 8 := (hv.1.2.2.2.2 h3).1
    have hop := hx.2.1
    have hjl : j < rv_l v := by omega
    obtain ⟨dv1, dv2⟩ := hv.1.2.2.2.2 h3
    obtain ⟨dD1, dD2⟩ := hv.2 h3
    have hit : rv_in (u_D u) (u_I u (rv_d v) j) := by
      obtain ⟨-, g⟩ := hu.1 (rv_d v) dv2
      obtain ⟨-, g2⟩ := g dD1
      obtain ⟨i1, i2⟩ := g2 j (by omega)
      exact ⟨i1, fun q => by omega⟩
    have hB0 : ∀ s, s < N → B s ≤ s := fun s _ => hx.2.2.2.2.1 s
    have hSN : ∀ k, k < M → S k < N := hx.2.2.2.2.2.2.1
    by_cases hs : st = u_bu u
    · -- no step is left
      refine ⟨Int32.ofInt (-9), V, o, ra, rd, sp, st, hts, FG, rfl, pJ_r hV hst, ?_, .lp9⟩
      · intro fr b cn top la ρ0 G0 ρ G oa raa rda spa sta htsa FGa hC0 hL he F hF nx q TT hnx hle h80 hb1 hop hb2 hbq d K t hd hTt hT9 c1 c2
        have hL' := hL
        obtain ⟨V1, cn1, hC, hV1, hcn1, nx0, kd, tg, i14, lst⟩ := hL'
        refine lo_rd hL hv h3 hjl hA hk6 h4 hl hV (by omega) (by omega) (by omega) (fun q => absurd q (by omega)) (fun _ => ?_)
        have hX : rX u ρ G o (Int32.ofInt (-9)) (N + 1) (e_bh B N N) M S lc ln op ch V1 o ra rd sp st hts FG (e_bh fr N (top + 1)) (e_bh b N (b (N - 1) + cn (N - 1))) cn1 (top + 1) la TT ρ G cn1 (top + 1) t := rX_of hC o_le_r ro_r fw_r FF_r (fun _ _ => rfl) (by omega)
        have hss : ∀ s, s < N → e_bh B N N s = B s ∧ e_bh fr N (top + 1) s = fr s ∧ e_bh b N (b (N - 1) + cn (N - 1)) s = b s ∧ cn1 s = cn s := fun s hs => ⟨if_neg (by omega), if_neg (by omega), if_neg (by omega), hcn1 s hs⟩
        exact c2 (by decide) o ρ G cn (top + 1) t (rX_out hC.1 hC.2.2.1.2.1 he F hF kd (fun q => absurd rfl q) hss (if_pos rfl) hV1 hB0 (Nat.le_refl M) (fun _ _ => rfl) hSN hle (Nat.le_refl _) hX)
    · have hs' : st < u_bu u := by omega
      obtain ⟨e1, V1, o1, ra1, rd1, sp1, st1, hts1, FG1, j1, j2, j3⟩ := ih (e_st V N l (u_I u (rv_d v) j)) o ra rd sp (st + 1) hts FG (e_st_p (N := N + 1) (pV_s hV) (by omega) hl hit) (by omega)
      have hVV : ∀ s l, s < N → V1 s l = V s l := fun s l' hsl => (j1.2.2.1 s l' (by omega)).trans (e_st_n (by omega))
      have hst1 := j1.2.2.2.1
      have hst2 := j1.2.2.2.2
      -- the class, up to the end of the body
      have cls : ∀ (fr b cn : Nat → Nat) (top la : Nat) (ρ0 : Nat → Nat) (G0 : mj_G) (ρ : Nat → Nat) (G : mj_G) (oa : ost) (raa rda : Nat → Int32) (spa : Nat → Bool) (sta htsa : Nat) (FGa : Nat → kfr), CC u ρ0 G0 N B M S lc ln op ch V oa raa rda spa sta htsa FGa fr b cn top la → loS u ρ G r j v N B M S lc ln op ch V o ra rd sp st hts FG fr b cn top la → ro_e ρ0 ρ G0 → fw ρ0 bW G0 G → FF ρ0 top (fr (N - 1)) G0 G → ∀ nx q TT, mj_r G (707 + 4 * top) 2 = nx → o_le oa o → q1 ≤ 80 → 7 * (top + 1) + (q1 - (x + 1)) ≤ 84 * op + 80 → op ≤ 12 → 5 * (b (N - 1) + cn (N - 1)) + 5 ≤ 95 * op + (x + 1) → 5 * (b (N - 1) + cn (N - 1)) ≤ 95 * op + q → ∀ d K t, 299 ≤ d → t + 1 + 100 * (2000 - st) ≤ TT → TT ≤ 900000 → (e1 = nI 0 → ∀ ρ' G' t', loS u ρ' G' r (j + 1) v N B M S lc ln op ch V o1 ra1 rd1 sp1 st1 hts1 FG1 fr b cn top la → ro_e ρ0 ρ' G0 → fw ρ0 bW G0 G' → FF ρ0 top (fr (N - 1)) G0 G' → mj_r G' (707 + 4 * top) 2 = nx → t' + 1 + 100 * (2000 - st1) ≤ TT → lp (d + 1) K t' G') → (¬ e1 = nI 0 → ∀ o2 ρ' G' cn' top' t', rX u ρ0 G0 oa e1 N B M S lc ln op ch V o2 ra1 rd1 sp1 st1 hts1 FG1 fr b cn top la TT ρ' G' cn' top' t' → lf (d + 1) K t' e1 G') → lp (d + 1) K t G := by
        intro fr b cn top la ρ0 G0 ρ G oa raa rda spa sta htsa FGa hC0 hL he F hF nx q TT hnx hle h80 hb1 hop hb2 hbq d K t hd hTt hT9 c1 c2
        have hu2 := hu.2.1
        have hfN : e_bh fr N (top + 1) N = top + 1 := if_pos rfl
        have hbN : e_bh b N (b (N - 1) + cn (N - 1)) N = b (N - 1) + cn (N - 1) := if_pos rfl
        refine lo_rd hL hv h3 hjl hA hk6 h4 hl hV (by omega) (by omega) (by omega) (fun _ ρ2 G2 cn2 a1 a2 a3 a4 a5 a6 a7 a8 a9 a10 a11 a12 => ?_) (fun q => absurd q hs)
        have he2 : ro_e ρ0 ρ2 G0 := fun a ha => (a2 a (Nat.lt_of_lt_of_le ha F.1)).trans (he a ha)
        have F2 : fw ρ0 bW G0 G2 := fw_t F he a3
        have FF2 : FF ρ0 top (fr (N - 1)) G0 G2 := FF_t hF he F.1 a4
        have htop1 := a1.2.2.1.2.1
        have hss : ∀ s, s < N → e_bh B N N s = B s ∧ e_bh fr N (top + 1) s = fr s ∧ e_bh b N (b (N - 1) + cn (N - 1)) s = b s ∧ cn2 s = cn s := fun s hs => ⟨if_neg (by omega), if_neg (by omega), if_neg (by omega), a5 s hs⟩
        refine j2 (e_bh fr N (top + 1)) (e_bh b N (b (N - 1) + cn (N - 1))) cn2 (top + 1) la ρ2 G2 a1 (a7.trans h8) q1 (Nat.le_refl _) h80 hb1 (by rw [Nat.add_sub_cancel, hbN]; omega) (d + 1) K (t + 1) (by omega) (by omega) (fun he1 => ?_) (fun he1 => ?_)
        · intro ρ3 G3 cn3 t3 ⟨b1, b2, b3, b4, b5, b6, b7, b8⟩
          rw [Nat.add_sub_cancel] at b4 b6
          have he3 : ro_e ρ0 ρ3 G0 := fun a ha => (b2 a (Nat.lt_of_lt_of_le ha F2.1)).trans (he2 a ha)
          have hG2 := hh_n a1.1
          have rr : ∀ a i, 707 ≤ a → a < 711 + 4 * (top + 1) → ¬ (a = 707 + 4 * (top + 1) ∧ i = 2) → mj_r G3 a i = mj_r G2 a i := fun a i h7 h8 hn => (b4 a (by omega) (by rw [ow_s (by omega)]; omega) (by rw [ow_s (by omega)]; omega)).1 i hn
          have ii : ∀ i, i = 0 ∨ i = 14 → mj_i G3 (707 + 4 * (top + 1)) i = mj_i G2 (707 + 4 * (top + 1)) i := fun i hi => FF_i b4 a1.1 (Nat.le_refl _) htop1 (by omega)
          have liE : ir G2 (rv_d v) = ir G3 (rv_d v) := (dcx_l a1.1.2.2.2 b3 (fun o q => q.2) hG2 dv2).2.symm
          refine c1 he1 ρ3 G3 t3 ⟨V1, cn3, b1, hVV, fun s hs => (b6 s (by omega)).trans (a5 s hs), b5, (ii 0 (by omega)).trans a8, (rr _ _ (by omega) (by omega) (by omega)).trans a9, (ii 14 (by omega)).trans a10, ?_⟩ he3 (fw_t F2 he2 b3) (FF_t FF2 he2 F2.1 (FF_lo b4 htop1 (Nat.lt_succ_self _) (Or.inr ⟨by rw [hfN]; omega, by rw [hfN]; exact htop1⟩))) ?_ (by omega)
          · rw [rr _ _ (by omega) (by omega) (by omega), a11, liE]
          · rw [rr _ _ (by omega) (by omega) (by omega), a12]
            exact hnx
        · intro o2 ρ3 G3 cn3 top3 t3 hX
          exact c2 he1 o2 ρ3 G3 cn top3 t3 (rX_out a1.1 htop1 he2 F2 FF2 a8 (fun _ => by decide) hss hfN hVV hB0 (Nat.le_refl M) (fun _ _ => rfl) hSN hle (by omega) hX)
      by_cases he : e1 = nI 0
      · subst he
        obtain ⟨e, V', o', ra', rd', sp', st', hts', FG', i0, i1, i2, i3⟩ := ls_all hM hu hT hx hV hv h3 hA hk6 h4 hl hw hp2 hq1 hpos hxq h8 ih (n := n) (j := j + 1) (by omega) o1 ra1 rd1 sp1 st1 hts1 FG1 hst2
        subst i0
        refine ⟨e, V', o', ra', rd', sp', st', hts', FG', rfl, ⟨oJ_t j1.1 i1.1, hV, fun _ _ _ => rfl, by have := i1.2.2.2.1; omega, i1.2.2.2.2⟩, ?_, .lp1 hjl h4 hl (by rw [h8]; exact j3) i3⟩
        · intro fr b cn top la ρ0 G0 ρ G oa raa rda spa sta htsa FGa hC0 hL he F hF nx q TT hnx hle h80 hb1 hop hb2 hbq d K t hd hTt hT9 c1 c2
          refine cls fr b cn top la ρ0 G0 ρ G oa raa rda spa sta htsa FGa hC0 hL he F hF nx q TT hnx hle h80 hb1 hop hb2 hbq d K t hd hTt hT9 (fun _ ρ2 G2 t2 a1 a2 a3 a4 a5 a6 => ?_) (fun q => absurd rfl q)
          exact i2 fr b cn top la ρ0 G0 ρ2 G2 oa raa rda spa sta htsa FGa hC0 a1 a2 a3 a4 nx q TT a5 (o_le_t hle (j1.1.1 rfl)) h80 hb1 hop hb2 hbq d K t2 hd a6 hT9 c1 c2
      · refine ⟨e1, V, o1, ra1, rd1, sp1, st1, hts1, FG1, rfl, ⟨j1.1, hV, fun _ _ _ => rfl, by omega, hst2⟩, ?_, .lpx hjl h4 hl (by rw [h8]; exact j3) he⟩
        · intro fr b cn top la ρ0 G0 ρ G oa raa rda spa sta htsa FGa hC0 hL he' F hF nx q TT hnx hle h80 hb1 hop hb2 hbq d K t hd hTt hT9 c1 c2
          exact cls fr b cn top la ρ0 G0 ρ G oa raa rda spa sta htsa FGa hC0 hL he' F hF nx q TT hnx hle h80 hb1 hop hb2 hbq d K t hd hTt hT9 (fun q => absurd q he) c2
theorem ms_42 (hM : mm_S Gm) (hu : uP u) (hT : T < 10) (hx : pX u N B M S lc ln op ch) (hV : pV u N V) (hA : u_A u r) (ht : tb_t k (u_A u) (u_G u) (nI T) b1 r (u_w u T) p m L1) (hc : u_w u T (p + 1) = 42) (hst : st ≤ u_bu u) (ih : ∀ N' B', pX u N' B' M S lc ln op ch → ihS u T k b1 L1 N' B' M S lc ln op ch) : msJ u 42 N B M S lc ln op ch V o ra rd sp st hts FG r p m := by
  have hW := (hu.2.2.2 T hT).1
  have hn := hW.1
  have hop := hx.2.1
  have hch : ∀ y, y ∈ ch → en_x y ≤ N := fun y hy => (hx.2.2.2.2.2.2.2 y hy).2.2.2.1
  obtain ⟨x1, s, l, es, hE, h1, h2, ⟨h0, h3⟩, hH, hta, hg, -⟩ := tg_ex ht hW (by omega)
  rw [if_neg (by omega)] at es
  subst es
  obtain ⟨hgL, hg4⟩ := hg (Or.inl hc)
  have hl26 : u_w u T (p + 2) - 97 < 26 ∧ 97 ≤ u_w u T (p + 2) ∧ u_w u T (p + 2) ≤ 122 := by
    unfold tx_L at hgL
    omega
  have hnd := tg_nd hA ht hc
  obtain ⟨q1, La, y1, y2, y3, y4, y5, -, y7⟩ := ts_two hW h0 (by omega) hH h3 hta hc (by omega)
  obtain ⟨e1, v, ra1, rd1, f1, f2, f3⟩ := xs_all (sl := 0) (dep := 0) hW hx.2.2.2.2.1 hu.1 (fun s l v q => (hV s l v q).2.2) (Nat.le_refl N) hE (by omega) (by omega) (by omega) ra rd
  by_cases he : e1 = nI 0
  case neg =>
    refine ⟨e1, V, o, ra1, rd1, sp, st, hts, FG, pJ_r hV hst, mdC_mx hnd (by omega) he f2 (by omega), .bad hnd (by decide) he ⟨_, f3⟩⟩
  subst he
  have hvin := f1 rfl
  by_cases h33 : rv_t v = 3
  case neg =>
    -- no list
    refine ⟨Int32.ofInt (-3), V, o, ra1, rd1, sp, st, hts, FG, pJ_r hV hst, mdC_me hnd (by omega) f2 (by omega) ?_, .nol hnd ⟨_, f3⟩ h33⟩
    · intro fr b cn top la ρ G hC hcv hnx k1 k2 k3 Q hQ h80 hb1 hb2 d dm K t hd hdm htt c1 c2
      obtain ⟨dm, rfl⟩ : ∃ x, dm = x + 1 := ⟨dm - 1, by omega⟩
      refine ⟨fun _ => w_Rn_enterLoop hC.1.1 ⟨hcv.1, ?_⟩, fun q => absurd q (by decide), fun q => absurd q (by decide), fun q => absurd q (by decide), fun q => absurd q (by decide)⟩
      rw [hcv.2.2.1, rv_kn hvin.1.1 (by omega)]
      exact z_bf (by omega) (kk_o hC hnx o_le_r (by omega) (by omega) hC.1 ro_r fw_r oX_r hC.2.2.2.2.2.2.2.1.1 c1 c2)
  by_cases hpos : rv_l v = 0
  · -- an empty list
    obtain ⟨p', q', e, V', o', ra', rd', sp', st', hts', FG', j1, j2, j3, i1, i2, i3, i4⟩ := y7 N B M S lc ln op ch (ih N B hx) V o ra1 rd1 sp st hts FG hV hst
    refine ⟨e, V', o', ra', rd', sp', st', hts', FG', j1, mdC_me hnd (by omega) f2 (by omega) ?_, .emp hnd ⟨_, f3⟩ h33 hpos j3⟩
    · intro fr b cn top la ρ G hC hcv hnx k1 k2 k3 Q hQ h80 hb1 hb2 d dm K t hd hdm htt c1 c2
      obtain ⟨dm, rfl⟩ : ∃ x, dm = x + 2 := ⟨dm - 2, by omega⟩
      obtain ⟨r1, r2, r3, r4, r5, r6, r7⟩ := li_row hC.1 hvin h33
      have li5 : mj_r G 1509 5 = ir G (rv_d v) := hcv.2.2.2.2.2 h33
      refine ⟨fun _ => w_Rn_enterLoop hC.1.1 ⟨hcv.1, z_bt (by rw [hcv.2.2.1, h33]; rfl) ?_⟩, fun q => absurd q (by decide), fun q => absurd q (by decide), fun q => absurd q (by decide), fun q => absurd q (by decide)⟩
      rw [li5, r4, r5, hpos, k2]
      refine ⟨by decide, z_bt rfl ⟨k1, ?_⟩⟩
      exact j2 fr b cn top la ρ G hC _ m (t + 100 * (2000 - st) + 100 + (m - p)) hnx (by omega) (by omega) hop (by omega) (by omega) d dm K t _ (fun G' h => ⟨fun _ => h, fun q => absurd rfl q⟩) hd (by omega) (by omega) c1 c2
  · -- round by round
    obtain ⟨e, V', o', ra', rd', sp', st', hts', FG', j0, j1, j2, j3⟩ := ls_all (q1 := q1) (x := x1) (p := p) (r := r) hM hu hT hx hV hvin h33 hA hnd.2.2.1 hg4 hl26.1 (by omega) (by omega) (by omega) (by omega) y3 rfl (fun V2 o2 ra2 rd2 sp2 st2 hts2 FG2 hV2 hst2 => bs_0 y1 hV2 hst2 (fun hr => ih _ _ (pX_s hx (Nat.le_refl N)) _ _ _ _ y1 (by omega) y2 hr V2 o2 ra2 rd2 sp2 st2 hts2 FG2 hV2 hst2)) (n := rv_l v) (j := 0) (by omega) o ra1 rd1 sp st hts FG hst
    subst j0
    refine ⟨e, V', o', ra', rd', sp', st', hts', FG', j1, mdC_me hnd (by omega) f2 (by omega) ?_, .lop hnd ⟨_, f3⟩ h33 hpos j3⟩
    · intro fr b cn top la ρ G hC hcv hnx k1 k2 k3 Q hQ h80 hb1 hb2 d dm K t hd hdm htt c1 c2
      obtain ⟨dm, rfl⟩ : ∃ x, dm = x + 3 := ⟨dm - 3, by omega⟩
      refine ⟨fun _ => en_L hC hvin h33 (by omega) hcv hA hV hch (by omega) hnx (fun G' a1 a2 a3 a4 => ?_), fun q => absurd q (by decide), fun q => absurd q (by decide), fun q => absurd q (by decide), fun q => absurd q (by decide)⟩
      exact j2 fr b cn top la ρ G ρ G' o ra1 rd1 sp st hts FG hC a1 ro_r a2 a3 _ m (t + 100 * (2000 - st) + 100 + (m - p)) a4 o_le_r (by omega) (by omega) hop (by omega) (by omega) d K (t + 1) hd (by omega) (by omega) (fun he ρ' G2 t' hN => c1 he ρ' G2 cn t' hN) (fun he o2 ρ' G2 cn' top' t' hX => c2 he o2 ρ' G2 cn' top' t' hX)
end C05
