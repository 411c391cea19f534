/-! LOOPS, by both sides -/
/-- the rounds that are left, by the class -/
def loC (u : wo) (r j q1 x : Nat) (v : rv) (N : Nat) (B : Nat → Nat) (M : Nat) (S : Nat → Nat) (lc : Nat) (ln : Nat → Nat) (op : Nat) (ch : List en) (V : Nat → Nat → Option rv) (o : ost) (ra rd : Nat → Int32) (sp : Nat → Bool) (st hts : Nat) (FG : Nat → kfr) (e : Int32) (V' : Nat → Nat → Option rv) (o' : ost) (ra' rd' : Nat → Int32) (sp' : Nat → Bool) (st' hts' : Nat) (FG' : Nat → kfr) : Prop := ∀ (fr b cn : Nat → Nat) (top la : Nat) (ρ0 : Nat → Nat) (G0 : mj_G) (ρ : Nat → Nat) (G : mj_G) (oa : ost) (raa rda : Nat → Int32) (spa : Nat → Bool) (sta htsa : Nat) (FGa : Nat → kfr), CC u ρ0 G0 N B M S lc ln op ch V oa raa rda spa sta htsa FGa fr b cn top la → loS u ρ G r j v N B M S lc ln op ch V o ra rd sp st hts FG fr b cn top la → ro_e ρ0 ρ G0 → fw ρ0 bW G0 G → FF ρ0 top (fr (N - 1)) G0 G → ∀ nx q TT, mj_r G (707 + 4 * top) 2 = nx → o_le oa o → q1 ≤ 80 → 7 * (top + 1) + (q1 - (x + 1)) ≤ 84 * op + 80 → op ≤ 12 → 5 * (b (N - 1) + cn (N - 1)) + 5 ≤ 95 * op + (x + 1) → 5 * (b (N - 1) + cn (N - 1)) ≤ 95 * op + q → ∀ d K t, 299 ≤ d → t + 1 + 100 * (2000 - st) ≤ TT → TT ≤ 900000 → (e = nI 0 → ∀ ρ' G' t', rN u ρ0 G0 N B M S lc ln op ch V' o' ra' rd' sp' st' hts' FG' fr b cn top la nx q TT ρ' G' cn t' → lp (d + 1) K t' G') → (¬ e = nI 0 → ∀ o2 ρ' G' cn' top' t', rX u ρ0 G0 oa e N B M S lc ln op ch V' o2 ra' rd' sp' st' hts' FG' fr b cn top la TT ρ' G' cn' top' t' → lf (d + 1) K t' e G') → lp (d + 1) K t G
/-- and by the model -/
def loM (u : wo) (Gm : mj_G) (T p j q1 x : Nat) (v : rv) (N : Nat) (B : Nat → Nat) (M : Nat) (S : Nat → Nat) (lc : Nat) (ln : Nat → Nat) (op : Nat) (ch : List en) (V : Nat → Nat → Option rv) (o : ost) (ra rd : Nat → Int32) (sp : Nat → Bool) (st hts : Nat) (FG : Nat → kfr) (e : Int32) (V' : Nat → Nat → Option rv) (o' : ost) (ra' rd' : Nat → Int32) (sp' : Nat → Bool) (st' hts' : Nat) (FG' : Nat → kfr) : Prop := ∀ (f : mm_F) (bg : Nat → Nat) (vc li LC : Nat) (ci : Int32) (CA tr : Nat), MM u f N B M S lc ln op ch V o ra rd sp st hts FG (nI 0) bg vc li LC ci CA tr (nI 320) → (9 * tr + (q1 - (x + 1)) ≤ 72 * op + 80 ∧ 7 * (N + 1) + (q1 - (x + 1)) ≤ 84 * op + 87) → 5 * vc + 5 ≤ 95 * op + (x + 1) → ∀ d K, (q1 - (x + 1)) + 90 * (12 - op) + 323 ≤ d → (∀ f' fe, MM u f' N B M S lc ln op ch V' o' ra' rd' sp' st' hts' FG' e bg vc li LC ci CA tr fe → mF tr LC CA f f' → K true f') → m_isLooped_70 Gm (d + 1) (nI T) (nI p) (nI (x + 1)) (nI q1) (nI (rv_d v)) (nI (rv_l v)) (nI j) f K
section ZP
variable {u : wo} {Gm : mj_G} {f f' : mm_F} {ρ ρ' ρ0 ρ1 : Nat → Nat} {G G0 G1 G2 G' : mj_G} {cur r nx p q m d t T l s k c x j q1 : Nat} {e : Int32} {v : rv} {b1 : Int32} {L1 : List (Nat × Nat)} {N : Nat} {B : Nat → Nat} {M : Nat} {S : Nat → Nat} {lc : Nat} {ln : Nat → Nat} {op : Nat} {ch : List en} {V : Nat → Nat → Option rv} {o : ost} {ra rd : Nat → Int32} {sp : Nat → Bool} {st hts : Nat} {FG : Nat → kfr} {V' : Nat → Nat → Option rv} {o' : ost} {ra' rd' : Nat → Int32} {sp' : Nat → Bool} {st' hts' : Nat} {FG' : Nat → kfr} {fr b cn : Nat → Nat} {top la : Nat} {bg : Nat → Nat} {vc li LC : Nat} {ci : Int32} {CA tr : Nat}
/-- a place taken, an item in it -/
theorem MM_pl {fe fe' : Int32} {P : Nat → Prop} (h : MM u f N B M S lc ln op ch V o ra rd sp st hts FG e bg vc li LC ci CA tr fe) (h10 : ∀ x, x ∈ ch → en_n x ≤ 10) (F : mw P (fun j => j = 21) no_R f f') (hP : ∀ i, P i → 320 ≤ i) (h21 : f' 1714 21 = fe') : MM u f' N B M S lc ln op ch V o ra rd sp st hts FG e bg vc li LC ci CA tr fe' ∧ mF tr LC CA f f' := by
  obtain ⟨h1, h2, h3, h4, h5, h6, h7, h8, h9, h0⟩ := h
  have nr : ∀ a, no_R a → False := fun a q => q
  exact ⟨⟨wM_f h1 F (by decide) (fun a q => absurd q (nr a)), sM_21 h2 h10 F (fun j q => by omega) (fun a q => absurd q (nr a)) h21, dM_f h3 F hP (fun j q => by omega) (fun a q => absurd q (nr a)), (F.2.1 68 (by decide)).trans h4, h5, h6, (F.2.1 69 (by decide)).trans h7, (F.2.1 70 (by decide)).trans h8, oM_f h9 F ⟨by decide, by decide⟩ ⟨nr _, nr _⟩, fgM_f h0 F (fun a q => absurd q (nr a))⟩, mF_w F (fun j q => by unfold rS; omega) (fun a q => absurd q (nr a))⟩
theorem lo_all (hM : mm_S Gm) (hu : uP u) (hT : T < 10) (hx : pX u N B M S lc ln op ch) (hV : pV u N V) (hv : rv_in (u_D u) v) (h3 : rv_t v = 3) (hA : u_A u r) (hk6 : mj_k (u_G u) r = 6) (h4 : mj_i (u_G u) r 4 = nI l) (hl : l < 26) (hw : u_w u T (p + 2) = 97 + l) (hp2 : p + 2 < u_n u T) (hq1 : q1 ≤ u_n u T) (hpos : 0 < rv_l v) (hxq : x + 1 ≤ q1) {r8 : Nat} (h8 : mj_r (u_G u) r 8 = r8)
    (ih : ∀ (V : Nat → Nat → Option rv) (o : ost) (ra rd : Nat → Int32) (sp : Nat → Bool) (st hts : Nat) (FG : Nat → kfr), pV u (N + 1) V → st ≤ u_bu u → bdJ u Gm T (N + 1) (e_bh B N N) M S lc ln op ch V o ra rd sp st hts FG r8 (x + 1) q1) : ∀ {n j : Nat}, j + n = rv_l v → ∀ (o : ost) (ra rd : Nat → Int32) (sp : Nat → Bool) (st hts : Nat) (FG : Nat → kfr), st ≤ u_bu u → ∃ (e : Int32) (V' : Nat → Nat → Option rv) (o' : ost) (ra' rd' : Nat → Int32) (sp' : Nat → Bool) (st' hts' : Nat) (FG' : Nat → kfr), V' = V ∧ pJ u N V o st e V' o' st' M sp sp' ∧ loC u r j q1 x v N B M S lc ln op ch V o ra rd sp st hts FG e V' o' ra' rd' sp' st' hts' FG' ∧ loM u Gm T p j q1 x v N B M S lc ln op ch V o ra rd sp st hts FG e V' o' ra' rd' sp' st' hts' FG'
  | 0, j, hj, o, ra, rd, sp, st, hts, FG, hst => by
    have hn80 := (hu.2.2.2 T hT).1.1
    have hvl : rv_l v ≤ 8 := (hv.1.2.2.2.2 h3).1
    refine ⟨nI 0, V, o, ra, rd, sp, st, hts, FG, rfl, pJ_r hV hst, ?_, ?_⟩
    · intro fr b cn top la ρ0 G0 ρ G oa raa rda spa sta htsa FGa hC0 hL he F hF nx q TT hnx hle h80 hb1 hop hb2 hbq d K t hd hT hT9 c1 c2
      refine lo_end hL hv h3 (by omega) (by omega) (by omega) (fun V1 cn1 G3 g1 g2 g3 i1 i2 i3 i4 i5 i6 => ?_)
      obtain ⟨c3, f3⟩ := CC_popS hC0 g2 (fun s hs => ⟨if_neg (by omega), if_neg (by omega), if_neg (by omega), g3 s hs⟩) (Nat.le_refl M) (fun _ _ => rfl) he F.1 hF g1 i1 i2 i3 i4 i5 i6
      exact c1 rfl ρ G3 (t + 1) ⟨c3, he, fw_t F he (fw_m i2 (fun o q => ⟨by omega, fw11 q⟩)), f3, (i6 _ _).trans hnx, fun _ _ => rfl, by omega, hbq⟩
    · intro f bg vc li LC ci CA tr hm hb1 hb2 d K hd hK
      refine w_m_isLooped_70 hM (z_bt (by rw [z_le (by omega) (by omega)]; omega) (z_bf (by rw [z_le (by omega) (by omega)]; omega) (hK f _ hm mF_r)))
  | n + 1, j, hj, o, ra, rd, sp, st, hts, FG, hst => by
    have hn80 := (hu.2.2.2 T hT).1.1
    have hvl : rv_l v ≤ 8 := (hv.1.2.2.2.2 h3).1
    have hop := hx.2.1
    have hjl : j < rv_l v := by omega
    obtain ⟨dv1, dv2⟩ := hv.1.2.2.2.2 h3
    obtain ⟨dD1, dD2⟩ := hv.2 h3
    have hit : rv_in (u_D u) (u_I u (rv_d v) j) := by
      obtain ⟨-, g⟩ := hu.1 (rv_d v) dv2
      obtain ⟨-, g2⟩ := g dD1
      obtain ⟨i1, i2⟩ := g2 j (by omega)
      exact ⟨i1, fun q => by omega⟩
    have hB0 : ∀ s, s < N → B s ≤ s := fun s _ => hx.2.2.2.2.1 s
    have hSN : ∀ k, k < M → S k < N := hx.2.2.2.2.2.2.1
    by_cases hs : st = u_bu u
    · -- no step is left
      refine ⟨Int32.ofInt (-9), V, o, ra, rd, sp, st, hts, FG, rfl, pJ_r hV hst, ?_, ?_⟩
      · intro fr b cn top la ρ0 G0 ρ G oa raa rda spa sta htsa FGa hC0 hL he F hF nx q TT hnx hle h80 hb1 hop hb2 hbq d K t hd hTt hT9 c1 c2
        have hL' := hL
        obtain ⟨V1, cn1, hC, hV1, hcn1, nx0, kd, tg, i14, lst⟩ := hL'
        refine lo_rd hL hv h3 hjl hA hk6 h4 hl hV (by omega) (by omega) (by omega) (fun q => absurd q (by omega)) (fun _ => ?_)
        have hX : rX u ρ G o (Int32.ofInt (-9)) (N + 1) (e_bh B N N) M S lc ln op ch V1 o ra rd sp st hts FG (e_bh fr N (top + 1)) (e_bh b N (b (N - 1) + cn (N - 1))) cn1 (top + 1) la TT ρ G cn1 (top + 1) t := rX_of hC o_le_r ro_r fw_r FF_r (fun _ _ => rfl) (by omega)
        have hss : ∀ s, s < N → e_bh B N N s = B s ∧ e_bh fr N (top + 1) s = fr s ∧ e_bh b N (b (N - 1) + cn (N - 1)) s = b s ∧ cn1 s = cn s := fun s hs => ⟨if_neg (by omega), if_neg (by omega), if_neg (by omega), hcn1 s hs⟩
        exact c2 (by decide) o ρ G cn (top + 1) t (rX_out hC.1 hC.2.2.1.2.1 he F hF kd (fun q => absurd rfl q) hss (if_pos rfl) hV1 hB0 (Nat.le_refl M) (fun _ _ => rfl) hSN hle (Nat.le_refl _) hX)
      · intro f bg vc li LC ci CA tr hm hb1 hb2 d K hd hK
        refine w_m_isLooped_70 hM (z_bf (by rw [z_le (by omega) (by omega)]; omega) (z_bt hm.2.2.2.2.2.2.2.1 ?_))
        refine p_pays hM hm.2.2.2.1 hm.1.2.2.2 hm.2.2.2.2.2.1 hm.2.2.2.2.1 (fun q => absurd q (by omega)) (fun _ f1 F1 e1 => z_bf (by rw [e1]; decide) ?_)
        obtain ⟨m1, g1⟩ := MM_e hm (pX_10 hx) F1 e1 (by decide)
        have fin : K true f1 := hK f1 _ m1 g1
        have hp : ¬ nI (rv_l v) ≤ nI 0 := by rw [z_le (by omega) (by omega)]; omega
        exact w_m_isLooped_70 hM (z_br (fun _ => z_bf hp fin) (fun _ => z_bf (by rw [e1]; decide) (z_bf hp fin)))
    · have hs' : st < u_bu u := by omega
      obtain ⟨e1, V1, o1, ra1, rd1, sp1, st1, hts1, FG1, j1, j2, j3⟩ := ih (e_st V N l (u_I u (rv_d v) j)) o ra rd sp (st + 1) hts FG (e_st_p (N := N + 1) (pV_s hV) (by omega) hl hit) (by omega)
      have hVV : ∀ s l, s < N → V1 s l = V s l := fun s l' hsl => (j1.2.2.1 s l' (by omega)).trans (e_st_n (by omega))
      have hst1 := j1.2.2.2.1
      have hst2 := j1.2.2.2.2
      -- the class, up to the end of the body
      have cls : ∀ (fr b cn : Nat → Nat) (top la : Nat) (ρ0 : Nat → Nat) (G0 : mj_G) (ρ : Nat → Nat) (G : mj_G) (oa : ost) (raa rda : Nat → Int32) (spa : Nat → Bool) (sta htsa : Nat) (FGa : Nat → kfr), CC u ρ0 G0 N B M S lc ln op ch V oa raa rda spa sta htsa FGa fr b cn top la → loS u ρ G r j v N B M S lc ln op ch V o ra rd sp st hts FG fr b cn top la → ro_e ρ0 ρ G0 → fw ρ0 bW G0 G → FF ρ0 top (fr (N - 1)) G0 G → ∀ nx q TT, mj_r G (707 + 4 * top) 2 = nx → o_le oa o → q1 ≤ 80 → 7 * (top + 1) + (q1 - (x + 1)) ≤ 84 * op + 80 → op ≤ 12 → 5 * (b (N - 1) + cn (N - 1)) + 5 ≤ 95 * op + (x + 1) → 5 * (b (N - 1) + cn (N - 1)) ≤ 95 * op + q → ∀ d K t, 299 ≤ d → t + 1 + 100 * (2000 - st) ≤ TT → TT ≤ 900000 → (e1 = nI 0 → ∀ ρ' G' t', loS u ρ' G' r (j + 1) v N B M S lc ln op ch V o1 ra1 rd1 sp1 st1 hts1 FG1 fr b cn top la → ro_e ρ0 ρ' G0 → fw ρ0 bW G0 G' → FF ρ0 top (fr (N - 1)) G0 G' → mj_r G' (707 + 4 * top) 2 = nx → t' + 1 + 100 * (2000 - st1) ≤ TT → lp (d + 1) K t' G') → (¬ e1 = nI 0 → ∀ o2 ρ' G' cn' top' t', rX u ρ0 G0 oa e1 N B M S lc ln op ch V o2 ra1 rd1 sp1 st1 hts1 FG1 fr b cn top la TT ρ' G' cn' top' t' → lf (d + 1) K t' e1 G') → lp (d + 1) K t G := by
        intro fr b cn top la ρ0 G0 ρ G oa raa rda spa sta htsa FGa hC0 hL he F hF nx q TT hnx hle h80 hb1 hop hb2 hbq d K t hd hTt hT9 c1 c2
        have hu2 := hu.2.1
        have hfN : e_bh fr N (top + 1) N = top + 1 := if_pos rfl
        have hbN : e_bh b N (b (N - 1) + cn (N - 1)) N = b (N - 1) + cn (N - 1) := if_pos rfl
        refine lo_rd hL hv h3 hjl hA hk6 h4 hl hV (by omega) (by omega) (by omega) (fun _ ρ2 G2 cn2 a1 a2 a3 a4 a5 a6 a7 a8 a9 a10 a11 a12 => ?_) (fun q => absurd q hs)
        have he2 : ro_e ρ0 ρ2 G0 := fun a ha => (a2 a (Nat.lt_of_lt_of_le ha F.1)).trans (he a ha)
        have F2 : fw ρ0 bW G0 G2 := fw_t F he a3
        have FF2 : FF ρ0 top (fr (N - 1)) G0 G2 := FF_t hF he F.1 a4
        have htop1 := a1.2.2.1.2.1
        have hss : ∀ s, s < N → e_bh B N N s = B s ∧ e_bh fr N (top + 1) s = fr s ∧ e_bh b N (b (N - 1) + cn (N - 1)) s = b s ∧ cn2 s = cn s := fun s hs => ⟨if_neg (by omega), if_neg (by omega), if_neg (by omega), a5 s hs⟩
        refine j2 (e_bh fr N (top + 1)) (e_bh b N (b (N - 1) + cn (N - 1))) cn2 (top + 1) la ρ2 G2 a1 (a7.trans h8) q1 (Nat.le_refl _) h80 hb1 (by rw [Nat.add_sub_cancel, hbN]; omega) (d + 1) K (t + 1) (by omega) (by omega) (fun he1 => ?_) (fun he1 => ?_)
        · intro ρ3 G3 cn3 t3 ⟨b1, b2, b3, b4, b5, b6, b7, b8⟩
          rw [Nat.add_sub_cancel] at b4 b6
          have he3 : ro_e ρ0 ρ3 G0 := fun a ha => (b2 a (Nat.lt_of_lt_of_le ha F2.1)).trans (he2 a ha)
          have hG2 := hh_n a1.1
          have rr : ∀ a i, 707 ≤ a → a < 711 + 4 * (top + 1) → ¬ (a = 707 + 4 * (top + 1) ∧ i = 2) → mj_r G3 a i = mj_r G2 a i := fun a i h7 h8 hn => (b4 a (by omega) (by rw [ow_s (by omega)]; omega) (by rw [ow_s (by omega)]; omega)).1 i hn
          have ii : ∀ i, i = 0 ∨ i = 14 → mj_i G3 (707 + 4 * (top + 1)) i = mj_i G2 (707 + 4 * (top + 1)) i := fun i hi => FF_i b4 a1.1 (Nat.le_refl _) htop1 (by omega)
          have liE : ir G2 (rv_d v) = ir G3 (rv_d v) := (dcx_l a1.1.2.2.2 b3 (fun o q => q.2) hG2 dv2).2.symm
          refine c1 he1 ρ3 G3 t3 ⟨V1, cn3, b1, hVV, fun s hs => (b6 s (by omega)).trans (a5 s hs), b5, (ii 0 (by omega)).trans a8, (rr _ _ (by omega) (by omega) (by omega)).trans a9, (ii 14 (by omega)).trans a10, ?_⟩ he3 (fw_t F2 he2 b3) (FF_t FF2 he2 F2.1 (FF_lo b4 htop1 (Nat.lt_succ_self _) (Or.inr ⟨by rw [hfN]; omega, by rw [hfN]; exact htop1⟩))) ?_ (by omega)
          · rw [rr _ _ (by omega) (by omega) (by omega), a11, liE]
          · rw [rr _ _ (by omega) (by omega) (by omega), a12]
            exact hnx
        · intro o2 ρ3 G3 cn3 top3 t3 hX
          exact c2 he1 o2 ρ3 G3 cn top3 t3 (rX_out a1.1 htop1 he2 F2 FF2 a8 (fun _ => by decide) hss hfN hVV hB0 (Nat.le_refl M) (fun _ _ => rfl) hSN hle (by omega) hX)
      -- the model, up to the end of the body
      have mod : ∀ (f : mm_F) (bg : Nat → Nat) (vc li LC : Nat) (ci : Int32) (CA tr : Nat), MM u f N B M S lc ln op ch V o ra rd sp st hts FG (nI 0) bg vc li LC ci CA tr (nI 320) → (9 * tr + (q1 - (x + 1)) ≤ 72 * op + 80 ∧ 7 * (N + 1) + (q1 - (x + 1)) ≤ 84 * op + 87) → 5 * vc + 5 ≤ 95 * op + (x + 1) → ∀ d K, (q1 - (x + 1)) + 90 * (12 - op) + 323 ≤ d → (∀ f', MM u f' N B M S lc ln op ch V o1 ra1 rd1 sp1 st1 hts1 FG1 e1 bg vc li LC ci CA tr (nI 320) → mF tr LC CA f f' → m_isLooped_70 Gm (d + 1) (nI T) (nI p) (nI (x + 1)) (nI q1) (nI (rv_d v)) (nI (rv_l v)) (nI (j + 1)) f' K) → m_isLooped_70 Gm (d + 1) (nI T) (nI p) (nI (x + 1)) (nI q1) (nI (rv_d v)) (nI (rv_l v)) (nI j) f K := by
        intro f bg vc li LC ci CA tr hm hb1 hb2 d K hd hK
        have h10 := pX_10 hx
        obtain ⟨d, rfl⟩ : ∃ y, d = y + 1 := ⟨d - 1, by omega⟩
        refine w_m_isLooped_70 hM (z_bf (by rw [z_le (by omega) (by omega)]; omega) (z_bt hm.2.2.2.2.2.2.2.1 ?_))
        refine p_pays hM hm.2.2.2.1 hm.1.2.2.2 hm.2.2.2.2.2.1 hm.2.2.2.2.1 (fun q f1 F1 e1' => ?_) (fun q => absurd q hs)
        obtain ⟨m1, g1⟩ := MM_st hm h10 F1 e1' q
        refine z_bt m1.2.2.2.2.2.2.2.1 ?_
        have h27 : f1 1714 27 = sh N := m1.2.1.2.1
        rw [h27]
        refine MM_os hM m1 h10 (by omega) (Nat.le_refl N) (fun f2 m2 g2 => ?_)
        rw [h27]
        refine p_takesPlace hM m2.2.1.2.2.1 (by decide) (fun f3 F3 k21 _ _ _ _ => ?_)
        obtain ⟨m3, g3⟩ := MM_pl m2 h10 F3 (fun i q => by have q' : i = 320 := q; omega) k21
        rw [show nI 8 * nI (rv_d v) + nI j = nI (8 * rv_d v + j) by rw [z_mul, z_add]]
        refine p_takesItem hM (by decide) m3.1.2.2.1 dv2 dD1 (by omega) (fun f4 F4 k4 => ?_)
        have k421 : f4 1714 21 = nI 321 := (F4.2.1 21 (fun q => q)).trans k21
        obtain ⟨m4, g4⟩ := MM_pl m3 h10 (mw_m F4 (fun _ q => q) (fun _ q => absurd q (fun t => t)) (fun _ q => q)) (fun i q => by have q' : i = 320 := q; omega) k421
        rw [show nI p + nI 2 = nI (p + 2) from z_add p 2]
        refine c_letter hM (MM_T m4 hT) (by omega) ?_
        rw [tx_nxi hp2, hw, z_sub (by omega), Nat.add_sub_cancel_left]
        refine p_sets (N := N + 1) hM m4.2.2.1.1 m4.2.2.1.2.1 (by omega) (m4.2.1.2.1.trans sh_s) hl (Nat.le_refl _) (by decide) k4 hit (by omega) (fun f5 vc5 F5 i1 i2 i3 i4 i5 i6 => ?_)
        rw [Nat.add_sub_cancel] at i1
        obtain ⟨m5, g5⟩ := MM_set (P := no_R) m4 h10 F5 i1 i2 i3 i4 i5 i6
        obtain ⟨m6, g6⟩ := MM_fe (y := nI 320) m5 h10
        refine bd_M hM j3 m6 (by omega) hq1 hb1 (by omega) (by omega) (fun f7 vc7 m7 g7 _ => ?_)
        refine MM_cs hM m7 h10 hx.1 hV hVV (fun s hs => if_neg (by omega)) (fun s hs => if_neg (by omega)) (if_pos rfl) hSN hB0 (fun f8 m8 g8 => ?_)
        rw [show nI j + nI 1 = nI (j + 1) from z_add j 1]
        exact hK f8 m8 (mF_t g1 (mF_t g2 (mF_t g3 (mF_t g4 (mF_t g5 (mF_t g6 (mF_t g7 g8)))))))
      by_cases he : e1 = nI 0
      · subst he
        obtain ⟨e, V', o', ra', rd', sp', st', hts', FG', i0, i1, i2, i3⟩ := lo_all hM hu hT hx hV hv h3 hA hk6 h4 hl hw hp2 hq1 hpos hxq h8 ih (n := n) (j := j + 1) (by omega) o1 ra1 rd1 sp1 st1 hts1 FG1 hst2
        subst i0
        refine ⟨e, V', o', ra', rd', sp', st', hts', FG', rfl, ⟨oJ_t j1.1 i1.1, hV, fun _ _ _ => rfl, by have := i1.2.2.2.1; omega, i1.2.2.2.2⟩, ?_, ?_⟩
        · intro fr b cn top la ρ0 G0 ρ G oa raa rda spa sta htsa FGa hC0 hL he F hF nx q TT hnx hle h80 hb1 hop hb2 hbq d K t hd hTt hT9 c1 c2
          refine cls fr b cn top la ρ0 G0 ρ G oa raa rda spa sta htsa FGa hC0 hL he F hF nx q TT hnx hle h80 hb1 hop hb2 hbq d K t hd hTt hT9 (fun _ ρ2 G2 t2 a1 a2 a3 a4 a5 a6 => ?_) (fun q => absurd rfl q)
          exact i2 fr b cn top la ρ0 G0 ρ2 G2 oa raa rda spa sta htsa FGa hC0 a1 a2 a3 a4 nx q TT a5 (o_le_t hle (j1.1.1 rfl)) h80 hb1 hop hb2 hbq d K t2 hd a6 hT9 c1 c2
        · intro f bg vc li LC ci CA tr hm hb1 hb2 d K hd hK
          refine mod f bg vc li LC ci CA tr hm hb1 hb2 d K hd (fun f2 m2 g2 => ?_)
          exact i3 f2 bg vc li LC ci CA tr m2 hb1 hb2 d K hd (fun f3 fe m3 g3 => hK f3 fe m3 (mF_t g2 g3))
      · refine ⟨e1, V, o1, ra1, rd1, sp1, st1, hts1, FG1, rfl, ⟨j1.1, hV, fun _ _ _ => rfl, by omega, hst2⟩, ?_, ?_⟩
        · intro fr b cn top la ρ0 G0 ρ G oa raa rda spa sta htsa FGa hC0 hL he' F hF nx q TT hnx hle h80 hb1 hop hb2 hbq d K t hd hTt hT9 c1 c2
          exact cls fr b cn top la ρ0 G0 ρ G oa raa rda spa sta htsa FGa hC0 hL he' F hF nx q TT hnx hle h80 hb1 hop hb2 hbq d K t hd hTt hT9 (fun q => absurd q he) c2
        · intro f bg vc li LC ci CA tr hm hb1 hb2 d K hd hK
          refine mod f bg vc li LC ci CA tr hm hb1 hb2 d K hd (fun f2 m2 g2 => ?_)
          have h70 : f2 1714 70 = e1 := m2.2.2.2.2.2.2.2.1
          have hp : ¬ nI (rv_l v) ≤ nI 0 := by rw [z_le (by omega) (by omega)]; omega
          exact w_m_isLooped_70 hM (z_br (fun _ => z_bf hp (hK f2 _ m2 g2)) (fun _ => z_bf (by rw [h70]; exact he) (z_bf hp (hK f2 _ m2 g2))))
end ZP
