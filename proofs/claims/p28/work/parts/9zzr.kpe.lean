/-! FRAGMENTS by the class: a body, and its end -/
section ZZR
variable {u : wo} {ρ ρ' ρ0 ρ1 : Nat → Nat} {D : Nat → rv} {I I0 : Nat → Nat → rv} {G G0 G1 G2 G' : mj_G} {W : Nat → Prop} {cur a d i j l p q r t T nx : Nat} {e : Int32} {K : Int32 → mj_G → Prop} {k : kfr} {N : Nat} {B : Nat → Nat} {M : Nat} {S : Nat → Nat} {lc : Nat} {ln : Nat → Nat} {op : Nat} {ch : List en} {V : Nat → Nat → Option rv} {o : ost} {ra rd : Nat → Int32} {sp : Nat → Bool} {st hts : Nat} {FG : Nat → kfr} {V' : Nat → Nat → Option rv} {o' : ost} {ra' rd' : Nat → Int32} {sp' : Nat → Bool} {st' hts' : Nat} {FG' : Nat → kfr} {fr b cn : Nat → Nat} {top la : Nat}
/-- the frame on top cut -/
theorem c_cut1 {K : mj_G → Prop} (h : hh ρ D I G) (h11 : mj_i G 11 4 = nI (top + 1)) (ht : top + 1 < 200) (h3 : mj_i G (707 + 4 * (top + 1)) 3 = nI (top + 1)) (hK : ∀ G', hh ρ D I G' → fw ρ (fun o => o = 11) G G' → mj_i G' 11 4 = nI top → mj_i G' 11 2 = mj_i G (707 + 4 * (top + 1)) 5 → (∀ x j, x ≠ 11 → mj_i G' x j = mj_i G x j) → (∀ x j, mj_r G' x j = mj_r G x j) → K G') : St_cut d (mj_i G 11 4) G K := by
  rw [h11]
  refine c_cut (at' := top + 1) (fl := fun i => if i = top + 1 then mj_i G (707 + 4 * (top + 1)) 5 else mj_i G 11 2) h h11 ht (Nat.le_succ _) (if_neg (by omega)).symm (fun i h1 h2 => ?_) (fun G' a1 a2 a3 a4 a5 a6 a7 => hK G' a1 a2 a3 (a4.trans (if_pos rfl)) a6 a7)
  have hi : i = top + 1 := by omega
  subst hi
  exact ⟨fun _ => if_pos rfl, fun q => absurd h3 q⟩
/-- the body of a fragment, once its frame is pushed -/
theorem sc_K {r8 p8 q8 q TT op' : Nat} {o0 : ost} {ra0 rd0 ra1 rd1 : Nat → Int32} {sp0 sp1 : Nat → Bool} {st0 hts0 : Nat} {FG0 : Nat → kfr} (hu : uP u) (hC0 : CC u ρ G N B M S lc ln op ch V o0 ra0 rd0 sp0 st0 hts0 FG0 fr b cn top la) (hnx : mj_r G1 (707 + 4 * top) 2 = nx) (hpV : pV u N V) (hV : ∀ s l, s < N → V' s l = V s l) (hB' : ∀ s, B s ≤ s) (hT : T < 10) (hp : p < 80) (hpr : (p, r) ∈ u_L u T) (hi : i < 10) (hA : u_A u r) (hr0 : r ≠ 0) (hr6 : mj_k (u_G u) r = 6) (hi3 : mj_i (u_G u) r 3 = nI i)
    (hC1 : CC u ρ G1 (N + 1) (e_bh B N N) (M + 1) (g_u S M N) lc ln op' ch V o ra1 rd1 sp1 st hts FG (e_bh fr N (top + 1)) (e_bh b N (b (N - 1) + cn (N - 1))) (e_bh cn N 0) (top + 1) la) (F1 : fw ρ bW G G1) (FF1 : FF ρ top (fr (N - 1)) G G1) (nx1 : mj_r G1 (707 + 4 * (top + 1)) 2 = r8) (hk : mj_i G1 (707 + 4 * (top + 1)) 0 = nI 107) (h1 : mj_r G1 (707 + 4 * (top + 1)) 1 = r) (h15 : mj_i G1 (707 + 4 * (top + 1)) 15 = nI (o_n o)) (h16 : mj_i G1 (707 + 4 * (top + 1)) 16 = bI (o_w o))
    (h : sgC u (N + 1) (e_bh B N N) (M + 1) (g_u S M N) lc ln op' ch V o ra1 rd1 sp1 st hts FG r8 p8 0 q8 e V' o' ra' rd' sp' st' hts' FG') (hgr : e = nI 0 → sp' M = false → o_gr o o') (h80 : q8 ≤ 80) (hb1 : 7 * (top + 1) + (q8 - p8) ≤ 84 * op' + 80) (hop : op' ≤ 12) (hb2 : 5 * (b (N - 1) + cn (N - 1)) ≤ 95 * op' + p8) (hbq : 5 * (b (N - 1) + cn (N - 1)) ≤ 95 * op + q) (hd : 299 ≤ d) (hTT : t + 1 + 100 * (2000 - st) + (q8 - p8) ≤ TT) (hT9 : TT ≤ 900000)
    (c1 : e = nI 0 → ∀ ρ' G' t', rN u ρ G N B M S lc ln op ch V o' ra' rd' sp' st' hts' (if sp' M = true then FG' else g_u FG' i (k_nw u T p r lc ln (o_n o) (o_w o) o' (ra' M) (rd' M) N B V)) fr b cn top la nx q TT ρ' G' cn t' → lp (d + 1) K t' G') (c2 : ¬ e = nI 0 → ∀ o2 ρ' G' cn' top' t', rX u ρ G o e N B M S lc ln op ch V o2 ra' rd' sp' st' hts' FG' fr b cn top la TT ρ' G' cn' top' t' → lf (d + 1) K t' e G') : lp (d + 1) K t G1 := by
  have htop := hC0.2.2.1.2.1
  have ht1 := hC1.2.2.1.2.1
  have hN1 := hC0.2.2.1.1
  have hh0 := hC0.1
  have hG := hh_n hh0
  have hSN : ∀ k, k < M → S k < N := fun k hk => (hC0.2.2.1.2.2.2.2.2.2.2.2.2.2.2.2.2 k hk).1
  have hB0 : ∀ s, s < N → B s ≤ s := fun s _ => hB' s
  have hfN : e_bh fr N (top + 1) N = top + 1 := if_pos rfl
  have hs : ∀ s, s < N → e_bh B N N s = B s ∧ e_bh fr N (top + 1) s = fr s ∧ e_bh b N (b (N - 1) + cn (N - 1)) s = b s ∧ e_bh cn N 0 s = cn s := fun s hsl => ⟨if_neg (by omega), if_neg (by omega), if_neg (by omega), if_neg (by omega)⟩
  have hSS : ∀ k, k < M → g_u S M N k = S k := fun k hk => g_un (by omega)
  refine h (e_bh fr N (top + 1)) (e_bh b N (b (N - 1) + cn (N - 1))) (e_bh cn N 0) (top + 1) la ρ G1 hC1 nx1 q8 (Nat.le_refl _) h80 hb1 (by rw [Nat.add_sub_cancel, show e_bh b N (b (N - 1) + cn (N - 1)) N = b (N - 1) + cn (N - 1) from if_pos rfl, show e_bh cn N 0 N = 0 from if_pos rfl]; exact hb2) (d + 1) K t (by omega) (by omega) (fun he => ?_) (fun he o2 ρ2 G2 cn2 top2 t2 hX => c2 he o2 ρ2 G2 cn top2 t2 (rX_out hC1.1 ht1 ro_r F1 FF1 hk (fun _ => by decide) hs hfN hV hB0 (Nat.le_succ M) hSS hSN o_le_r (by omega) hX))
  intro ρ2 G2 cn2 t2 ⟨b1, b2, b3, b4, b5, b6, b7, b8⟩
  have he2 : ro_e ρ ρ2 G := fun a ha => b2 a (Nat.lt_of_lt_of_le ha F1.1)
  have FF2 : FF ρ top (fr (N - 1)) G G2 := FF_t FF1 ro_r F1.1 (FF_lo b4 ht1 (Nat.lt_succ_self _) (Or.inr ⟨by rw [Nat.add_sub_cancel, hfN]; omega, by rw [Nat.add_sub_cancel, hfN]; exact ht1⟩))
  have kd2 : mj_i G2 (707 + 4 * (top + 1)) 0 = nI 107 := (FF_i b4 hC1.1 (Nat.le_refl _) ht1 (by decide)).trans hk
  have e15 : mj_i G2 (707 + 4 * (top + 1)) 15 = nI (o_n o) := (FF_i b4 hC1.1 (Nat.le_refl _) ht1 (by decide)).trans h15
  have e16 : mj_i G2 (707 + 4 * (top + 1)) 16 = bI (o_w o) := (FF_i b4 hC1.1 (Nat.le_refl _) ht1 (by decide)).trans h16
  have tg2 : mj_r G2 (707 + 4 * (top + 1)) 1 = r := (FF_p b4 hC1.1 (Nat.le_refl _) ht1 (fun _ => by decide)).trans h1
  have nxt2 : mj_r G2 (707 + 4 * top) 2 = nx := by
    have e1 := (b4 (707 + 4 * top) (by have := F1.1; omega) (by rw [ow_s (by omega)]; omega) (by rw [ow_s (by omega)]; omega)).1 2 (fun q => by have := q.1; omega)
    rw [e1]
    exact hnx
  have hs2 : ∀ s, s < N → e_bh B N N s = B s ∧ e_bh fr N (top + 1) s = fr s ∧ e_bh b N (b (N - 1) + cn (N - 1)) s = b s ∧ cn2 s = cn s := fun s hsl => ⟨(hs s hsl).1, (hs s hsl).2.1, (hs s hsl).2.2.1, (b6 s (by rw [Nat.add_sub_cancel]; omega)).trans (hs s hsl).2.2.2⟩
  -- how it ends, whether it is kept or not
  have fin : ∀ (ρ3 : Nat → Nat) (G3 : mj_G) (FG3 : Nat → kfr), CC u ρ3 G3 (N + 1) (e_bh B N N) (M + 1) (g_u S M N) lc ln op' ch V' o' ra' rd' sp' st' hts' FG3 (e_bh fr N (top + 1)) (e_bh b N (b (N - 1) + cn (N - 1))) cn2 (top + 1) la → ro_e ρ ρ3 G → fw ρ bW G G3 → FF ρ top (fr (N - 1)) G G3 → mj_r G3 (707 + 4 * top) 2 = nx → FG3 = (if sp' M = true then FG' else g_u FG' i (k_nw u T p r lc ln (o_n o) (o_w o) o' (ra' M) (rd' M) N B V)) → St_cut d (mj_i G3 11 4) G3 (fun G12 => mm_br ((nI 0) = (nI 0)) (Rn_run_33 (d + 1 + 1) (nI 0) (nI t2 + nI 1) G12 K) (Rn_rescue (d + 1) (nI 0) G12 (fun v21 G20 => Rn_run_33 (d + 1 + 1) v21 (nI t2 + nI 1) G20 K))) := fun ρ3 G3 FG3 hC3 he3 F3 FF3 nx3 hFG => by
    have sc : mj_i G3 (707 + 4 * (top + 1)) 3 = nI (top + 1) := by
      rw [hC3.2.2.1.2.2.2.2.2.1, Nat.add_sub_cancel, hfN]
    have g5 : mj_i G3 (707 + 4 * (top + 1)) 5 = nI (b (N - 1) + cn (N - 1)) := by
      have := (hC3.2.2.2.1.1.2 N (Nat.lt_succ_self _)).2.2.2.2.1
      rw [hfN, show e_bh b N (b (N - 1) + cn (N - 1)) N = b (N - 1) + cn (N - 1) from if_pos rfl] at this
      exact this
    refine c_cut1 hC3.1 hC3.2.2.2.2.1 ht1 sc (fun G4 i1 i2 i3 i4 i5 i6 => z_bt rfl ?_)
    obtain ⟨CC4, FF4⟩ := CC_popS hC0 hV hs2 (Nat.le_succ M) hSS he3 F3.1 FF3 hC3 i1 i2 i3 (i4.trans g5) i5 i6
    rw [hFG] at CC4
    rw [z_add]
    exact c1 he ρ3 G4 (t2 + 1) ⟨CC4, he3, fw_t F3 he3 (fw_m i2 (fun o q => ⟨by omega, fw11 q⟩)), FF4, (i6 _ _).trans nx3, fun _ _ => rfl, by omega, hbq⟩
  have F2 : fw ρ bW G G2 := fw_t F1 ro_r b3
  have dd := b1.2.2.2.1.2.2 M (Nat.lt_succ_self M)
  rw [g_us, hfN] at dd
  obtain ⟨dd1, dd2, dd3⟩ := dd
  refine w_Rn_run_33 b1.1.1 (z_bf (by rw [z_le (by omega) (by omega)]; omega) (z_bt rfl ?_))
  rw [b1.2.2.2.2.1]
  refine z_bf (by rw [z_lt (by omega) (by omega)]; omega) (z_ixi ht1 (by omega) (z_bt b5 ?_))
  refine w_Rn_end b1.1.1 ⟨cs_g14 b1.1.1 ht1, ?_⟩
  rw [kd2]
  refine z_bf (by decide) (z_bt rfl ?_)
  rw [dd3]
  by_cases hsp : sp' M = true
  · refine z_bt (by rw [hsp]; rfl) ?_
    exact fin ρ2 G2 FG' b1 he2 F2 FF2 nxt2 (if_pos hsp).symm
  · have hsf : sp' M = false := Bool.eq_false_iff.mpr hsp
    have og := hgr he hsf
    obtain ⟨A1, A2, A3⟩ := wC_A b1.2.1 hA
    rw [tg2, A3 3, hi3]
    refine z_bf (by rw [hsf]; decide) ⟨A1.trans hr6, z_bf (by rw [z_lt (by omega) (by omega)]; omega) (z_ixi hi (by omega) ?_)⟩
    have hs3 := b1.2.2.1
    refine c_lineFrame b1.1.1 b1.2.2.2.2.1 ht1 hs3.2.2.2.2.2.2.1 (by have := hs3.2.2.2.1; omega) ⟨cs_g9 b1.1.1 hi, ?_⟩
    have hdo := dC_out b1.2.2.2.1 (cn' := cn2) (fun s _ => rfl) hs2 hV hB0 (Nat.le_succ M) hSS hSN
    have e4 : mj_i G2 (707 + 4 * (top + 1)) 4 = sf fr N := by
      have := (b1.2.2.2.1.1.2 N (Nat.lt_succ_self _)).2.2.2.1
      rw [hfN, show e_bh B N N N = N from if_pos rfl, sf_x (Nat.le_refl N)] at this
      exact this
    refine c_keepF (bb := b) (N2 := N) (V2 := V) (B2 := B) (fr2 := fr) (b2 := b) (cn2 := cn) (T := T) (p := p) (n0 := o_n o) (w0 := o_w o) (xa := ra' M) (xd := rd' M) hu b1 hdo.1 hB' (fun s l v q => (hpV s l v q).2.2) hT hp hr0 hi tg2 e4 e15 e16 dd1 dd2 og.1 (by omega) (fun ρ3 G3 k1 k2 k3 k4 => ?_)
    obtain ⟨C3, F3, Q3⟩ := CC_new (cur := fr (N - 1)) b1 hi k1 k3 k2 k4 (fun _ => hpr)
    have he3 : ro_e ρ ρ3 G := ro_t he2 F2.1 k2
    refine fin ρ3 G3 _ C3 he3 (fw_t F2 he2 F3) (FF_t FF2 he2 F2.1 (FF_lo Q3 ht1 (Nat.lt_succ_self _) (Or.inl rfl))) ?_ (if_neg hsp).symm
    have e1 := (Q3 (707 + 4 * top) (by have := F2.1; omega) (by rw [ow_s (by omega)]; omega) (by rw [ow_s (by omega)]; omega)).1 2 (fun q => by have := q.1; omega)
    rw [e1]
    exact nxt2
end ZZR
