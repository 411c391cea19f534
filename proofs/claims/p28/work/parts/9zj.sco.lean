/-! FRAMES WITH SCOPES pushed and taken off, with the whole picture of the class -/
/-- what pushing a frame, and laying its line, writes -/
def qW (top o : Nat) : Prop := o = 11 ∨ o = 707 + 4 * (top + 1) ∨ o = 708 + 4 * (top + 1)
section ZJ
variable {u : wo} {ρ ρ' ρ1 : Nat → Nat} {G G0 G1 G2 G' : mj_G} {W : Nat → Prop} {cur r nx p q m d t T l s k c r2 r3 x : Nat} {e kd : Int32} {K : Int32 → mj_G → Prop} {v : rv} {N : Nat} {B : Nat → Nat} {M : Nat} {S : Nat → Nat} {lc : Nat} {ln : Nat → Nat} {op : Nat} {ch : List en} {V : Nat → Nat → Option rv} {o : ost} {ra rd : Nat → Int32} {sp : Nat → Bool} {st hts : Nat} {FG : Nat → kfr} {V' : Nat → Nat → Option rv} {o' : ost} {ra' rd' : Nat → Int32} {sp' : Nat → Bool} {st' hts' : Nat} {FG' : Nat → kfr} {fr b cn : Nat → Nat} {top la : Nat}
theorem qW_im (ht : top < 199) {o : Nat} (h : qW top o) : ¬ im_o o := by
  unfold qW at h
  unfold im_o
  omega
theorem fr_ge {D : Nat → rv} (hE : ce ρ D G N B V fr b cn) : ∀ {s : Nat}, s < N → s ≤ fr s
  | 0, _ => Nat.zero_le _
  | s + 1, hs => by
    have h1 := fr_ge hE (s := s) (by omega)
    have h2 := ((hE.2 (s + 1) hs).2.2.1 s (Nat.lt_succ_self s)).1
    omega
/-- scopes that are the same -/
theorem ce_cg {D : Nat → rv} {N' : Nat} {B' fr' b' cn' : Nat → Nat} (hE : ce ρ D G N' B' V' fr' b' cn') (hN : N ≤ N') (hs : ∀ s, s < N → B' s = B s ∧ fr' s = fr s ∧ b' s = b s ∧ cn' s = cn s ∧ ∀ l, V' s l = V s l) (hB : ∀ s, s < N → B s ≤ s) : ce ρ D G N B V fr b cn := by
  refine ⟨Nat.le_trans hN hE.1, fun s h => ?_⟩
  obtain ⟨g1, g2, g3, g4, g5, g6, g7, g8⟩ := hE.2 s (by omega)
  obtain ⟨i1, i2, i3, i4, i5⟩ := hs s h
  rw [i2] at g1 g4 g5 g6
  rw [i3, i4] at g2
  rw [i1] at g4
  rw [i3] at g5
  rw [i4] at g6
  rw [i3, i4] at g7 g8
  refine ⟨g1, g2, fun r hr => ?_, ?_, g5, g6, fun p p1 p2 => ?_, fun l v q => g8 l v (by rw [i5]; exact q)⟩
  · obtain ⟨j1, j2, j3, j4, -⟩ := hs r (by omega)
    have := g3 r hr
    rw [j2, i2, j3, j4, i3] at this
    exact this
  · rw [g4]
    unfold sf
    by_cases hb : B s = 0
    · rw [if_pos hb, if_pos hb]
    · rw [if_neg hb, if_neg hb, (hs (B s - 1) (by have := hB s h; omega)).2.1]
  · rcases g7 p p1 p2 with g | ⟨l, v, a1, a2, a3, a4⟩
    · exact Or.inl g
    · exact Or.inr ⟨l, v, a1, a2, by rw [← i5]; exact a3, a4⟩
theorem cu_cg {N' : Nat} {b' cn' : Nat → Nat} (hE : cu G N' b' cn') (hN : N ≤ N') (hs : ∀ s, s < N → b' s = b s ∧ cn' s = cn s) : cu G N b cn := fun s h p q p1 p2 q1 q2 e => by
  obtain ⟨i1, i2⟩ := hs s h
  exact hE s (by omega) p q (by omega) (by omega) (by omega) (by omega) e
/-- a frame with a scope -/
theorem CC_sco {bN la' op' lc' M' : Nat} {S' ln' : Nat → Nat} {ch' : List en} (hC : CC u ρ G N B M S lc ln op ch V o ra rd sp st hts FG fr b cn top la) (ht : top < 199) (hV : ∀ l, V N l = none) (hbN : bN = b (N - 1) + cn (N - 1)) (hh' : hh ρ' (u_D u) (u_I u) G') (he : ro_e ρ ρ' G) (F : fw ρ (qW top) G G') (c1 : mj_i G' 11 4 = nI (top + 1)) (c2 : mj_i G' 11 2 = nI bN)
    (e3 : mj_i G' (707 + 4 * (top + 1)) 3 = nI (top + 1)) (e4 : mj_i G' (707 + 4 * (top + 1)) 4 = sf fr x) (hx : x ≤ N) (e5 : mj_i G' (707 + 4 * (top + 1)) 5 = nI bN) (e6 : mj_i G' (707 + 4 * (top + 1)) 6 = nI 0) (e7 : mj_i G' (707 + 4 * (top + 1)) 7 = nI la') (hla : la' ≤ top + 1) (eL : fL G' la' lc' ln') (hlc : lc' ≤ 10) (e10 : chC (u_A u) (u_G u) fr G' ch' (top + 1) (mj_i G' (707 + 4 * (top + 1)) 10)) (hch : ∀ y, y ∈ ch' → en_x y ≤ N) (e11 : mj_i G' (707 + 4 * (top + 1)) 11 = kc (e_bh fr N (top + 1)) S' M') (e12 : mj_i G' (707 + 4 * (top + 1)) 12 = nI op') (hM : M' ≤ 12)
    (hk : ∀ k, k < M' → S' k < N + 1 ∧ (∀ j, j < k → S' j < S' k) ∧ 1 ≤ e_bh fr N (top + 1) (S' k) ∧ mj_i G' (707 + 4 * (e_bh fr N (top + 1) (S' k) - 1)) 11 = kc (e_bh fr N (top + 1)) S' k ∧ mj_i G' (707 + 4 * e_bh fr N (top + 1) (S' k)) 19 = ra' k ∧ mj_i G' (707 + 4 * e_bh fr N (top + 1) (S' k)) 20 = rd' k ∧ mj_i G' (707 + 4 * e_bh fr N (top + 1) (S' k)) 21 = bI (!sp' k)) :
    CC u ρ' G' (N + 1) (e_bh B N x) M' S' lc' ln' op' ch' V o ra' rd' sp' st hts FG (e_bh fr N (top + 1)) (e_bh b N bN) (e_bh cn N 0) (top + 1) la' ∧ fw ρ bW G G' ∧ FF ρ top cur G G' := by
  obtain ⟨h1, h2, h3, h4, h5, h5', hu, h8, h9⟩ := hC
  have hG := hh_n h1
  have hF : ∀ cur, FF ρ top cur G G' := fun cur => FF_push h1 F ht (fun o q => by unfold qW at q; omega)
  have nim : ∀ o, qW top o → ¬ im_o o := fun o q => qW_im ht q
  obtain ⟨s1, s2, s3, s4, s5, s6, s7, s8, s9, s10, s11, s12, s13, s14⟩ := h3
  have hce := ce_w h1 h4.1 F he (fun o q => ⟨nim o q, by unfold qW at q; omega⟩) (fun s hs => by have := s5 s hs; unfold qW; omega)
  have hcu := cu_w h1 h4.1 h4.2.1 F (fun o q => by unfold qW at q; omega)
  have hN199 : N < 200 := by
    have := fr_ge h4.1 (s := N - 1) (by omega)
    have := s5 (N - 1) (by omega)
    omega
  have frx : ∀ s, s < N → e_bh fr N (top + 1) s = fr s := fun s hs => if_neg (by omega)
  have frN : e_bh fr N (top + 1) N = top + 1 := if_pos rfl
  have hb3 : ∀ s, s < N → b s + cn s ≤ bN := fun s hs => by
    by_cases q : s = N - 1
    · rw [hbN, q]
      exact Nat.le_refl _
    · have := ((h4.1.2 (N - 1) (by omega)).2.2.1 s (by omega)).2
      omega
  have hb320 : bN ≤ 320 := by
    rw [hbN]
    exact (h4.1.2 (N - 1) (by omega)).2.1
  have cu' := cu_ext (bN := bN) hcu
  have hBB : ∀ s, s < N + 1 → e_bh B N x s ≤ s := fun s hs => by
    unfold e_bh
    by_cases q : s = N
    · rw [if_pos q]
      omega
    · rw [if_neg q]
      exact s13 s (by omega)
  -- scopes behind those that are do not matter
  have hce2 : ce ρ' (u_D u) G' N (fun s => if s < N then B s else 0) V fr b cn := ce_cg hce (Nat.le_refl _) (fun s hs => ⟨(if_pos hs).symm, rfl, rfl, rfl, fun _ => rfl⟩) (fun s hs => by
    rw [if_pos hs]
    exact s13 s hs)
  have ce1 := ce_ext (x := x) hce2 (fun s => by
    by_cases q : s < N
    · rw [if_pos q]
      exact s13 s q
    · rw [if_neg q]
      exact Nat.zero_le _) hN199 hV (show top + 1 < 200 by omega) (fun s hs => by have := s5 s hs; omega) hb3 hb320 hx e4 e5 e6
  have ce2 : ce ρ' (u_D u) G' (N + 1) (e_bh B N x) V (e_bh fr N (top + 1)) (e_bh b N bN) (e_bh cn N 0) := ce_cg ce1 (Nat.le_refl _) (fun s hs => ⟨by
    unfold e_bh
    by_cases q : s = N
    · rw [if_pos q, if_pos q]
    · rw [if_neg q, if_neg q]
      exact if_pos (by omega), rfl, rfl, rfl, fun _ => rfl⟩) hBB
  refine ⟨⟨hh', wC_f h1 h2 F he nim, ⟨by omega, by omega, hM, hla, fun s hs => ?_, ?_, e7, e11, e12, eL, hlc, chC_fr frx hch e10, hBB, fun k hk' => ?_⟩, ⟨ce2, cu', fun k hk' => ?_⟩, c1, ?_, uC_f h1 hu F (fun o q => by unfold qW at q; omega), (oD_f h1 h8 F (fun o q => by unfold qW at q; unfold oW; omega)).1, fgC_f h1 h9 F he (fun o q => ⟨nim o q, by unfold qW at q; unfold gW; omega⟩)⟩, fw_m F (fun o q => ⟨by unfold qW at q; omega, nim o q⟩), hF cur⟩
  · by_cases q : s = N
    · rw [q, frN]
      exact Nat.le_refl _
    · rw [frx s (by omega)]
      have := s5 s (by omega)
      omega
  · rw [e3, Nat.add_sub_cancel, frN]
  · obtain ⟨k1, k2, k3, k4, -⟩ := hk k hk'
    exact ⟨k1, k2, k3, k4⟩
  · obtain ⟨-, -, -, -, k5⟩ := hk k hk'
    exact k5
  · rw [c2, Nat.add_sub_cancel, show e_bh b N bN N = bN from if_pos rfl, show e_bh cn N 0 N = 0 from if_pos rfl]
    rfl
/-- the fragments that are open stay told -/
theorem CC_sk (hC : CC u ρ G N B M S lc ln op ch V o ra rd sp st hts FG fr b cn top la) (F : fw ρ (qW top) G G') (ht : top < 199) : ∀ k, k < M → S k < N + 1 ∧ (∀ j, j < k → S j < S k) ∧ 1 ≤ e_bh fr N (top + 1) (S k) ∧ mj_i G' (707 + 4 * (e_bh fr N (top + 1) (S k) - 1)) 11 = kc (e_bh fr N (top + 1)) S k ∧ mj_i G' (707 + 4 * e_bh fr N (top + 1) (S k)) 19 = ra k ∧ mj_i G' (707 + 4 * e_bh fr N (top + 1) (S k)) 20 = rd k ∧ mj_i G' (707 + 4 * e_bh fr N (top + 1) (S k)) 21 = bI (!sp k) := fun k hk => by
  obtain ⟨h1, h2, h3, h4, -⟩ := hC
  obtain ⟨s1, s2, s3, s4, s5, s6, s7, s8, s9, s10, s11, s12, s13, s14⟩ := h3
  obtain ⟨k1, k2, k3, k4⟩ := s14 k hk
  have frx : ∀ s, s < N → e_bh fr N (top + 1) s = fr s := fun s hs => if_neg (by omega)
  have hfk := s5 _ k1
  rw [frx _ k1]
  have e : ∀ i j, i ≤ top → mj_i G' (707 + 4 * i) j = mj_i G (707 + 4 * i) j := fun i j hi => ce_i h1 F (by omega) (by unfold qW; omega)
  obtain ⟨i1, i2, i3⟩ := h4.2.2 k hk
  refine ⟨by omega, k2, k3, ?_, (e _ _ hfk).trans i1, (e _ _ hfk).trans i2, (e _ _ hfk).trans i3⟩
  rw [e _ _ (by omega), k4]
  exact (kc_fr (fun _ _ => rfl) (fun j hj => frx _ (s14 j (by omega)).1)).symm
/-- what holds of outer scopes at any end of a body in a scope of its own -/
theorem dC_out {M' : Nat} {S' B' fr' b' cn' cn2 : Nat → Nat} (hd : dC u ρ G (N + 1) B' M' S' V' ra rd sp fr' b' cn2) (hcn : ∀ s, s ≠ N → cn2 s = cn' s) (hs : ∀ s, s < N → B' s = B s ∧ fr' s = fr s ∧ b' s = b s ∧ cn' s = cn s) (hV : ∀ s l, s < N → V' s l = V s l) (hB : ∀ s, s < N → B s ≤ s) (hMM : M ≤ M') (hSS : ∀ k, k < M → S' k = S k) (hSN : ∀ k, k < M → S k < N) : dC u ρ G N B M S V ra rd sp fr b cn := by
  obtain ⟨g1, g2, g3⟩ := hd
  refine ⟨ce_cg g1 (Nat.le_succ _) (fun s hsl => ⟨(hs s hsl).1, (hs s hsl).2.1, (hs s hsl).2.2.1, (hcn s (by omega)).trans (hs s hsl).2.2.2, fun l => hV s l hsl⟩) hB, cu_cg g2 (Nat.le_succ _) (fun s hsl => ⟨(hs s hsl).2.2.1, (hcn s (by omega)).trans (hs s hsl).2.2.2⟩), fun k hk => ?_⟩
  have := g3 k (by omega)
  rw [hSS k hk, (hs (S k) (hSN k hk)).2.1] at this
  exact this
/-- what failed in a body in a scope of its own, for the frames below -/
theorem rX_out {TT TT' la' op' lc' M' top2 t2 : Nat} {S' ln' B' fr' b' cn' cn2 : Nat → Nat} {ch' : List en} {o0 o1 o2 : ost} {ρ2 : Nat → Nat} (hh1 : hh ρ1 (u_D u) (u_I u) G1) (ht1 : top + 1 < 200) (he1 : ro_e ρ ρ1 G) (F1 : fw ρ bW G G1) (FF1 : FF ρ top (fr (N - 1)) G G1) (hk : mj_i G1 (707 + 4 * (top + 1)) 0 = kd) (hkd : ¬ e = Int32.ofInt (-9) → ¬ kd = nI 43) (hs : ∀ s, s < N → B' s = B s ∧ fr' s = fr s ∧ b' s = b s ∧ cn' s = cn s) (hfN : fr' N = top + 1) (hV : ∀ s l, s < N → V' s l = V s l) (hB : ∀ s, s < N → B s ≤ s) (hMM : M ≤ M') (hSS : ∀ k, k < M → S' k = S k) (hSN : ∀ k, k < M → S k < N) (hle : o_le o0 o1) (hTT : TT ≤ TT')
    (h : rX u ρ1 G1 o1 e (N + 1) B' M' S' lc' ln' op' ch' V' o2 ra rd sp st hts FG fr' b' cn' (top + 1) la' TT ρ2 G2 cn2 top2 t2) : rX u ρ G o0 e N B M S lc ln op ch V o2 ra rd sp st hts FG fr b cn top la TT' ρ2 G2 cn top2 t2 := by
  obtain ⟨b1, b2, b3, b4, b5, b6, b7, b8, b9, b10, b11, b12, b13, b14, b15, b16⟩ := h
  have he2 : ro_e ρ ρ2 G := fun a ha => (b12 a (Nat.lt_of_lt_of_le ha F1.1)).trans (he1 a ha)
  have kd2 : mj_i G2 (707 + 4 * (top + 1)) 0 = kd := (FF_i b14 hh1 (Nat.le_refl _) ht1 (by decide)).trans hk
  refine ⟨b1, b2, dC_out b3 (fun s hsn => b15 s (by rw [Nat.add_sub_cancel]; exact hsn)) hs hV hB hMM hSS hSN, b4, b5, o_le_t hle b6, b7, b8, by omega, b10, fun hq i hi1 hi2 => ?_, he2, fw_t F1 he1 b13, FF_t FF1 he1 F1.1 (FF_lo b14 ht1 (Nat.lt_succ_self _) (Or.inr ⟨by rw [Nat.add_sub_cancel, hfN]; omega, by rw [Nat.add_sub_cancel, hfN]; exact ht1⟩)), fun _ _ => rfl, by omega⟩
  by_cases hi : i = top + 1
  · rw [hi, kd2]
    exact hkd hq
  · exact b11 hq i (by omega) hi2
/-- a frame with a scope taken off -/
theorem CC_popS {la' op' lc' M' : Nat} {S' ln' B' fr' b' cn2 : Nat → Nat} {ch' : List en} {o0 : ost} {ra0 rd0 : Nat → Int32} {sp0 : Nat → Bool} {st0 hts0 : Nat} {FG0 : Nat → kfr} {G3 : mj_G} (hC0 : CC u ρ G N B M S lc ln op ch V o0 ra0 rd0 sp0 st0 hts0 FG0 fr b cn top la) (hV : ∀ s l, s < N → V' s l = V s l) (hs : ∀ s, s < N → B' s = B s ∧ fr' s = fr s ∧ b' s = b s ∧ cn2 s = cn s) (hMM : M ≤ M') (hSS : ∀ k, k < M → S' k = S k) (he2 : ro_e ρ ρ' G) (hn : mj_n G ≤ mj_n G2) (FF2 : FF ρ top (fr (N - 1)) G G2)
    (hC2 : CC u ρ' G2 (N + 1) B' M' S' lc' ln' op' ch' V' o' ra' rd' sp' st' hts' FG' fr' b' cn2 (top + 1) la') (i1 : hh ρ' (u_D u) (u_I u) G3) (i2 : fw ρ' (fun o => o = 11) G2 G3) (i3 : mj_i G3 11 4 = nI top) (i4 : mj_i G3 11 2 = nI (b (N - 1) + cn (N - 1))) (i5 : ∀ x j, x ≠ 11 → mj_i G3 x j = mj_i G2 x j) (i6 : ∀ x j, mj_r G3 x j = mj_r G2 x j) : CC u ρ' G3 N B M S lc ln op ch V o' ra' rd' sp' st' hts' FG' fr b cn top la ∧ FF ρ top (fr (N - 1)) G G3 := by
  have hB0 : ∀ s, s < N → B s ≤ s := hC0.2.2.1.2.2.2.2.2.2.2.2.2.2.2.2.1
  have hSN : ∀ k, k < M → S k < N := fun k hk => (hC0.2.2.1.2.2.2.2.2.2.2.2.2.2.2.2.2 k hk).1
  have hh0 := hC0.1
  obtain ⟨g1, g2, g3, g4, g6, g6', gu, g8, g9⟩ := hC2
  have d2 := dC_out (cn' := cn2) g4 (fun s _ => rfl) hs hV hB0 hMM hSS hSN
  have hG2 := hh_n g1
  have FF3 : FF ρ top (fr (N - 1)) G G3 := FF_t FF2 he2 hn (fun a ha h7 h8 => ⟨fun j _ => i6 a j, fun j _ _ => i5 a j (fun q => by
    rw [q, ow_s (by decide)] at h7
    omega)⟩)
  exact ⟨⟨i1, wC_f g1 g2 i2 ro_r (fun o q => fw11 q), sC_F FF3 hh0 hC0.2.2.1, ⟨ce_w g1 d2.1 i2 ro_r (fun o q => ⟨fw11 q, by omega⟩) (fun s _ => by omega), cu_w g1 d2.1 d2.2.1 i2 (fun o q => by omega), fun k hk => by rw [i5 _ _ (by omega), i5 _ _ (by omega), i5 _ _ (by omega)]; exact d2.2.2 k hk⟩, i3, i4, uC_f g1 gu i2 (fun o q => by omega), (oD_f g1 g8 i2 (fun o q => by unfold oW; omega)).1, fgC_f g1 g9 i2 ro_r (fun o q => ⟨fw11 q, by unfold gW; omega⟩)⟩, FF3⟩
/-- a body in a frame with a scope, once that is pushed; what happens when it fails is open -/
theorem sc_N {r8 p8 q8 q TT la' op' lc' M' : Nat} {S' ln' B' fr' b' cn' : Nat → Nat} {ch' : List en} {o0 : ost} {ra0 rd0 : Nat → Int32} {sp0 : Nat → Bool} {st0 hts0 : Nat} {FG0 : Nat → kfr} {o1 : ost} {ra1 rd1 : Nat → Int32} {sp1 : Nat → Bool} {V1 : Nat → Nat → Option rv} (hC0 : CC u ρ G N B M S lc ln op ch V o0 ra0 rd0 sp0 st0 hts0 FG0 fr b cn top la) (hnx : mj_r G1 (707 + 4 * top) 2 = nx) (hV : ∀ s l, s < N → V' s l = V s l)
    (hC1 : CC u ρ1 G1 (N + 1) B' M' S' lc' ln' op' ch' V1 o1 ra1 rd1 sp1 st hts FG fr' b' cn' (top + 1) la') (he1 : ro_e ρ ρ1 G) (F1 : fw ρ bW G G1) (FF1 : FF ρ top (fr (N - 1)) G G1) (nx1 : mj_r G1 (707 + 4 * (top + 1)) 2 = r8) (hk : mj_i G1 (707 + 4 * (top + 1)) 0 = kd) (hkd : ¬ kd = nI 42 ∧ ¬ kd = nI 107) (hs : ∀ s, s < N → B' s = B s ∧ fr' s = fr s ∧ b' s = b s ∧ cn' s = cn s) (hfN : fr' N = top + 1) (hbN : b' N = b (N - 1) + cn (N - 1)) (hcN : cn' N ≤ 3) (hMM : M ≤ M') (hSS : ∀ k, k < M → S' k = S k)
    (h : sgC u (N + 1) B' M' S' lc' ln' op' ch' V1 o1 ra1 rd1 sp1 st hts FG r8 p8 0 q8 e V' o' ra' rd' sp' st' hts' FG') (h80 : q8 ≤ 80) (hb1 : 7 * (top + 1) + (q8 - p8) ≤ 84 * op' + 80) (hop : op' ≤ 12) (hb2 : 5 * (b (N - 1) + cn (N - 1) + cn' N) ≤ 95 * op' + p8) (hbq : 5 * (b (N - 1) + cn (N - 1)) ≤ 95 * op + q) (hd : 299 ≤ d) (hTT : t + 1 + 100 * (2000 - st) + (q8 - p8) ≤ TT) (hT9 : TT ≤ 900000)
    (c1 : e = nI 0 → ∀ ρ' G' t', rN u ρ G N B M S lc ln op ch V o' ra' rd' sp' st' hts' FG' fr b cn top la nx q TT ρ' G' cn t' → lp (d + 1) K t' G')
    (c2 : ¬ e = nI 0 → ∀ o2 ρ2 G2 cn2 top2 t2, rX u ρ1 G1 o1 e (N + 1) B' M' S' lc' ln' op' ch' V' o2 ra' rd' sp' st' hts' FG' fr' b' cn' (top + 1) la' (t + 100 * (2000 - st) + (q8 - p8)) ρ2 G2 cn2 top2 t2 → lf (d + 1) K t2 e G2) : lp (d + 1) K t G1 := by
  have htop := hC0.2.2.1.2.1
  have ht1 := hC1.2.2.1.2.1
  have hN1 := hC0.2.2.1.1
  have hh0 := hC0.1
  have hG := hh_n hh0
  have hB0 : ∀ s, s < N → B s ≤ s := hC0.2.2.1.2.2.2.2.2.2.2.2.2.2.2.2.1
  have hSN : ∀ k, k < M → S k < N := fun k hk => (hC0.2.2.1.2.2.2.2.2.2.2.2.2.2.2.2.2 k hk).1
  refine h fr' b' cn' (top + 1) la' ρ1 G1 hC1 nx1 q8 (Nat.le_refl _) h80 hb1 (by rw [Nat.add_sub_cancel, hbN]; exact hb2) (d + 1) K t (by omega) (by omega) (fun he => ?_) c2
  intro ρ2 G2 cn2 t2 ⟨b1, b2, b3, b4, b5, b6, b7, b8⟩
  have he2 : ro_e ρ ρ2 G := fun a ha => (b2 a (Nat.lt_of_lt_of_le ha F1.1)).trans (he1 a ha)
  have FF2 : FF ρ top (fr (N - 1)) G G2 := FF_t FF1 he1 F1.1 (FF_lo b4 ht1 (Nat.lt_succ_self _) (Or.inr ⟨by rw [Nat.add_sub_cancel, hfN]; omega, by rw [Nat.add_sub_cancel, hfN]; exact ht1⟩))
  have kd2 : mj_i G2 (707 + 4 * (top + 1)) 0 = kd := (FF_i b4 hC1.1 (Nat.le_refl _) ht1 (by decide)).trans hk
  refine lp_end b1 b5 kd2 hkd.1 hkd.2 (by omega) (fun G3 i1 i2 i3 i4 i5 i6 => ?_)
  have sc : mj_i G2 (707 + 4 * (top + 1)) 3 = nI (top + 1) := by
    rw [b1.2.2.1.2.2.2.2.2.1, Nat.add_sub_cancel, hfN]
  have g5 : mj_i G2 (707 + 4 * (top + 1)) 5 = nI (b (N - 1) + cn (N - 1)) := by
    have := (b1.2.2.2.1.1.2 N (Nat.lt_succ_self _)).2.2.2.2.1
    rw [hfN, hbN] at this
    exact this
  rw [if_pos sc, g5] at i4
  have hs2 : ∀ s, s < N → B' s = B s ∧ fr' s = fr s ∧ b' s = b s ∧ cn2 s = cn s := fun s hsl => ⟨(hs s hsl).1, (hs s hsl).2.1, (hs s hsl).2.2.1, (b6 s (by rw [Nat.add_sub_cancel]; omega)).trans (hs s hsl).2.2.2⟩
  obtain ⟨CC3, FF3⟩ := CC_popS hC0 hV hs2 hMM hSS he2 (Nat.le_trans F1.1 b3.1) FF2 b1 i1 i2 i3 i4 i5 i6
  have F3 : fw ρ bW G G3 := fw_t (fw_t F1 he1 b3) he2 (fw_m i2 (fun o q => ⟨by omega, fw11 q⟩))
  have nx3 : mj_r G3 (707 + 4 * top) 2 = nx := by
    rw [i6]
    have e1 := (b4 (707 + 4 * top) (by have := F1.1; omega) (by rw [ow_s (by omega)]; omega) (by rw [ow_s (by omega)]; omega)).1 2 (fun q => by have := q.1; omega)
    rw [e1]
    exact hnx
  exact c1 he ρ2 G3 (t2 + 1) ⟨CC3, he2, F3, FF3, nx3, fun _ _ => rfl, by omega, hbq⟩
/-- a body in a frame with a scope, once that is pushed -/
theorem sc_C {r8 p8 q8 q TT la' op' lc' M' : Nat} {S' ln' B' fr' b' cn' : Nat → Nat} {ch' : List en} {o0 : ost} {ra0 rd0 : Nat → Int32} {sp0 : Nat → Bool} {st0 hts0 : Nat} {FG0 : Nat → kfr} {o1 : ost} {ra1 rd1 : Nat → Int32} {sp1 : Nat → Bool} {V1 : Nat → Nat → Option rv} (hC0 : CC u ρ G N B M S lc ln op ch V o0 ra0 rd0 sp0 st0 hts0 FG0 fr b cn top la) (hnx : mj_r G1 (707 + 4 * top) 2 = nx) (hV : ∀ s l, s < N → V' s l = V s l)
    (hC1 : CC u ρ1 G1 (N + 1) B' M' S' lc' ln' op' ch' V1 o1 ra1 rd1 sp1 st hts FG fr' b' cn' (top + 1) la') (he1 : ro_e ρ ρ1 G) (F1 : fw ρ bW G G1) (FF1 : FF ρ top (fr (N - 1)) G G1) (nx1 : mj_r G1 (707 + 4 * (top + 1)) 2 = r8) (hk : mj_i G1 (707 + 4 * (top + 1)) 0 = kd) (hkd : ¬ kd = nI 42 ∧ ¬ kd = nI 107 ∧ ¬ kd = nI 43) (hs : ∀ s, s < N → B' s = B s ∧ fr' s = fr s ∧ b' s = b s ∧ cn' s = cn s) (hfN : fr' N = top + 1) (hbN : b' N = b (N - 1) + cn (N - 1)) (hcN : cn' N ≤ 3) (hMM : M ≤ M') (hSS : ∀ k, k < M → S' k = S k)
    (h : sgC u (N + 1) B' M' S' lc' ln' op' ch' V1 o1 ra1 rd1 sp1 st hts FG r8 p8 0 q8 e V' o' ra' rd' sp' st' hts' FG') (hle : o_le o0 o1) (h80 : q8 ≤ 80) (hb1 : 7 * (top + 1) + (q8 - p8) ≤ 84 * op' + 80) (hop : op' ≤ 12) (hb2 : 5 * (b (N - 1) + cn (N - 1) + cn' N) ≤ 95 * op' + p8) (hbq : 5 * (b (N - 1) + cn (N - 1)) ≤ 95 * op + q) (hd : 299 ≤ d) (hTT : t + 1 + 100 * (2000 - st) + (q8 - p8) ≤ TT) (hT9 : TT ≤ 900000)
    (c1 : e = nI 0 → ∀ ρ' G' t', rN u ρ G N B M S lc ln op ch V o' ra' rd' sp' st' hts' FG' fr b cn top la nx q TT ρ' G' cn t' → lp (d + 1) K t' G') (c2 : ¬ e = nI 0 → ∀ o2 ρ' G' cn' top' t', rX u ρ G o0 e N B M S lc ln op ch V o2 ra' rd' sp' st' hts' FG' fr b cn top la TT ρ' G' cn' top' t' → lf (d + 1) K t' e G') : lp (d + 1) K t G1 :=
  sc_N hC0 hnx hV hC1 he1 F1 FF1 nx1 hk ⟨hkd.1, hkd.2.1⟩ hs hfN hbN hcN hMM hSS h h80 hb1 hop hb2 hbq hd hTT hT9 c1 (fun he o2 ρ2 G2 cn2 top2 t2 hX => c2 he o2 ρ2 G2 cn top2 t2 (rX_out hC1.1 hC1.2.2.1.2.1 he1 F1 FF1 hk (fun _ => hkd.2.2) hs hfN hV hC0.2.2.1.2.2.2.2.2.2.2.2.2.2.2.2.1 hMM hSS (fun k hk => (hC0.2.2.1.2.2.2.2.2.2.2.2.2.2.2.2.2 k hk).1) hle (by omega) hX))
end ZJ
