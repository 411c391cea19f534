/-! FRAMES pushed and taken off, with the whole picture of the class -/
section ZH
variable {u : wo} {ρ ρ' ρ1 : Nat → Nat} {G G0 G1 G2 G' : mj_G} {W : Nat → Prop} {cur r nx p q m d t T l s k c r2 r3 x : Nat} {e kd : Int32} {K : Int32 → mj_G → Prop} {v : rv} {N : Nat} {B : Nat → Nat} {M : Nat} {S : Nat → Nat} {lc : Nat} {ln : Nat → Nat} {op : Nat} {ch : List en} {V : Nat → Nat → Option rv} {o : ost} {ra rd : Nat → Int32} {sp : Nat → Bool} {st hts : Nat} {FG : Nat → kfr} {V' : Nat → Nat → Option rv} {o' : ost} {ra' rd' : Nat → Int32} {sp' : Nat → Bool} {st' hts' : Nat} {FG' : Nat → kfr} {fr b cn : Nat → Nat} {top la : Nat}
theorem chC_m {A : Nat → Prop} {G0 : mj_G} {L : List en} : ∀ {m m' : Nat} {z : Int32}, m ≤ m' → chC A G0 fr G L m z → chC A G0 fr G L m' z := by
  induction L with
  | nil => exact fun _ h => h
  | cons y L ih =>
    intro m m' z hm ⟨a, la, tg, h1, h2⟩
    exact ⟨a, la, tg, by omega, h2⟩
/-- the calls by frames that are the same where it matters -/
theorem chC_fr {A : Nat → Prop} {G0 : mj_G} {fr' : Nat → Nat} {L : List en} (hf : ∀ s, s < N → fr' s = fr s) : ∀ {m : Nat} {z : Int32}, (∀ y, y ∈ L → en_x y ≤ N) → chC A G0 fr G L m z → chC A G0 fr' G L m z := by
  induction L with
  | nil => exact fun _ h => h
  | cons y L ih =>
    intro m z hN ⟨a, la, tg, h1, h2, h3, h4, h5, h6, h7, h8, h9, h10⟩
    refine ⟨a, la, tg, h1, h2, h3, h4, h5, h6, h7, h8, ?_, h10.1, h10.2.1, h10.2.2.1, ih (fun z hz => hN z (List.mem_cons_of_mem _ hz)) h10.2.2.2⟩
    rw [h9, hf _ (by have := hN y (List.mem_cons_self ..); omega)]
theorem kc_fr {fr' S' : Nat → Nat} {k : Nat} (hS : ∀ j, j < k → S' j = S j) (hf : ∀ j, j < k → fr' (S j) = fr (S j)) : kc fr' S' k = kc fr S k := by
  unfold kc
  by_cases h : k = 0
  · rw [if_pos h, if_pos h]
  · rw [if_neg h, if_neg h, hS _ (by omega), hf _ (by omega)]
theorem pW_nim (ht : top < 199) {o : Nat} (h : pW top o) : ¬ im_o o := pW_im ht h
theorem FF_push (hh1 : hh ρ (u_D u) (u_I u) G) (F : fw ρ W G G') (ht : top < 199) (hW : ∀ o, W o → ¬ (707 ≤ o ∧ o < 711 + 4 * top)) : FF ρ top cur G G' := fun a ha h7 h8 => by
  have := (F.2.2.2 a ha).2.2 (fun q => hW _ q ⟨h7, h8⟩)
  exact ⟨fun j _ => this.1 j, fun j _ _ => this.2 j⟩
/-- a frame without a scope -/
theorem CC_push (hC : CC u ρ G N B M S lc ln op ch V o ra rd sp st hts FG fr b cn top la) (ht : top < 199) (hh' : hh ρ (u_D u) (u_I u) G') (F : fw ρ (pW top) G G') (hp : pF G G' top kd r2 r3) : CC u ρ G' N B M S lc ln op ch V o ra rd sp st hts FG fr b cn (top + 1) la ∧ fw ρ bW G G' ∧ FF ρ top cur G G' := by
  obtain ⟨h1, h2, h3, h4, h5, h5', hu, h8, h9⟩ := hC
  have hG := hh_n h1
  have hF : ∀ cur, FF ρ top cur G G' := fun cur => FF_push h1 F ht (fun o q => by unfold pW at q; omega)
  have nim : ∀ o, pW top o → ¬ im_o o := fun o q => pW_im ht q
  obtain ⟨p1, p2, p3, p4, p5, p6, p7, p8, p9⟩ := hp
  have s0 := sC_F (hF 0) h1 h3
  obtain ⟨s1, s2, s3, s4, s5, s6, s7, s8, s9, s10, s11, s12, s13, s14⟩ := s0
  have t0 : ∀ j, j ≠ 6 ∧ ¬ (19 ≤ j ∧ j ≤ 21) → mj_i G' (707 + 4 * top) j = mj_i G (707 + 4 * top) j := fun j hj => FF_i (hF 0) h1 (Nat.le_refl _) (by omega) hj
  refine ⟨⟨hh', wC_f h1 h2 F ro_r nim, ⟨s1, by omega, s3, by omega, fun s hs => by have := s5 s hs; omega, ?_, ?_, ?_, ?_, s10, s11, ?_, s13, s14⟩, ⟨ce_w h1 h4.1 F ro_r (fun o q => ⟨nim o q, by unfold pW at q; omega⟩) (fun s hs => by have := s5 s hs; unfold pW; omega), cu_w h1 h4.1 h4.2.1 F (fun o q => by unfold pW at q; omega), fun k hk => ?_⟩, p1, p2.trans h5', uC_f h1 hu F (fun o q => by unfold pW at q; omega), (oD_f h1 h8 F (fun o q => by unfold pW at q; unfold oW; omega)).1, fgC_f h1 h9 F ro_r (fun o q => ⟨nim o q, by unfold pW at q; unfold gW; omega⟩)⟩, fw_m F (fun o q => ⟨by unfold pW at q; omega, nim o q⟩), hF cur⟩
  · rw [p3 3 (by omega), ← t0 3 (by decide)]
    exact s6
  · rw [p3 7 (by omega), ← t0 7 (by decide)]
    exact s7
  · rw [p3 11 (by omega), ← t0 11 (by decide)]
    exact s8
  · rw [p3 12 (by omega), ← t0 12 (by decide)]
    exact s9
  · rw [p3 10 (by omega), ← t0 10 (by decide)]
    exact chC_m (Nat.le_succ _) s12
  · have hfk := s5 _ (s14 k hk).1
    have e : ∀ j, mj_i G' (707 + 4 * fr (S k)) j = mj_i G (707 + 4 * fr (S k)) j := fun j => ce_i h1 F (by omega) (by unfold pW; omega)
    rw [e, e, e]
    exact h4.2.2 k hk
/-- only the stack's own cell has changed -/
theorem fw11 {o : Nat} (h : o = 11) : ¬ im_o o := by
  rw [h]
  unfold im_o
  omega
/-- a frame without a scope taken off -/
theorem CC_pop (hC0 : CC u ρ G0 N B M S lc ln op ch V o ra rd sp st hts FG fr b cn top la) (hF : FF ρ top (fr (N - 1)) G0 G) (he : ro_e ρ ρ1 G0) (hn : mj_n G0 ≤ mj_n G) {cn' : Nat → Nat} (hC : CC u ρ1 G N B M S lc ln op ch V' o' ra' rd' sp' st' hts' FG' fr b cn' (top + 1) la) (hh' : hh ρ1 (u_D u) (u_I u) G') (F : fw ρ1 (fun o => o = 11) G G') (h4 : mj_i G' 11 4 = nI top) (h2 : mj_i G' 11 2 = mj_i G 11 2) (hI : ∀ x j, x ≠ 11 → mj_i G' x j = mj_i G x j) (hR : ∀ x j, mj_r G' x j = mj_r G x j) : CC u ρ1 G' N B M S lc ln op ch V' o' ra' rd' sp' st' hts' FG' fr b cn' top la ∧ FF ρ top (fr (N - 1)) G0 G' := by
  have hs0 := hC0.2.2.1
  have htop := hs0.2.1
  have hh0 := hC0.1
  obtain ⟨g1, g2, g3, g4, g5, g5', gu, g8, g9⟩ := hC
  have hG := hh_n g1
  have hF1 : FF ρ1 top (fr (N - 1)) G G' := fun a ha h7 h8 => ⟨fun j _ => hR a j, fun j _ _ => hI a j (fun q => by
    rw [q, ow_s (by decide)] at h7
    omega)⟩
  have hF2 : FF ρ top (fr (N - 1)) G0 G' := FF_t hF he hn hF1
  exact ⟨⟨hh', wC_f g1 g2 F ro_r (fun o q => fw11 q), sC_F hF2 hh0 hs0, ⟨ce_w g1 g4.1 F ro_r (fun o q => ⟨fw11 q, by omega⟩) (fun s hs => by omega), cu_w g1 g4.1 g4.2.1 F (fun o q => by omega), fun k hk => by rw [hI _ _ (by omega), hI _ _ (by omega), hI _ _ (by omega)]; exact g4.2.2 k hk⟩, h4, h2.trans g5', uC_f g1 gu F (fun o q => by omega), (oD_f g1 g8 F (fun o q => by unfold oW; omega)).1, fgC_f g1 g9 F ro_r (fun o q => ⟨fw11 q, by unfold gW; omega⟩)⟩, hF2⟩
/-- at the end of a body whose frame is neither a loop's nor a fragment's -/
theorem lp_end (hC : CC u ρ G N B M S lc ln op ch V o ra rd sp st hts FG fr b cn (top + 1) la) (h0 : mj_r G (707 + 4 * (top + 1)) 2 = 0) (hk : mj_i G (707 + 4 * (top + 1)) 0 = kd) (h42 : ¬ kd = nI 42) (h107 : ¬ kd = nI 107) (ht : t < 1000000)
    (hK : ∀ G', hh ρ (u_D u) (u_I u) G' → fw ρ (fun o => o = 11) G G' → mj_i G' 11 4 = nI top → mj_i G' 11 2 = (if mj_i G (707 + 4 * (top + 1)) 3 = nI (top + 1) then mj_i G (707 + 4 * (top + 1)) 5 else mj_i G 11 2) → (∀ x j, x ≠ 11 → mj_i G' x j = mj_i G x j) → (∀ x j, mj_r G' x j = mj_r G x j) → lp (d + 1) K (t + 1) G') : lp (d + 1) K t G := by
  have hs := hC.2.2.1
  have htop := hs.2.1
  refine w_Rn_run_33 hC.1.1 (z_bf (by rw [z_le (by omega) (by omega)]; omega) (z_bt rfl ?_))
  rw [hC.2.2.2.2.1]
  refine z_bf (by rw [z_lt (by omega) (by omega)]; omega) (z_ixi htop (by omega) (z_bt h0 ?_))
  refine w_Rn_end hC.1.1 ⟨cs_g14 hC.1.1 htop, ?_⟩
  rw [hk]
  refine z_bf h42 (z_bf h107 ?_)
  rw [hC.2.2.2.2.1]
  refine c_cut (at' := top + 1) (fl := fun i => if i = top + 1 then (if mj_i G (707 + 4 * (top + 1)) 3 = nI (top + 1) then mj_i G (707 + 4 * (top + 1)) 5 else mj_i G 11 2) else mj_i G 11 2) hC.1 hC.2.2.2.2.1 htop (Nat.le_succ _) (if_neg (by omega)).symm (fun i h1 h2 => ?_) (fun G' a1 a2 a3 a4 a5 a6 a7 => ?_)
  · have hi : i = top + 1 := by omega
    subst hi
    refine ⟨fun q => ?_, fun q => ?_⟩
    · show (if top + 1 = top + 1 then _ else _) = _
      rw [if_pos rfl, if_pos q]
    · show (if top + 1 = top + 1 then _ else _) = (if top + 1 + 1 = top + 1 then _ else _)
      rw [if_pos rfl, if_neg q, if_neg (by omega)]
  · refine z_bt rfl ?_
    have h := hK G' a1 a2 (by rw [a3]; rfl) (by rw [a4]; exact if_pos rfl) a6 a7
    unfold lp at h
    rw [← z_add] at h
    exact h
/-- a body in a frame without a scope -/
theorem en_C {r8 p8 q8 q TT dm : Nat} {KK : Int32 → mj_G → Prop} (hKK : ∀ G', lp (d + 1) K (t + 1) G' → KK (nI 0) G') (hr8 : r8 ≠ 0) (h : sgC u N B M S lc ln op ch V o ra rd sp st hts FG r8 p8 0 q8 e V' o' ra' rd' sp' st' hts' FG') (hC : CC u ρ G N B M S lc ln op ch V o ra rd sp st hts FG fr b cn top la) (hnx : mj_r G (707 + 4 * top) 2 = nx) (h80 : q8 ≤ 80) (hb1 : 7 * top + 7 + (q8 - p8) ≤ 84 * op + 80) (hop : op ≤ 12) (hb2 : 5 * (b (N - 1) + cn (N - 1)) ≤ 95 * op + p8) (hd : 299 ≤ d) (hTT : t + 2 + 100 * (2000 - st) + (q8 - p8) ≤ TT) (hT9 : TT ≤ 900000) (hq : q8 ≤ q)
    (c1 : e = nI 0 → ∀ ρ' G' cn' t', rN u ρ G N B M S lc ln op ch V' o' ra' rd' sp' st' hts' FG' fr b cn top la nx q TT ρ' G' cn' t' → lp (d + 1) K t' G') (c2 : ¬ e = nI 0 → ∀ o1 ρ' G' cn' top' t', rX u ρ G o e N B M S lc ln op ch V' o1 ra' rd' sp' st' hts' FG' fr b cn top la TT ρ' G' cn' top' t' → lf (d + 1) K t' e G') : Rn_enter (dm + 1) r8 G KK := by
  have ht : top < 199 := by omega
  refine w_Rn_enter hC.1.1 (z_bf hr8 (c_push hC.1 hC.2.2.2.2.1 ht (fun G1 a1 a2 a3 => z_bf (by omega) ?_)))
  obtain ⟨d1, d2, d3⟩ := CC_push (cur := fr (N - 1)) hC ht a1 a2 a3
  have kd1 : mj_i G1 (707 + 4 * (top + 1)) 0 = nI 2 := a3.2.2.2.1
  have hf : fr (N - 1) ≤ top := hC.2.2.1.2.2.2.2.1 _ (by have := hC.2.2.1.1; omega)
  refine hKK _ ?_
  refine h fr b cn (top + 1) la ρ G1 d1 a3.2.2.2.2.2.2.1 q8 (Nat.le_refl _) h80 (by omega) hb2 (d + 1) K (t + 1) (by omega) (by omega) (fun he => ?_) (fun he => ?_)
  · intro ρ2 G2 cn2 t2 ⟨b1, b2, b3, b4, b5, b6, b7, b8⟩
    have he2 : ro_e ρ ρ2 G := fun a ha => b2 a (Nat.lt_of_lt_of_le ha d2.1)
    have FF2 : FF ρ top (fr (N - 1)) G G2 := FF_t d3 ro_r d2.1 (FF_lo b4 (by omega) (Nat.lt_succ_self _) (Or.inl rfl))
    have kd2 : mj_i G2 (707 + 4 * (top + 1)) 0 = nI 2 := (FF_i b4 a1 (Nat.le_refl _) (by omega) (by decide)).trans kd1
    refine lp_end b1 b5 kd2 (by decide) (by decide) (by omega) (fun G3 i1 i2 i3 i4 i5 i6 => ?_)
    have sc : ¬ mj_i G2 (707 + 4 * (top + 1)) 3 = nI (top + 1) := by
      rw [b1.2.2.1.2.2.2.2.2.1, z_eq (by omega) (by omega)]
      omega
    rw [if_neg sc] at i4
    obtain ⟨j1, j2⟩ := CC_pop hC FF2 he2 (Nat.le_trans d2.1 b3.1) b1 i1 i2 i3 i4 i5 i6
    have F3 : fw ρ bW G G3 := fw_t (fw_t d2 ro_r b3) he2 (fw_m i2 (fun o q => ⟨by omega, fw11 q⟩))
    have nx3 : mj_r G3 (707 + 4 * top) 2 = nx := by
      have hG := hh_n hC.1
      rw [i6]
      have hG1 := d2.1
      have e1 := (b4 (707 + 4 * top) (by omega) (by rw [ow_s (by omega)]; omega) (by rw [ow_s (by omega)]; omega)).1 2 (fun q => by have := q.1; omega)
      have e2 : mj_r G1 (707 + 4 * top) 2 = mj_r G (707 + 4 * top) 2 := ((a2.2.2.2 (707 + 4 * top) (by omega)).2.2 (by rw [ow_s (by omega)]; unfold pW; omega)).1 2
      rw [e1, e2]
      exact hnx
    exact c1 he ρ2 G3 cn2 (t2 + 1) ⟨j1, he2, F3, j2, nx3, b6, by omega, by omega⟩
  · intro o2 ρ2 G2 cn2 top2 t2 ⟨b1, b2, b3, b4, b5, b6, b7, b8, b9, b10, b11, b12, b13, b14, b15, b16⟩
    have he2 : ro_e ρ ρ2 G := fun a ha => b12 a (Nat.lt_of_lt_of_le ha d2.1)
    have kd2 : mj_i G2 (707 + 4 * (top + 1)) 0 = nI 2 := (FF_i b14 a1 (Nat.le_refl _) (by omega) (by decide)).trans kd1
    refine c2 he o2 ρ2 G2 cn2 top2 t2 ⟨b1, b2, b3, b4, b5, b6, b7, b8, by omega, b10, fun hq i hi1 hi2 => ?_, he2, fw_t d2 ro_r b13, FF_t d3 ro_r d2.1 (FF_lo b14 (by omega) (Nat.lt_succ_self _) (Or.inl rfl)), b15, by omega⟩
    by_cases hi : i = top + 1
    · rw [hi, kd2]
      decide
    · exact b11 hq i (by omega) hi2
end ZH
