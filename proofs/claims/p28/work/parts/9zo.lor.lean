/-! LOOPS, by the class: a round -/
section ZO
variable {u : wo} {Gm : mj_G} {f f' : mm_F} {ρ ρ' ρ0 ρ1 : Nat → Nat} {G G0 G1 G2 G' : mj_G} {cur r nx p q m d t T l s k c x j : Nat} {e : Int32} {K : Int32 → mj_G → Prop} {v : rv} {b1 : Int32} {L1 : List (Nat × Nat)} {N : Nat} {B : Nat → Nat} {M : Nat} {S : Nat → Nat} {lc : Nat} {ln : Nat → Nat} {op : Nat} {ch : List en} {V : Nat → Nat → Option rv} {o : ost} {ra rd : Nat → Int32} {sp : Nat → Bool} {st hts : Nat} {FG : Nat → kfr} {V' : Nat → Nat → Option rv} {o' : ost} {ra' rd' : Nat → Int32} {sp' : Nat → Bool} {st' hts' : Nat} {FG' : Nat → kfr} {fr b cn : Nat → Nat} {top la : Nat} {bg : Nat → Nat} {vc li LC : Nat} {ci : Int32} {CA tr : Nat}
/-- the row of a list that a value stands for -/
theorem li_row (hh1 : hh ρ (u_D u) (u_I u) G) (hv : rv_in (u_D u) v) (h3 : rv_t v = 3) : rv_d v < 26 ∧ imm ρ (ir G (rv_d v)) ∧ ir G (rv_d v) < mj_n G ∧ mj_k G (ir G (rv_d v)) = 41 ∧ mj_l G (ir G (rv_d v)) = rv_l v ∧ rv_l v ≤ 8 ∧ ∀ k, k < rv_l v → imm ρ (mj_r G (ir G (rv_d v)) k) ∧ mj_r G (ir G (rv_d v)) k < mj_n G ∧ cv (imm ρ) G (mj_r G (ir G (rv_d v)) k) (u_I u (rv_d v) k) ∧ rv_in (u_D u) (u_I u (rv_d v) k) := by
  obtain ⟨h1, h2⟩ := hv
  obtain ⟨d1, d2⟩ := h1.2.2.2.2 h3
  obtain ⟨e1, e2⟩ := h2 h3
  obtain ⟨-, -, -, g1, g2⟩ := hh1.2.2.2 (rv_d v) d2
  obtain ⟨-, g3, g4, g5, g6, g7⟩ := g2 e1
  rw [e2] at g6 g7
  refine ⟨d2, g3, g4, g5, g6, d1, fun k hk => ?_⟩
  obtain ⟨i1, i2, i3, i4, i5⟩ := g7 k hk
  exact ⟨i1, i2, i3, i4, fun q => by omega⟩
/-- a round that is begun -/
theorem lo_rd (hL : loS u ρ G r j v N B M S lc ln op ch V o ra rd sp st hts FG fr b cn top la) (hv : rv_in (u_D u) v) (h3 : rv_t v = 3) (hj : j < rv_l v) (hA : u_A u r) (hk6 : mj_k (u_G u) r = 6) (h4 : mj_i (u_G u) r 4 = nI l) (hl : l < 26) (hV : pV u N V) (hroom : b (N - 1) + cn (N - 1) < 320) (ht : t < 1000000) (hd : 100 ≤ d)
    (h1 : st < u_bu u → ∀ ρ' G' cn', CC u ρ' G' (N + 1) (e_bh B N N) M S lc ln op ch (e_st V N l (u_I u (rv_d v) j)) o ra rd sp (st + 1) hts FG (e_bh fr N (top + 1)) (e_bh b N (b (N - 1) + cn (N - 1))) cn' (top + 1) la → ro_e ρ ρ' G → fw ρ bW G G' → FF ρ top (fr (N - 1)) G G' → (∀ s, s < N → cn' s = cn s) → cn' N ≤ 1 → mj_r G' (707 + 4 * (top + 1)) 2 = mj_r (u_G u) r 8 → mj_i G' (707 + 4 * (top + 1)) 0 = nI 42 → mj_r G' (707 + 4 * (top + 1)) 1 = r → mj_i G' (707 + 4 * (top + 1)) 14 = nI (j + 1) → mj_r G' (709 + 4 * (top + 1)) 5 = ir G' (rv_d v) → mj_r G' (707 + 4 * top) 2 = mj_r G (707 + 4 * top) 2 → lp (d + 1) K (t + 1) G')
    (h2 : st = u_bu u → lf (d + 1) K t (Int32.ofInt (-9)) G) : lp (d + 1) K t G := by
  obtain ⟨V1, cn1, hC, hV1, hcn1, nx0, kd, tg, i14, lst⟩ := hL
  have hs := hC.2.2.1
  have htop := hs.2.1
  have hh1 := hC.1
  have hG := hh_n hh1
  obtain ⟨A1, A2, A3⟩ := wC_A hC.2.1 hA
  obtain ⟨r1, r2, r3, r4, r5, r6, r7⟩ := li_row hh1 hv h3
  obtain ⟨l13, lk⟩ := cs_l13 hh1.1 htop
  have hfN : e_bh fr N (top + 1) N = top + 1 := if_pos rfl
  have hbN : e_bh b N (b (N - 1) + cn (N - 1)) N = b (N - 1) + cn (N - 1) := if_pos rfl
  refine w_Rn_run_33 hh1.1 (z_bf (by rw [z_le (by omega) (by omega)]; omega) (z_bt rfl ?_))
  rw [hC.2.2.2.2.1]
  refine z_bf (by rw [z_lt (by omega) (by omega)]; omega) (z_ixi htop (by omega) (z_bt nx0 ?_))
  refine w_Rn_end hh1.1 ⟨cs_g14 hh1.1 htop, z_bt kd ?_⟩
  obtain ⟨d, rfl⟩ : ∃ y, d = y + 1 := ⟨d - 1, by omega⟩
  refine w_Rn_startRound hh1.1 ?_
  rw [l13, lst, i14, r4, r5, z_lt (by omega) (by omega)]
  refine ⟨cs_g14 hh1.1 htop, lk, by decide, z_bt hj ?_⟩
  obtain ⟨u1, u2, u3, u4, u5⟩ := hC.2.2.2.2.2.2.1
  refine c_pay hh1 u2 u1 u4 u5 (fun q G4 p1 p2 p3 p4 p5 => z_bt rfl ⟨cs_g14 p1.1 htop, ?_⟩) (fun q => z_bf (by decide) (z_bf (by decide) ?_))
  · obtain ⟨c4, f4, q4⟩ := CC_st (cur := e_bh fr N (top + 1) N) hC p1 p2 p3 p4 q
    have b5 : mj_i G4 (707 + 4 * (top + 1)) 5 = nI (b (N - 1) + cn (N - 1)) := by
      have := (c4.2.2.2.1.1.2 N (Nat.lt_succ_self _)).2.2.2.2.1
      rw [hfN, hbN] at this
      exact this
    have o4 : ∀ a, a < 1768 → a ≠ 6 → (∀ i, mj_r G4 a i = mj_r G a i) ∧ ∀ i, mj_i G4 a i = mj_i G a i := fun a ha h6 => (p2.2.2.2 a (by omega)).2.2 (by rw [ow_s ha]; exact h6)
    intro G7 e7 G8 e8
    have e8' : G8 = mj_pI (mj_pI G4 11 2 (nI (b (N - 1) + cn (N - 1)))) (707 + 4 * (top + 1)) 6 (nI 0) := by rw [e8, e7, b5]
    have vN : ∀ l, V N l = none := fun l => by
      cases hv' : V N l with
      | none => rfl
      | some w => exact absurd (hV N l w hv').1 (Nat.lt_irrefl N)
    obtain ⟨cn2, cn20, cn2s⟩ : ∃ cn2 : Nat → Nat, cn2 N = 0 ∧ ∀ s, s < N → cn2 s = cn1 s := ⟨fun s => if s = N then 0 else cn1 s, if_pos rfl, fun s hs => if_neg (by omega)⟩
    obtain ⟨c8, f8, q8⟩ := CC_rs (V := V) cn20 cn2s c4 hfN hbN hV1 vN
    rw [← e8'] at c8 f8 q8
    have s8 : ∀ a i, mj_r G8 a i = mj_r G4 a i := fun a i => by rw [e8']; rfl
    have z8 : ∀ i, i ≠ 6 → mj_i G8 (707 + 4 * (top + 1)) i = mj_i G4 (707 + 4 * (top + 1)) i := fun i hi => by
      rw [e8']
      exact (z_iIm hi).trans (z_iIn (by omega))
    clear e7 e8 e8'
    have tg8 : mj_r G8 (707 + 4 * (top + 1)) 1 = r := (s8 _ _).trans (((o4 _ (by omega) (by omega)).1 1).trans tg)
    obtain ⟨B1, B2, B3⟩ := wC_A c8.2.1 hA
    rw [tg8, B2 8]
    refine ⟨B1.trans hk6, ?_⟩
    intro G10 e10
    obtain ⟨c10, f10, q10⟩ := CC_nx (y := mj_r (u_G u) r 8) (cur := e_bh fr N (top + 1) N) c8
    rw [← e10] at c10 f10 q10
    have s10 : ∀ a i, ¬ (a = 707 + 4 * (top + 1) ∧ i = 2) → mj_r G10 a i = mj_r G8 a i := fun a i h => by
      rw [e10]
      exact if_neg h
    have n10 : mj_r G10 (707 + 4 * (top + 1)) 2 = mj_r (u_G u) r 8 := by
      rw [e10]
      exact z_rRs
    have z10 : ∀ a i, mj_i G10 a i = mj_i G8 a i := fun a i => by rw [e10]; rfl
    clear e10
    have li10 : ir G (rv_d v) = ir G10 (rv_d v) := (ir_w hh1 c10.1 (fw_t f4 ro_r (fw_t f8 ro_r f10)) (fun o q => q.2) r1).symm
    obtain ⟨t1, t2, t3, t4, t5, t6, t7⟩ := li_row c10.1 hv h3
    have i10 : mj_i G10 (707 + 4 * (top + 1)) 14 = nI j := (z10 _ _).trans ((z8 14 (by decide)).trans (((o4 _ (by omega) (by omega)).2 14).trans i14))
    rw [li10, t4, t5, i10, z_add]
    refine ⟨by decide, z_ixi hj (by omega) ?_⟩
    intro G14 e14
    obtain ⟨c14, f14⟩ := CC_fi (i := 14) (y := nI (j + 1)) c10 (by omega)
    rw [← e14] at c14 f14
    have s14 : ∀ a i, mj_r G14 a i = mj_r G10 a i := fun a i => by rw [e14]; rfl
    have z14 : ∀ a i, ¬ (a = 707 + 4 * (top + 1) ∧ i = 14) → mj_i G14 a i = mj_i G10 a i := fun a i h => by
      rw [e14]
      exact if_neg h
    have j14 : mj_i G14 (707 + 4 * (top + 1)) 14 = nI (j + 1) := by
      rw [e14]
      exact z_iIs
    clear e14
    have tg14 : mj_r G14 (707 + 4 * (top + 1)) 1 = r := (s14 _ _).trans ((s10 _ _ (by omega)).trans tg8)
    obtain ⟨D1, D2, D3⟩ := wC_A c14.2.1 hA
    rw [tg14, D3 4, h4]
    refine ⟨D1.trans hk6, ?_⟩
    obtain ⟨d, rfl⟩ : ∃ y, d = y + 2 := ⟨d - 2, by omega⟩
    obtain ⟨it1, it2, it3, it4⟩ := t7 j hj
    have it14 : cv (imm ρ) G14 (mj_r G10 (ir G10 (rv_d v)) j) (u_I u (rv_d v) j) := cv_im it3 it4.1 c10.1.2.2.2 f14 ro_r (fun o q => q.2) (hh_n c10.1) it2 it1
    have itn : ¬ (67 ≤ mj_r G10 (ir G10 (rv_d v)) j ∧ mj_r G10 (ir G10 (rv_d v)) j ≤ 706) := fun q => by
      unfold imm at it1
      rw [ow_s (by omega)] at it1
      unfold im_o at it1
      omega
    refine c_set (fun s l w q => (hV s l w q).2.1) c14.1 c14.2.2.2.1.1 c14.2.2.2.1.2.1 (CC_cF c14) hl it4 it14 itn (by rw [Nat.add_sub_cancel, hbN, cn20]; exact hroom) (fun ρ' G' cn' a1 a2 a3 a4 a5 a6 a7 a8 a9 a10 a11 => z_bt rfl (z_bt rfl ?_))
    rw [Nat.add_sub_cancel] at a4 a7 a8
    obtain ⟨d1, d2, d3⟩ := CC_set c14 a1 a2 a3 a4 a5 a6 a9 a10 a11
    rw [Nat.add_sub_cancel, hfN] at a9 a10
    have nn14 : mj_n G ≤ mj_n G14 := Nat.le_trans f4.1 (Nat.le_trans f8.1 (Nat.le_trans f10.1 f14.1))
    have he : ro_e ρ ρ' G := fun a ha => a2 a (Nat.lt_of_lt_of_le ha nn14)
    have fw14 : fw ρ bW G G14 := fw_t (fw_t (fw_t f4 ro_r f8) ro_r f10) ro_r f14
    have fwE : fw ρ bW G G' := fw_t fw14 ro_r d2
    have ff14 : FF ρ top (fr (N - 1)) G10 G14 := fun a ha h7 h8 => ⟨fun i _ => s14 a i, fun i _ _ => z14 a i (fun q => by
      rw [q.1, ow_s (by omega)] at h8
      omega)⟩
    have lo : ∀ {Ga Gb : mj_G}, FF ρ (top + 1) (e_bh fr N (top + 1) N) Ga Gb → FF ρ top (fr (N - 1)) Ga Gb := fun h => FF_lo h htop (Nat.lt_succ_self _) (Or.inr ⟨by rw [hfN]; omega, by rw [hfN]; exact htop⟩)
    have lo8 : FF ρ top (fr (N - 1)) G4 G8 := FF_lo q8 htop (Nat.lt_succ_self _) (Or.inr ⟨by omega, htop⟩)
    have lod : FF ρ top (fr (N - 1)) G14 G' := by
      rw [Nat.add_sub_cancel] at d3
      exact lo d3
    have ffE : FF ρ top (fr (N - 1)) G G' := FF_t (FF_t (FF_t (FF_t (lo q4) ro_r f4.1 lo8) ro_r (Nat.le_trans f4.1 f8.1) (lo q10)) ro_r (Nat.le_trans f4.1 (Nat.le_trans f8.1 f10.1)) ff14) ro_r nn14 lod
    -- frames' references
    have rr : ∀ a i, 707 ≤ a → a < 711 + 4 * (top + 1) → ¬ (a = 707 + 4 * (top + 1) ∧ i = 2) → mj_r G' a i = mj_r G a i := fun a i h7 h8 hn => by
      have e1 : mj_r G' a i = mj_r G14 a i := by
        by_cases qa : a = 707 + 4 * (top + 1)
        · rw [qa]
          exact a10 i
        · exact ((a3.2.2.2 a (by omega)).2.2 (by rw [ow_s (by omega)]; unfold sW; rw [Nat.add_sub_cancel, hfN]; omega)).1 i
      rw [e1, s14, s10 _ _ hn, s8]
      exact (o4 a (by omega) (by omega)).1 i
    have liE : ir G (rv_d v) = ir G' (rv_d v) := by
      have h1' := dcx_l hh1.2.2.2 fwE (fun o q => q.2) hG r1
      exact h1'.2.symm
    suffices hfin : lp (d + 2 + 1 + 1) K (t + 1) G' by
      unfold lp at hfin
      rw [← z_add] at hfin
      exact hfin
    refine h1 q ρ' G' cn' d1 he fwE ffE (fun s hs => ?_) ?_ ?_ ?_ ?_ ?_ ?_ (rr _ _ (by omega) (by omega) (by omega))
    · rw [a7 s (by omega), cn2s s hs]
      exact hcn1 s hs
    · rw [cn20] at a8
      exact a8
    · rw [a10 2]
      exact (s14 _ _).trans n10
    · rw [a9 0 (by decide), z14 _ _ (by omega), z10, z8 0 (by decide), (o4 _ (by omega) (by omega)).2 0]
      exact kd
    · rw [rr _ _ (by omega) (by omega) (by omega)]
      exact tg
    · rw [a9 14 (by decide)]
      exact j14
    · rw [rr _ _ (by omega) (by omega) (by omega), lst, liE]
  · have h := h2 q
    unfold lf at h
    rw [← z_add] at h
    exact h
/-- the end of a loop -/
theorem lo_end (hL : loS u ρ G r j v N B M S lc ln op ch V o ra rd sp st hts FG fr b cn top la) (hv : rv_in (u_D u) v) (h3 : rv_t v = 3) (hj : j = rv_l v) (ht : t < 1000000) (hd : 100 ≤ d)
    (hK : ∀ V1 cn1 G', CC u ρ G (N + 1) (e_bh B N N) M S lc ln op ch V1 o ra rd sp st hts FG (e_bh fr N (top + 1)) (e_bh b N (b (N - 1) + cn (N - 1))) cn1 (top + 1) la → (∀ s l, s < N → V1 s l = V s l) → (∀ s, s < N → cn1 s = cn s) → hh ρ (u_D u) (u_I u) G' → fw ρ (fun o => o = 11) G G' → mj_i G' 11 4 = nI top → mj_i G' 11 2 = nI (b (N - 1) + cn (N - 1)) → (∀ x j, x ≠ 11 → mj_i G' x j = mj_i G x j) → (∀ x j, mj_r G' x j = mj_r G x j) → lp (d + 1) K (t + 1) G') : lp (d + 1) K t G := by
  obtain ⟨V1, cn1, hC, hV1, hcn1, nx0, kd, tg, i14, lst⟩ := hL
  have hs := hC.2.2.1
  have htop := hs.2.1
  have hh1 := hC.1
  obtain ⟨r1, r2, r3, r4, r5, r6, r7⟩ := li_row hh1 hv h3
  obtain ⟨l13, lk⟩ := cs_l13 hh1.1 htop
  have hfN : e_bh fr N (top + 1) N = top + 1 := if_pos rfl
  have hbN : e_bh b N (b (N - 1) + cn (N - 1)) N = b (N - 1) + cn (N - 1) := if_pos rfl
  have sc : mj_i G (707 + 4 * (top + 1)) 3 = nI (top + 1) := by
    rw [hs.2.2.2.2.2.1, Nat.add_sub_cancel, hfN]
  have b5 : mj_i G (707 + 4 * (top + 1)) 5 = nI (b (N - 1) + cn (N - 1)) := by
    have := (hC.2.2.2.1.1.2 N (Nat.lt_succ_self _)).2.2.2.2.1
    rw [hfN, hbN] at this
    exact this
  refine w_Rn_run_33 hh1.1 (z_bf (by rw [z_le (by omega) (by omega)]; omega) (z_bt rfl ?_))
  rw [hC.2.2.2.2.1]
  refine z_bf (by rw [z_lt (by omega) (by omega)]; omega) (z_ixi htop (by omega) (z_bt nx0 ?_))
  refine w_Rn_end hh1.1 ⟨cs_g14 hh1.1 htop, z_bt kd ?_⟩
  obtain ⟨d, rfl⟩ : ∃ y, d = y + 1 := ⟨d - 1, by omega⟩
  refine w_Rn_startRound hh1.1 ?_
  rw [l13, lst, i14, r4, r5, z_lt (by omega) (by omega)]
  refine ⟨cs_g14 hh1.1 htop, lk, by decide, z_bf (by omega) ?_⟩
  rw [hC.2.2.2.2.1]
  refine c_cut (at' := top + 1) (fl := fun i => if i = top + 1 then nI (b (N - 1) + cn (N - 1)) else mj_i G 11 2) hh1 hC.2.2.2.2.1 htop (Nat.le_succ _) (if_neg (by omega)).symm (fun i h1 h2 => ?_) (fun G' a1 a2 a3 a4 a5 a6 a7 => ?_)
  · have hi : i = top + 1 := by omega
    subst hi
    refine ⟨fun q => ?_, fun q => absurd sc q⟩
    show (if top + 1 = top + 1 then _ else _) = _
    rw [if_pos rfl, b5]
  · refine z_bt rfl ?_
    have h := hK V1 cn1 G' hC hV1 hcn1 a1 a2 (by rw [a3]; rfl) (by rw [a4]; exact if_pos rfl) a6 a7
    unfold lp at h
    rw [← z_add] at h
    exact h
end ZO
