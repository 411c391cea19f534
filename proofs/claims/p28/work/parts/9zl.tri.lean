/-! TRIES, by the class -/
/-- what would be filled, were frames cut down -/
def cfl (G : mj_G) (top : Nat) : Nat → Int32
  | 0 => mj_i G 11 2
  | n + 1 => if mj_i G (707 + 4 * (top - n)) 3 = nI (top - n) then mj_i G (707 + 4 * (top - n)) 5 else cfl G top n
section ZL
variable {u : wo} {Gm : mj_G} {f f' : mm_F} {ρ ρ' ρ1 : Nat → Nat} {G G1 G2 G' : mj_G} {cur r nx p q m d t T l s k c x : Nat} {e : Int32} {K : Int32 → mj_G → Prop} {v : rv} {b1 : Int32} {L1 : List (Nat × Nat)} {N : Nat} {B : Nat → Nat} {M : Nat} {S : Nat → Nat} {lc : Nat} {ln : Nat → Nat} {op : Nat} {ch : List en} {V : Nat → Nat → Option rv} {o : ost} {ra rd : Nat → Int32} {sp : Nat → Bool} {st hts : Nat} {FG : Nat → kfr} {V' : Nat → Nat → Option rv} {o' : ost} {ra' rd' : Nat → Int32} {sp' : Nat → Bool} {st' hts' : Nat} {FG' : Nat → kfr} {fr b cn : Nat → Nat} {top la : Nat} {bg : Nat → Nat} {vc li LC : Nat} {ci : Int32} {CA tr : Nat}
/-- a frame with a scope, as the one below it -/
theorem CC_ps {op' : Nat} (hC : CC u ρ G N B M S lc ln op ch V o ra rd sp st hts FG fr b cn top la) (ht : top < 199) (hV : pV u N V) (hch : ∀ y, y ∈ ch → en_x y ≤ N) (hh' : hh ρ' (u_D u) (u_I u) G') (he : ro_e ρ ρ' G) (F : fw ρ (qW top) G G') (c1 : mj_i G' 11 4 = nI (top + 1)) (c2 : mj_i G' 11 2 = mj_i G 11 2) (p7 : ∀ j, j = 7 ∨ j = 10 ∨ j = 11 → mj_i G' (707 + 4 * (top + 1)) j = mj_i G (707 + 4 * top) j) (e3 : mj_i G' (707 + 4 * (top + 1)) 3 = nI (top + 1)) (e4 : mj_i G' (707 + 4 * (top + 1)) 4 = mj_i G (707 + 4 * top) 3) (e5 : mj_i G' (707 + 4 * (top + 1)) 5 = mj_i G 11 2) (e6 : mj_i G' (707 + 4 * (top + 1)) 6 = nI 0) (e12 : mj_i G' (707 + 4 * (top + 1)) 12 = nI op') :
    CC u ρ' G' (N + 1) (e_bh B N N) M S lc ln op' ch V o ra rd sp st hts FG (e_bh fr N (top + 1)) (e_bh b N (b (N - 1) + cn (N - 1))) (e_bh cn N 0) (top + 1) la ∧ fw ρ bW G G' ∧ FF ρ top cur G G' := by
  have hs := hC.2.2.1
  obtain ⟨s1, s2, s3, s4, s5, s6, s7, s8, s9, s10, s11, s12, s13, s14⟩ := hs
  have hF : FF ρ top 0 G G' := FF_push hC.1 F ht (fun o q => by unfold qW at q; omega)
  have h2 := hC.2.2.2.2.2.1
  have vN : ∀ l, V N l = none := fun l => by
    cases hv : V N l with
    | none => rfl
    | some v => exact absurd (hV N l v hv).1 (Nat.lt_irrefl N)
  refine CC_sco (x := N) hC ht vN rfl hh' he F c1 (c2.trans h2) e3 ?_ (Nat.le_refl N) (e5.trans h2) e6 ((p7 7 (by omega)).trans s7) (by omega) (fL_F hF hC.1 s4 s2 s11 s10) s11 ?_ hch ?_ e12 s3 (CC_sk hC F ht)
  · rw [e4, s6]
    unfold sf
    rw [if_neg (by omega)]
  · rw [p7 10 (by omega)]
    exact chC_m (Nat.le_succ _) (chC_F hF hC.1 s2 (Nat.le_refl _) s12)
  · rw [p7 11 (by omega), s8]
    exact (kc_fr (fr' := e_bh fr N (top + 1)) (S' := S) (fun _ _ => rfl) (fun j hj => if_neg (by have := (s14 j hj).1; omega))).symm
/-- back to the innermost try -/
theorem c_resc16 {x1 : Int32} {at' : Nat} (hS : cs_S G) (hk43 : mj_i G (707 + 4 * at') 0 = nI 43) : ∀ {n i : Nat}, i = at' + n → i < 200 → (∀ j, at' < j → j ≤ i → ¬ mj_i G (707 + 4 * j) 0 = nI 43) → Ou_restore d (707 + 4 * at') G (fun G3 => St_cut d (nI at') G3 (fun G4 => (mj_k G4 (707 + 4 * at') = 5) ∧ (mj_k G4 (mj_r G4 (707 + 4 * at') 1) = 6) ∧ Rn_enter d (mj_r G4 (mj_r G4 (707 + 4 * at') 1) 9) G4 (fun v8 G7 => K v8 G7))) → Rn_rescue_16 (d + 1) x1 (nI i) G K
  | 0, i, hi, h200, _, h => by
    have hi' : i = at' := by omega
    subst hi'
    exact w_Rn_rescue_16 hS (z_bf (by rw [z_lt (by omega) (by omega)]; omega) (z_ixi h200 (by omega) (z_bt hk43 h)))
  | n + 1, i, hi, h200, hno, h => by
    refine w_Rn_rescue_16 hS (z_bf (by rw [z_lt (by omega) (by omega)]; omega) (z_ixi h200 (by omega) (z_bf (hno i (by omega) (Nat.le_refl _)) ?_)))
    obtain ⟨y, rfl⟩ : ∃ y, i = y + 1 := ⟨i - 1, by omega⟩
    rw [sh_p, sh_s]
    exact c_resc16 (n := n) hS hk43 (by omega) (by omega) (fun j h1 h2 => hno j h1 (by omega)) h
theorem try_C {r8 q1 TT dm : Nat} {e1 : Int32} {V1 : Nat → Nat → Option rv} {o1 : ost} {ra1 rd1 : Nat → Int32} {sp1 : Nat → Bool} {st1 hts1 : Nat} {FG1 : Nat → kfr} (hA : u_A u r) (hk6 : mj_k (u_G u) r = 6) (h8 : mj_r (u_G u) r 8 = r8) (hC : CC u ρ G N B M S lc ln op ch V o ra rd sp st hts FG fr b cn top la) (hnx : mj_r G (707 + 4 * top) 2 = nx) (hV : pV u N V) (hch : ∀ y, y ∈ ch → en_x y ≤ N)
    (ih : sgC u (N + 1) (e_bh B N N) M S lc ln op ch V o ra rd sp st hts FG r8 (x + 1) 0 q1 e1 V1 o1 ra1 rd1 sp1 st1 hts1 FG1) (hV1 : ∀ s l, s < N → V1 s l = V s l) (h80 : q1 ≤ 80) (hop : op ≤ 12) (hb1 : 7 * (top + 1) + (q1 - (x + 1)) ≤ 84 * op + 80) (hb2 : 5 * (b (N - 1) + cn (N - 1)) ≤ 95 * op + (x + 1)) (hbq : 5 * (b (N - 1) + cn (N - 1)) ≤ 95 * op + q) (hd : 299 ≤ d) (hdm : 240 ≤ dm) (hTT : t + 2 + 100 * (2000 - st) + (q1 - (x + 1)) ≤ TT) (hT9 : TT ≤ 900000)
    (kA : e1 = nI 0 → ∀ ρ' G' t', rN u ρ G N B M S lc ln op ch V o1 ra1 rd1 sp1 st1 hts1 FG1 fr b cn top la nx q TT ρ' G' cn t' → lp (d + 1) K t' G')
    (kB : e1 = Int32.ofInt (-9) → ∀ o2 ρ' G' cn' top' t', rX u ρ G o e1 N B M S lc ln op ch V o2 ra1 rd1 sp1 st1 hts1 FG1 fr b cn top la TT ρ' G' cn' top' t' → lf (d + 1) K t' e1 G')
    (kC : ¬ e1 = nI 0 → ¬ e1 = Int32.ofInt (-9) → ∀ ρ' G' t', CC u ρ' G' N B M S lc ln op ch V o ra1 rd1 sp1 st1 hts1 FG1 fr b cn top la → ro_e ρ ρ' G → fw ρ bW G G' → FF ρ top (fr (N - 1)) G G' → mj_r G' (707 + 4 * top) 2 = nx → t' + 100 * (2000 - st1) ≤ t + 1 + 100 * (2000 - st) + (q1 - (x + 1)) → Rn_enter d (mj_r (u_G u) r 9) G' (fun v8 G7 => Rn_run_33 (d + 2) v8 (nI (t' + 1)) G7 K)) : Rn_enterTry dm r G (kk d K t) := by
  obtain ⟨dm, rfl⟩ : ∃ y, dm = y + 3 := ⟨dm - 3, by omega⟩
  have ht : top < 199 := by omega
  have hh0 := hC.1
  have hG := hh_n hh0
  obtain ⟨A1, A2, A3⟩ := wC_A hC.2.1 hA
  have hoC := hC.2.2.2.2.2.2.2.1
  have hs0 := hC.2.2.1
  have hB0 : ∀ s, s < N → B s ≤ s := hs0.2.2.2.2.2.2.2.2.2.2.2.2.1
  have hSN : ∀ k, k < M → S k < N := fun k hk => (hs0.2.2.2.2.2.2.2.2.2.2.2.2.2 k hk).1
  refine w_Rn_enterTry hh0.1 ⟨A1.trans hk6, c_pushScope hh0 hC.2.2.2.2.1 ht (fun G1 a1 a2 a3 => z_bf (by omega) ?_)⟩
  obtain ⟨oC1, -⟩ := oC_f hh0 hoC.1 a2 (fun o q => by unfold pW at q; unfold oW; omega)
  refine c_markToRestore (i := top + 1) a1 oC1 (by omega) (by omega) (fun ρ2 G2 i1 i2 i3 i4 i5 i6 => ⟨fun _ => ?_, fun q => absurd rfl q⟩)
  obtain ⟨p1, p2, p3, p4, p5, p6, p7, p8, p9, p10, p11, p12, p13⟩ := a3
  have hn1 : mj_n G ≤ mj_n G1 := a2.1
  have F : fw ρ (qW top) G G2 := fw_t (fw_m a2 (fun o q => by unfold pW at q; unfold qW; omega)) ro_r (fw_m i3 (fun o q => by unfold qW; omega))
  have he2 : ro_e ρ ρ2 G := fun a ha => i2 a (Nat.lt_of_lt_of_le ha hn1)
  have g11 : ∀ j, mj_i G2 11 j = mj_i G1 11 j := fun j => ce_i a1 i3 (by decide) (by omega)
  obtain ⟨C2, F2, FF2⟩ := CC_ps (cur := fr (N - 1)) hC ht hV hch i1 he2 F ((g11 4).trans p1) ((g11 2).trans p2) (fun j hj => (i4 j (by omega) (by omega) (by omega)).trans (p3 j (by omega))) ((i4 3 (by decide) (by decide) (by decide)).trans p5) ((i4 4 (by decide) (by decide) (by decide)).trans p6) ((i4 5 (by decide) (by decide) (by decide)).trans p7) ((i4 6 (by decide) (by decide) (by decide)).trans p8) ((i4 12 (by decide) (by decide) (by decide)).trans ((p3 12 (by omega)).trans hs0.2.2.2.2.2.2.2.2.1))
  have kd2 : mj_i G2 (707 + 4 * (top + 1)) 0 = nI 43 := (i4 0 (by decide) (by decide) (by decide)).trans p4
  have nx2 : mj_r G2 (707 + 4 * (top + 1)) 2 = r8 := (i5 2 (by decide)).trans (p11.trans ((A2 8).trans h8))
  have nxt : mj_r G2 (707 + 4 * top) 2 = nx := by
    rw [((F.2.2.2 (707 + 4 * top) (by omega)).2.2 (by rw [ow_s (by omega)]; unfold qW; omega)).1 2]
    exact hnx
  have hs : ∀ s, s < N → e_bh B N N s = B s ∧ e_bh fr N (top + 1) s = fr s ∧ e_bh b N (b (N - 1) + cn (N - 1)) s = b s ∧ e_bh cn N 0 s = cn s := fun s hsl => ⟨if_neg (by omega), if_neg (by omega), if_neg (by omega), if_neg (by omega)⟩
  have hfN : e_bh fr N (top + 1) N = top + 1 := if_pos rfl
  have hcN : e_bh cn N 0 N = 0 := if_pos rfl
  refine sc_N hC nxt hV1 C2 he2 F2 FF2 nx2 kd2 ⟨by decide, by decide⟩ hs hfN (if_pos rfl) (by rw [hcN]; exact Nat.zero_le _) (Nat.le_refl _) (fun _ _ => rfl) ih h80 hb1 hop (by rw [hcN]; exact hb2) hbq hd (by omega) hT9 kA (fun he o2 ρ3 G3 cn3 top3 t3 hX => ?_)
  by_cases h9 : e1 = Int32.ofInt (-9)
  · exact kB h9 o2 ρ3 G3 cn top3 t3 (rX_out i1 (by omega) he2 F2 FF2 kd2 (fun q => absurd h9 q) hs hfN hV1 hB0 (Nat.le_refl _) (fun _ _ => rfl) hSN o_le_r (by omega) hX)
  -- it is caught
  obtain ⟨w1, w2, w3, w4, w5, w6, w7, w8, w9, w10, w11, w12, w13, w14, w15, w16⟩ := hX
  have hG2 := hh_n i1
  have hG3 := hh_n w1
  have he3 : ro_e ρ ρ3 G := fun a ha => (w12 a (Nat.lt_of_lt_of_le ha F2.1)).trans (he2 a ha)
  have fi : ∀ j, j ≠ 6 ∧ ¬ (19 ≤ j ∧ j ≤ 21) → mj_i G3 (707 + 4 * (top + 1)) j = mj_i G2 (707 + 4 * (top + 1)) j := fun j hj => FF_i w14 i1 (Nat.le_refl _) (by omega) hj
  have fp : ∀ j, j ≠ 2 → mj_r G3 (707 + 4 * (top + 1)) j = mj_r G2 (707 + 4 * (top + 1)) j := fun j hj => FF_p w14 i1 (Nat.le_refl _) (by omega) (fun _ => hj)
  have hbk : bk ρ3 G3 (top + 1) o := by
    obtain ⟨z1, z2, z3, z4, z5⟩ := i6
    refine ⟨(fi 15 (by decide)).trans z1, (fi 16 (by decide)).trans z2, (fi 17 (by decide)).trans z3, by rw [fp 18 (by decide)]; exact z4, fun j hj => ?_⟩
    rw [fp 18 (by decide)]
    rcases i1.2.1.2.2.1 (top + 1) (by omega) with g | ⟨g1, g2, g3, -⟩
    · exact absurd g z4
    · refine ((w14 _ g2 (by rw [ow_d g1, g3]; omega) (by rw [ow_d g1, g3]; omega)).2 j (fun q => ?_) (fun q => ?_)).trans (z5 j hj)
      · have := q.1
        rw [Nat.add_sub_cancel, hfN] at this
        omega
      · have := q.1
        omega
  unfold lf
  refine w_Rn_rescue w1.1 (z_bf h9 ?_)
  rw [w8]
  refine c_resc16 (n := top3 - (top + 1)) (at' := top + 1) w1.1 ((fi 0 (by decide)).trans kd2) (by omega) w10 (fun j h1 h2 => w11 h9 j h1 h2) ?_
  obtain ⟨d, rfl⟩ : ∃ y, d = y + 3 := ⟨d - 3, by omega⟩
  refine c_restore w1 w5.1 hoC.1.1 w6 hbk (by omega) (by omega) (fun ρ4 G4 j1 j2 j3 j4 j5 j6 j7 => ?_)
  have he4 : ro_e ρ ρ4 G := fun a ha => (j2 a (Nat.lt_of_lt_of_le ha (Nat.le_trans F2.1 w13.1))).trans (he3 a ha)
  have j11 : ∀ j, mj_i G4 11 j = mj_i G3 11 j := fun j => ce_i w1 j3 (by decide) (by unfold oW; omega)
  have g4i : ∀ i j, i < 200 → mj_i G4 (707 + 4 * i) j = mj_i G3 (707 + 4 * i) j := fun i j hi => by
    by_cases q : i = top + 1
    · rw [q]
      exact j6 j
    · exact ce_i w1 j3 (by omega) (by unfold oW; omega)
  refine c_cut (at' := top + 1) (top := top3) (fl := fun i => cfl G4 top3 (top3 + 1 - i)) j1 ((j11 4).trans w8) w10 (by omega) (by
    show _ = cfl G4 top3 (top3 + 1 - (top3 + 1))
    rw [Nat.sub_self]
    rfl) (fun i h1 h2 => ?_) (fun G5 v1 v2 v3 v4 v5 v6 v7 => ?_)
  · have e1' : top3 + 1 - i = (top3 - i) + 1 := by omega
    have e2' : top3 + 1 - (i + 1) = top3 - i := by omega
    have e3' : top3 - (top3 - i) = i := by omega
    show (_ → cfl G4 top3 (top3 + 1 - i) = _) ∧ (_ → cfl G4 top3 (top3 + 1 - i) = cfl G4 top3 (top3 + 1 - (i + 1)))
    rw [e1', e2']
    unfold cfl
    rw [e3']
    refine ⟨fun q => if_pos q, fun q => ?_⟩
    rw [if_neg q]
    cases top3 - i <;> rfl
  · -- the picture is as ahead of the try
    have sc3 : mj_i G4 (707 + 4 * (top + 1)) 3 = nI (top + 1) := (g4i _ 3 (by omega)).trans ((fi 3 (by decide)).trans ((i4 3 (by decide) (by decide) (by decide)).trans p5))
    have ba5 : mj_i G4 (707 + 4 * (top + 1)) 5 = nI (b (N - 1) + cn (N - 1)) := (g4i _ 5 (by omega)).trans ((fi 5 (by decide)).trans ((i4 5 (by decide) (by decide) (by decide)).trans (p7.trans hC.2.2.2.2.2.1)))
    have fl5 : mj_i G5 11 2 = nI (b (N - 1) + cn (N - 1)) := by
      rw [v4]
      show cfl G4 top3 (top3 + 1 - (top + 1)) = _
      have e1' : top3 + 1 - (top + 1) = (top3 - (top + 1)) + 1 := by omega
      rw [e1']
      unfold cfl
      rw [show top3 - (top3 - (top + 1)) = top + 1 by omega, if_pos sc3, ba5]
    have d3 := dC_out w3 (fun s hsn => w15 s (by rw [Nat.add_sub_cancel]; exact hsn)) hs hV1 hB0 (Nat.le_refl _) (fun _ _ => rfl) hSN
    have nim4 : ∀ o, (oW o ∨ o = 707 + 4 * (top + 1)) → ¬ im_o o := fun o q => by
      rcases q with q | q
      · exact oW_im q
      · rw [q]
        unfold im_o
        omega
    have fr1 : ∀ s, s < N → fr s ≤ top := hs0.2.2.2.2.1
    have dC4 : dC u ρ4 G4 N B M S V ra1 rd1 sp1 fr b cn := ⟨ce_w w1 d3.1 j3 j2 (fun o q => ⟨nim4 o q, by unfold oW at q; omega⟩) (fun s hsl => by have := fr1 s hsl; unfold oW; omega), cu_w w1 d3.1 d3.2.1 j3 (fun o q => by unfold oW at q; omega), fun k hk => by
      have := fr1 _ (hSN k hk)
      rw [g4i _ _ (by omega), g4i _ _ (by omega), g4i _ _ (by omega)]
      exact d3.2.2 k hk⟩
    have FF3 : FF ρ top (fr (N - 1)) G G3 := FF_t FF2 he2 F2.1 (FF_lo w14 (by omega) (Nat.lt_succ_self _) (Or.inr ⟨by rw [Nat.add_sub_cancel, hfN]; omega, by rw [Nat.add_sub_cancel, hfN]; omega⟩))
    have FF4 : FF ρ top (fr (N - 1)) G G4 := FF_t FF3 he3 (Nat.le_trans F2.1 w13.1) (FF_push w1 j3 ht (fun o q => by unfold oW at q; omega))
    have n4 : mj_n G ≤ mj_n G4 := Nat.le_trans F2.1 (Nat.le_trans w13.1 j3.1)
    have FF5 : FF ρ top (fr (N - 1)) G G5 := FF_t FF4 he4 n4 (fun a ha h7 h8 => ⟨fun j _ => v7 a j, fun j _ _ => v6 a j (fun q => by
      rw [q, ow_s (by decide)] at h7
      omega)⟩)
    have fw4 : fw ρ bW G G4 := fw_t (fw_t F2 he2 w13) he3 (fw_m j3 (fun o q => ⟨by unfold oW at q; omega, nim4 o q⟩))
    have fw5 : fw ρ bW G G5 := fw_t fw4 he4 (fw_m v2 (fun o q => ⟨by omega, fw11 q⟩))
    have w24 := wC_f w1 w2 j3 j2 nim4
    have fg4 := fgC_f w1 w7 j3 j2 (fun o q => ⟨nim4 o q, by unfold oW at q; unfold gW; omega⟩)
    have uc4 := uC_f w1 w4 j3 (fun o q => by unfold oW at q; omega)
    have CC5 : CC u ρ4 G5 N B M S lc ln op ch V o ra1 rd1 sp1 st1 hts1 FG1 fr b cn top la := ⟨v1, wC_f j1 w24 v2 ro_r (fun o q => fw11 q), sC_F FF5 hh0 hs0, ⟨ce_w j1 dC4.1 v2 ro_r (fun o q => ⟨fw11 q, by omega⟩) (fun s hsl => by omega), cu_w j1 dC4.1 dC4.2.1 v2 (fun o q => by omega), fun k hk => by rw [v6 _ _ (by omega), v6 _ _ (by omega), v6 _ _ (by omega)]; exact dC4.2.2 k hk⟩, by rw [v3]; rfl, fl5, uC_f j1 uc4 v2 (fun o q => by omega), (oD_f j1 (oD_x w5 j5 j4) v2 (fun o q => by unfold oW; omega)).1, fgC_f j1 fg4 v2 ro_r (fun o q => ⟨fw11 q, by unfold gW; omega⟩)⟩
    have tg4 : mj_r G5 (707 + 4 * (top + 1)) 1 = r := by
      rw [v7, j7 1 (by decide), fp 1 (by decide), i5 1 (by decide)]
      exact p10
    obtain ⟨B1, B2, B3⟩ := wC_A CC5.2.1 hA
    have nx5 : mj_r G5 (707 + 4 * top) 2 = nx := by
      have q4 := ((j3.2.2.2 (707 + 4 * top) (by omega)).2.2 (by rw [ow_s (by omega)]; unfold oW; omega)).1 2
      have q3 := (w14 (707 + 4 * top) (by omega) (by rw [ow_s (by omega)]; omega) (by rw [ow_s (by omega)]; omega)).1 2 (fun q => by have := q.1; omega)
      rw [v7, q4, q3]
      exact nxt
    rw [tg4, B2 9]
    exact ⟨cs_g14 CC5.1.1 (by omega), B1.trans hk6, kC he h9 ρ4 G5 t3 CC5 he4 fw5 FF5 nx5 (by omega)⟩
end ZL
