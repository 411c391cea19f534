/-! CALLS opened by the class -/
section ZZJ
variable {u : wo} {ρ ρ' ρ0 ρ1 : Nat → Nat} {D : Nat → rv} {I : Nat → Nat → rv} {G G0 G1 G2 G' : mj_G} {W : Nat → Prop} {cur bN i p q s r d T T2 tg rm me t m j : Nat} {x a lt : Nat → Nat} {g : Nat → Option rv} {e : Int32} {v : rv} {N : Nat} {B : Nat → Nat} {M : Nat} {S : Nat → Nat} {lc : Nat} {ln : Nat → Nat} {op : Nat} {ch : List en} {V : Nat → Nat → Option rv} {o : ost} {ra rd : Nat → Int32} {sp : Nat → Bool} {st hts : Nat} {FG : Nat → kfr} {V' : Nat → Nat → Option rv} {o' : ost} {ra' rd' : Nat → Int32} {sp' : Nat → Bool} {st' hts' : Nat} {FG' : Nat → kfr} {fr b cn : Nat → Nat} {top la : Nat}
/-- scopes stay where their variables are not written, and of their frames other ints -/
theorem ce_q (h : hh ρ D I G) (hE : ce ρ D G N B V fr b cn) (F : fw ρ W G G') (he : ro_e ρ ρ' G) (hW : ∀ o, W o → ¬ im_o o) (hv : ∀ s, s < N → ∀ p, b s ≤ p → p < b s + cn s → ¬ W (67 + 2 * p)) (hf : ∀ s, s < N → ∀ j, j = 4 ∨ j = 5 ∨ j = 6 → mj_i G' (707 + 4 * fr s) j = mj_i G (707 + 4 * fr s) j) : ce ρ' D G' N B V fr b cn := by
  refine ⟨hE.1, fun s hs => ?_⟩
  obtain ⟨h1, h2, h3, h4, h5, h6, h7, h8⟩ := hE.2 s hs
  have ev : ∀ p j, b s ≤ p → p < b s + cn s → mj_i G' (67 + 2 * p) j = mj_i G (67 + 2 * p) j := fun p j h1 h2 => ce_i h F (by omega) (hv s hs p h1 h2)
  refine ⟨h1, h2, h3, (hf s hs 4 (Or.inl rfl)).trans h4, (hf s hs 5 (Or.inr (Or.inl rfl))).trans h5, (hf s hs 6 (Or.inr (Or.inr rfl))).trans h6, fun p p1 p2 => ?_, fun l v q => ?_⟩
  · rcases h7 p p1 p2 with g | ⟨l, v, g1, g2, g3, g4, g5⟩
    · exact Or.inl ((ev p 6 p1 p2).trans g)
    · exact Or.inr ⟨l, v, g1, (ev p 6 p1 p2).trans g2, g3, ce_cv1 h F he hW (hv s hs p p1 p2) (by omega) g5.1 g4, g5⟩
  · obtain ⟨p, p1, p2, p3⟩ := h8 l v q
    exact ⟨p, p1, p2, (ev p 6 p1 p2).trans p3⟩
/-- an int of the stack's -/
theorem s1_w {y : Int32} (h : hh ρ D I G) (e : G' = mj_pI G 11 j y) : hh ρ D I G' ∧ fw ρ (fun q => q = 11) G G' ∧ (∀ x i, ¬ (x = 11 ∧ i = j) → mj_i G' x i = mj_i G x i) ∧ mj_i G' 11 j = y ∧ (∀ x i, mj_r G' x i = mj_r G x i) := by
  subst e
  have hk : mj_k G 11 ≠ 12 := by rw [cs_k (K := 10) h.1 rfl]; decide
  exact ⟨hh_I h (by unfold imm; rw [ow_s (by decide)]; unfold im_o; omega) (fun _ q => absurd q hk), fw_I (ow_s (by decide)), fun x i q => if_neg q, z_iIs, fun _ _ => rfl⟩
/-- a macro's frame -/
theorem CC_mac {op' : Nat} {ch' : List en} (hC : CC u ρ G N B M S lc ln op ch V o ra rd sp st hts FG fr b cn top la) (ht : top < 199) (hbN : bN = b (N - 1) + cn (N - 1)) (hb : bN + m ≤ 320) (hd : p_dis lt m) (hl : ∀ i, i < m → lt i < 26) (ha : aC ρ (u_D u) G bN lt g m) (hf : aF G top bN m) (hh' : hh ρ (u_D u) (u_I u) G') (F : fw ρ (qW top) G G') (c1 : mj_i G' 11 4 = nI (top + 1)) (c2 : mj_i G' 11 2 = nI (bN + m))
    (e3 : mj_i G' (707 + 4 * (top + 1)) 3 = nI (top + 1)) (e4 : mj_i G' (707 + 4 * (top + 1)) 4 = Int32.ofInt (-1)) (e5 : mj_i G' (707 + 4 * (top + 1)) 5 = nI bN) (e6 : mj_i G' (707 + 4 * (top + 1)) 6 = nI m) (e7 : mj_i G' (707 + 4 * (top + 1)) 7 = nI la) (e10 : chC (u_A u) (u_G u) fr G' ch' (top + 1) (mj_i G' (707 + 4 * (top + 1)) 10)) (hch : ∀ y, y ∈ ch' → en_x y ≤ N) (e11 : mj_i G' (707 + 4 * (top + 1)) 11 = mj_i G (707 + 4 * top) 11) (e12 : mj_i G' (707 + 4 * (top + 1)) 12 = nI op') :
    CC u ρ G' (N + 1) (e_bh B N 0) M S lc ln op' ch' (e_cl V N (p_vl lt g m)) o ra rd sp st hts FG (e_bh fr N (top + 1)) (e_bh b N bN) (e_bh cn N m) (top + 1) la ∧ fw ρ bW G G' ∧ FF ρ top cur G G' := by
  have hce := ce_arg hC ht hbN hb hd hl ha hf
  have hcu := cu_arg hC hd hl ha
  have hsk := CC_sk hC F ht
  obtain ⟨h1, h2, h3, h4, h5, h5', hu, h8, h9⟩ := hC
  have hG := hh_n h1
  have hF : ∀ cur, FF ρ top cur G G' := fun cur => FF_push h1 F ht (fun o q => by unfold qW at q; omega)
  have nim : ∀ o, qW top o → ¬ im_o o := fun o q => qW_im ht q
  obtain ⟨s1, s2, s3, s4, s5, s6, s7, s8, s9, s10, s11, s12, s13, s14⟩ := h3
  have frx : ∀ s, s < N → e_bh fr N (top + 1) s = fr s := fun s hs => if_neg (by omega)
  have frN : e_bh fr N (top + 1) N = top + 1 := if_pos rfl
  have hv : ∀ s, s < N + 1 → ∀ p, e_bh b N bN s ≤ p → p < e_bh b N bN s + e_bh cn N m s → ¬ qW top (67 + 2 * p) := fun s hs p p1 p2 q => by
    have := (hce.2 s hs).2.1
    unfold qW at q
    omega
  have ce2 := ce_q h1 hce F ro_r nim hv (fun s hs j hj => by
    by_cases q : s = N
    · rw [q, frN]
      rcases hj with rfl | rfl | rfl
      · exact e4.trans hf.1.symm
      · exact e5.trans hf.2.1.symm
      · exact e6.trans hf.2.2.symm
    · rw [frx s (by omega)]
      have := s5 s (by omega)
      exact ce_i h1 F (by omega) (by unfold qW; omega))
  have cu2 := cu_v h1 hce hcu F hv
  have hBB : ∀ s, s < N + 1 → e_bh B N 0 s ≤ s := fun s hs => by
    unfold e_bh
    by_cases q : s = N
    · rw [if_pos q]
      omega
    · rw [if_neg q]
      exact s13 s (by omega)
  refine ⟨⟨hh', wC_f h1 h2 F ro_r nim, ⟨by omega, by omega, s3, by omega, fun s hs => ?_, ?_, e7, ?_, e12, fL_F (hF 0) h1 s4 s2 s11 s10, s11, chC_fr frx hch e10, hBB, fun k hk' => ?_⟩, ⟨ce2, cu2, fun k hk' => ?_⟩, c1, ?_, uC_f h1 hu F (fun o q => by unfold qW at q; omega), (oD_f h1 h8 F (fun o q => by unfold qW at q; unfold oW; omega)).1, fgC_f h1 h9 F ro_r (fun o q => ⟨nim o q, by unfold qW at q; unfold gW; omega⟩)⟩, fw_m F (fun o q => ⟨by unfold qW at q; omega, nim o q⟩), hF cur⟩
  · by_cases q : s = N
    · rw [q, frN]
      exact Nat.le_refl _
    · rw [frx s (by omega)]
      have := s5 s (by omega)
      omega
  · rw [e3, Nat.add_sub_cancel, frN]
  · rw [e11, s8]
    exact (kc_fr (fun _ _ => rfl) (fun j hj => frx _ (s14 j hj).1)).symm
  · obtain ⟨k1, k2, k3, k4, -⟩ := hsk k hk'
    exact ⟨k1, k2, k3, k4⟩
  · obtain ⟨-, -, -, -, k5⟩ := hsk k hk'
    exact k5
  · rw [c2, Nat.add_sub_cancel, show e_bh b N bN N = bN from if_pos rfl, show e_bh cn N m N = m from if_pos rfl]
/-- the variables that are meant for parameters are no one's -/
theorem c_oc90 {x3 : Int32} {K : Int32 → mj_G → Prop} (ht : top < 199) (hbN : bN = b (N - 1) + cn (N - 1)) (hb : bN + 3 ≤ 320) : ∀ {n k : Nat} {G : mj_G}, k + n = 3 → CC u ρ G N B M S lc ln op ch V o ra rd sp st hts FG fr b cn top la → aF G top bN m → (∀ i, i < k → mj_i G (67 + 2 * (bN + i)) 6 = Int32.ofInt (-1)) → (∀ G', CC u ρ G' N B M S lc ln op ch V o ra rd sp st hts FG fr b cn top la → fw ρ bW G G' → FF ρ top (fr (N - 1)) G G' → mj_r G' (707 + 4 * top) 2 = mj_r G (707 + 4 * top) 2 → aF G' top bN m → (∀ i, i < 3 → mj_i G' (67 + 2 * (bN + i)) 6 = Int32.ofInt (-1)) → Rn_openCall_90 (d + 1) r rm x3 (707 + 4 * (top + 1)) (nI 3) G' K) → Rn_openCall_90 (d + 1) r rm x3 (707 + 4 * (top + 1)) (nI k) G K
  | 0, k, G, hk, hC, hf, hi, h => by
    have q : k = 3 := by omega
    subst q
    exact h G hC fw_r FF_r rfl hf hi
  | n + 1, k, G, hk, hC, hf, hi, h => by
    have hG := hh_n hC.1
    refine w_Rn_openCall_90 hC.1.1 (z_bf (by rw [z_le (by omega) (by omega)]; omega) ⟨cs_g14 hC.1.1 (by omega), ?_⟩)
    rw [hf.2.1, z_add]
    refine z_ixi (by omega) (by omega) ?_
    intro G1 e1
    obtain ⟨w1, w2, w3, w4, -⟩ := var_w hC.1 (by omega) e1
    clear e1
    obtain ⟨i1, i2, i3⟩ := CC_a (cur := fr (N - 1)) hC ht hbN w1 (fw_m w2 (fun o q => by unfold aW; omega)) ro_r
    have nx : mj_r G1 (707 + 4 * top) 2 = mj_r G (707 + 4 * top) 2 := ((w2.2.2.2 (707 + 4 * top) (by omega)).2.2 (by rw [ow_s (by omega)]; omega)).1 2
    rw [z_add]
    refine c_oc90 ht hbN hb (n := n) (k := k + 1) (by omega) i1 (aF_f hC.1 hf ht w2 (by omega)) (fun i hi' => ?_) (fun G' y1 y2 y3 y4 y5 y6 => h G' y1 (fw_t i2 ro_r y2) (FF_t i3 ro_r i2.1 y3) (y4.trans nx) y5 y6)
    by_cases q : i = k
    · rw [q]
      exact w3
    · exact (ce_i hC.1 w2 (by omega) (by omega)).trans (hi i (by omega))
/-- a call, by the class, up to its body -/
theorem c_oc {gg bN dm : Nat} {ga : Nat → Nat} {av av0 : Nat → rv} {g' : Nat → Option rv} {e1 e2 : Int32} {ra1 rd1 ra2 rd2 : Nat → Int32} {ch' : List en} {K : Int32 → mj_G → Prop} (hC : CC u ρ G N B M S lc ln op ch V o ra rd sp st hts FG fr b cn top la) (hop : op ≤ 12) (hchx : ∀ y, y ∈ ch → en_x y ≤ N) (hlc : lc ≤ 10) (k1 : mj_k G r = 6) (k2 : ∀ j, mj_r G r j = mj_r (u_G u) r j) (k3 : ∀ j, mj_i G r j = mj_i (u_G u) r j) (hA : u_A u r) (hk6 : mj_k (u_G u) r = 6) (htop : top < 199) (hbN : bN = b (N - 1) + cn (N - 1)) (hb : bN + 3 ≤ 320)
    (hnd : mj_i (u_G u) r 3 = nI gg) (hgg : gg < 10) (hrm : l_nd (u_qm u gg) ln lc 0 = rm) (hrm0 : rm ≠ 0) (mc : mcP u T2 tg rm x a m me) (hd : 210 ≤ dm)
    (hag : agC u T2 rm a m N B M S lc ln op ch V o ra rd sp st hts FG (mj_r (u_G u) r 7) 0 0 (fun _ => 3) av0 e1 ga av ra1 rd1)
    (hdf : e1 = nI 0 → dfC u T2 x a m N B M S lc ln op ch V o ra1 rd1 sp st hts FG 0 (gvO ga av) e2 g' ra2 rd2)
    (hch' : (mj_i (u_G u) r 0 = nI 38 ∧ ∃ y, ch' = y :: ch ∧ en_r y = mj_r (u_G u) r 8 ∧ en_x y = N ∧ en_n y = lc ∧ en_c y = ln) ∨ (mj_i (u_G u) r 0 = nI 33 ∧ ch' = []))
    (h1 : ¬ e1 = nI 0 → ∀ ρ' G', CC u ρ' G' N B M S lc ln op ch V o ra1 rd1 sp st hts FG fr b cn top la → ro_e ρ ρ' G → fw ρ bW G G' → FF ρ top (fr (N - 1)) G G' → mj_r G' (707 + 4 * top) 2 = mj_r G (707 + 4 * top) 2 → K e1 G')
    (h2 : e1 = nI 0 → ¬ e2 = nI 0 → ∀ ρ' G', CC u ρ' G' N B M S lc ln op ch V o ra2 rd2 sp st hts FG fr b cn top la → ro_e ρ ρ' G → fw ρ bW G G' → FF ρ top (fr (N - 1)) G G' → mj_r G' (707 + 4 * top) 2 = mj_r G (707 + 4 * top) 2 → K e2 G')
    (h3 : e1 = nI 0 → e2 = nI 0 → op = 12 → ∀ ρ' G', CC u ρ' G' N B M S lc ln op ch V o ra2 rd2 sp st hts FG fr b cn top la → ro_e ρ ρ' G → fw ρ bW G G' → FF ρ top (fr (N - 1)) G G' → mj_r G' (707 + 4 * top) 2 = mj_r G (707 + 4 * top) 2 → K (Int32.ofInt (-8)) G')
    (h4 : e1 = nI 0 → e2 = nI 0 → op < 12 → ∀ ρ' G1 G', CC u ρ' G1 N B M S lc ln op ch V o ra2 rd2 sp st hts FG fr b cn top la → ro_e ρ ρ' G → fw ρ bW G G1 → FF ρ top (fr (N - 1)) G G1 → mj_r G1 (707 + 4 * top) 2 = mj_r G (707 + 4 * top) 2 → CC u ρ' G' (N + 1) (e_bh B N 0) M S lc ln (op + 1) ch' (e_cl V N (p_vl (p_lt (u_w u T2) a) g' m)) o ra2 rd2 sp st hts FG (e_bh fr N (top + 1)) (e_bh b N bN) (e_bh cn N m) (top + 1) la → fw ρ' bW G1 G' → FF ρ' top (fr (N - 1)) G1 G' → mj_r G' (707 + 4 * top) 2 = mj_r G1 (707 + 4 * top) 2 → mj_r G' (707 + 4 * (top + 1)) 2 = mj_r (u_G u) rm 8 → mj_i G' (707 + 4 * (top + 1)) 0 = mj_i (u_G u) r 0 → K (nI 0) G') : Rn_openCall dm r G K := by
  obtain ⟨dm, rfl⟩ : ∃ y, dm = y + 4 := ⟨dm - 4, by omega⟩
  have hs := hC.2.2.1
  have hG := hh_n hC.1
  obtain ⟨pc, p6, p7⟩ := mc_pC hC.2.1 mc
  have hm3 := pc.1
  refine w_Rn_openCall hC.1.1 ⟨k1, ?_⟩
  rw [k3, hnd]
  refine c_firstMacro (n := lc) hC.1.1 hC.2.2.2.2.1 hs.2.1 hs.2.2.2.2.2.2.1 (by have := hs.2.2.2.1; omega) hgg hlc hs.2.2.2.2.2.2.2.2.2.1 (hC.2.1.2.1 _ hgg).2 ?_
  rw [hrm]
  refine z_bf hrm0 ?_
  rw [hC.2.2.2.2.1, hC.2.2.2.2.2.1, ← hbN, z_add]
  refine z_bf (by rw [z_le (by omega) (by omega)]; omega) (z_bt (by rw [z_le (by omega) (by omega)]; omega) (z_ixi (by omega) (by omega) ?_))
  intro G6 e6 G7 e7
  obtain ⟨b1, b2, b3, b4, b5⟩ := fr_w hC.1 (by omega) e6
  obtain ⟨b6, b7, b8, b9, b10⟩ := fr_w b1 (by omega) e7
  clear e6 e7
  have F7 : fw ρ (aW bN top) G G7 := fw_t (fw_m b2 (fun o q => by unfold aW; omega)) ro_r (fw_m b7 (fun o q => by unfold aW; omega))
  obtain ⟨c1, c2, c3⟩ := CC_a (cur := fr (N - 1)) hC htop hbN b6 F7 ro_r
  obtain ⟨pc7, p67, p77⟩ := mc_pC c1.2.1 mc
  refine c_countNamed c1.1.1 p67 p77 pc7 ⟨cs_g14 c1.1.1 (by omega), ?_⟩
  intro G11 e11
  obtain ⟨b11, b12, b13, b14, b15⟩ := fr_w b6 (by omega) e11
  clear e11
  have F11 : fw ρ (aW bN top) G G11 := fw_t F7 ro_r (fw_m b12 (fun o q => by unfold aW; omega))
  obtain ⟨d1, d2, d3⟩ := CC_a (cur := fr (N - 1)) hC htop hbN b11 F11 ro_r
  have hf11 : aF G11 top bN m := ⟨(b13 _ _ (by omega)).trans b9, (b13 _ _ (by omega)).trans ((b8 _ _ (by omega)).trans b4), b14⟩
  have nx11 : mj_r G11 (707 + 4 * top) 2 = mj_r G (707 + 4 * top) 2 := (b15 _ _).trans ((b10 _ _).trans (b5 _ _))
  refine c_oc90 htop hbN hb (n := 3) (k := 0) (by omega) d1 hf11 (fun i hi => absurd hi (by omega)) (fun G12 i1 i2 i3 i4 i5 i6 => ?_)
  have F12 := fw_t d2 ro_r i2
  have Q12 := FF_t d3 ro_r d2.1 i3
  have nx12 := i4.trans nx11
  obtain ⟨A1, A2, A3⟩ := wC_A i1.2.1 hA
  refine w_Rn_openCall_90 i1.1.1 (z_bt (by decide) ⟨cs_g14 i1.1.1 (by omega), ?_⟩)
  rw [i5.2.1]
  refine w_Rn_giveArguments i1.1.1 ⟨A1.trans hk6, ?_⟩
  rw [A2 7]
  have ha12 : aC ρ (u_D u) G12 bN (p_lt (u_w u T2) a) (gvO (fun _ => 3) av0) m := fun i hi => ⟨fun _ => i6 i (by omega), fun v hv => by
    have : gvO (fun _ => 3) av0 i = none := if_pos rfl
    rw [this] at hv
    exact nomatch hv⟩
  refine hag fr b cn top la ρ G12 i1 htop bN hbN hb ha12 i5 (dm + 1) _ (by omega) (fun ρ1 G13 j1 j2 j3 j4 j5 j6 => ?_)
  have he13 : ro_e ρ ρ1 G := fun y hy => j2 y (Nat.lt_of_lt_of_le hy F12.1)
  have F13 := fw_t F12 ro_r j3
  have Q13 := FF_t Q12 ro_r F12.1 j4
  have nx13 := j5.trans nx12
  refine z_br (fun q1 => ⟨cs_g14 j1.1.1 (by omega), ?_⟩) (fun q1 => w_Rn_openCall_153 j1.1.1 (z_bf q1 (h1 q1 ρ1 G13 j1 he13 F13 Q13 nx13)))
  obtain ⟨j7, j8⟩ := j6 q1
  rw [j8.2.1]
  obtain ⟨pc13, p613, p713⟩ := mc_pC j1.2.1 mc
  refine w_Rn_giveDefaults j1.1.1 ⟨p613, ?_⟩
  rw [p713]
  refine hdf q1 fr b cn top la ρ1 G13 j1 htop bN hbN hb j7 j8 (dm + 1) _ (by omega) (fun ρ2 G14 l1 l2 l3 l4 l5 l6 => ?_)
  have he14 : ro_e ρ ρ2 G := ro_t he13 F13.1 l2
  have F14 := fw_t F13 he13 l3
  have Q14 := FF_t Q13 he13 F13.1 l4
  have nx14 := l5.trans nx13
  by_cases q2 : e2 = nI 0
  · obtain ⟨l7, l8⟩ := l6 q2
    obtain ⟨pc14, p614, p714⟩ := mc_pC l1.2.1 mc
    obtain ⟨B1, B2, B3⟩ := wC_A l1.2.1 hA
    obtain ⟨C1, C2, C3⟩ := wC_A l1.2.1 mc.2.1
    have hs2 := l1.2.2.1
    refine w_Rn_openCall_153 l1.1.1 (z_bt q2 ⟨p614, ?_⟩)
    rw [C2 8]
    refine c_open l1.1 l1.2.2.2.2.1 htop hs2.2.2.2.2.2.2.2.2.1 hop (B1.trans hk6) (fun ho G23 a1 a2 a3 => z_bf (by omega) ⟨cs_g14 a1.1 (by omega), ?_⟩) (fun ho => z_bt rfl (h3 q1 q2 ho ρ2 G14 l1 he14 F14 Q14 nx14))
    obtain ⟨y1, y2, y3, y4, y5, y6, y7, y8, y9, y10, y11, y12, y13, y14⟩ := a3
    intro G26 e26
    obtain ⟨z1, z2, z3, z4, z5⟩ := fr_w a1 (by omega) e26
    clear e26
    have F26 : fw ρ2 (qW top) G14 G26 := fw_t (fw_m a2 (fun o q => by unfold pW at q; unfold qW; omega)) ro_r (fw_m z2 (fun o q => by unfold qW; omega))
    obtain ⟨pc26, p626, p726⟩ := mc_pC (wC_f l1.1 l1.2.1 F26 ro_r (fun o q => qW_im htop q)) mc
    refine c_countNamed z1.1 p626 p726 pc26 ⟨cs_g14 z1.1 (by omega), ?_⟩
    intro G30 e30 G31 e31
    obtain ⟨z6, z7, z8, z9, z10⟩ := fr_w z1 (by omega) e30
    obtain ⟨z11, z12, z13, z14, z15⟩ := s1_w z6 e31
    have e5 : mj_i G30 (707 + 4 * (top + 1)) 5 = nI bN := (z8 _ _ (by omega)).trans ((z3 _ _ (by omega)).trans (y7.trans (l1.2.2.2.2.2.1.trans (by rw [← hbN]))))
    rw [e5, z9, z_add] at z14
    clear e30 e31
    have F31 : fw ρ2 (qW top) G14 G31 := fw_t (fw_t F26 ro_r (fw_m z7 (fun o q => by unfold qW; omega))) ro_r (fw_m z12 (fun o q => by unfold qW; omega))
    obtain ⟨D1, D2, D3⟩ := wC_A (wC_f l1.1 l1.2.1 F31 ro_r (fun o q => qW_im htop q)) hA
    have s11 : mj_i G31 11 4 = nI (top + 1) := (z13 _ _ (by omega)).trans ((z8 _ _ (by omega)).trans ((z3 _ _ (by omega)).trans y1))
    have lo31 : ∀ i j, i ≤ top → mj_i G31 (707 + 4 * i) j = mj_i G14 (707 + 4 * i) j := fun i j hi => ce_i l1.1 F31 (by omega) (by unfold qW; omega)
    have lo31' : ∀ i j, i ≤ top → mj_i G31 (708 + 4 * i) j = mj_i G14 (708 + 4 * i) j := fun i j hi => ce_i l1.1 F31 (by omega) (by unfold qW; omega)
    have hG14 := hh_n l1.1
    have lor : ∀ i j, i ≤ top → mj_r G31 (707 + 4 * i) j = mj_r G14 (707 + 4 * i) j := fun i j hi => ((F31.2.2.2 (707 + 4 * i) (by omega)).2.2 (by rw [ow_s (by omega)]; unfold qW; omega)).1 j
    have tp : ∀ j, j ≠ 4 → j ≠ 6 → mj_i G31 (707 + 4 * (top + 1)) j = mj_i G23 (707 + 4 * (top + 1)) j := fun j h4 h6 => (z13 _ _ (by omega)).trans ((z8 _ _ (by omega)).trans (z3 _ _ (by omega)))
    have tr1 : mj_r G31 (707 + 4 * (top + 1)) 1 = r := (z15 _ _).trans ((z10 _ _).trans ((z5 _ _).trans y11))
    have tr2 : mj_r G31 (707 + 4 * (top + 1)) 2 = mj_r (u_G u) rm 8 := (z15 _ _).trans ((z10 _ _).trans ((z5 _ _).trans y12))
    have t4 : mj_i G31 (707 + 4 * (top + 1)) 4 = Int32.ofInt (-1) := (z13 _ _ (by omega)).trans ((z8 _ _ (by omega)).trans z4)
    have t5 : mj_i G31 (707 + 4 * (top + 1)) 5 = nI bN := (z13 _ _ (by omega)).trans e5
    have t6 : mj_i G31 (707 + 4 * (top + 1)) 6 = nI m := (z13 _ _ (by omega)).trans z9
    have t0 : mj_i G31 (707 + 4 * (top + 1)) 0 = mj_i (u_G u) r 0 := (tp 0 (by decide) (by decide)).trans (y4.trans (B3 0))
    refine ⟨D1.trans hk6, ?_⟩
    rw [D3 0, s11]
    -- both ways end so
    have fin : ∀ (G34 : mj_G) (y : Int32), G34 = mj_pI G31 (707 + 4 * (top + 1)) 10 y → (chC (u_A u) (u_G u) fr G34 ch' (top + 1) y) → (∀ y, y ∈ ch' → en_x y ≤ N) → K (nI 0) G34 := fun G34 y e34 hcC hcx => by
      obtain ⟨w1, w2, w3, w4, w5⟩ := fr_w z11 (by omega) e34
      clear e34
      have F34 : fw ρ2 (qW top) G14 G34 := fw_t F31 ro_r (fw_m w2 (fun o q => by unfold qW; omega))
      obtain ⟨g1, g2, g3⟩ := CC_mac (cur := fr (N - 1)) (ch' := ch') (op' := op + 1) l1 htop hbN (by omega) (mc_dis mc) (fun i hi => (mc_lt mc hi).1) l7 l8 w1 F34 ((w3 _ _ (by omega)).trans s11) ((w3 _ _ (by omega)).trans z14) ((w3 _ _ (by omega)).trans ((tp 3 (by decide) (by decide)).trans y5)) ((w3 _ _ (by omega)).trans t4) ((w3 _ _ (by omega)).trans t5) ((w3 _ _ (by omega)).trans t6) ((w3 _ _ (by omega)).trans ((tp 7 (by decide) (by decide)).trans ((y3 7 (by omega)).trans hs2.2.2.2.2.2.2.1))) (by rw [w4]; exact hcC) hcx ((w3 _ _ (by omega)).trans ((tp 11 (by decide) (by decide)).trans (y3 11 (by omega)))) ((w3 _ _ (by omega)).trans ((tp 12 (by decide) (by decide)).trans y9))
      exact h4 q1 q2 ho ρ2 G14 G34 l1 he14 F14 Q14 nx14 g1 g2 g3 ((w5 _ _).trans (lor _ _ (Nat.le_refl _))) ((w5 _ _).trans tr2) ((w3 _ _ (by omega)).trans t0)
    rcases hch' with ⟨g0, y, rfl, g1, g2, g3, g4⟩ | ⟨g0, rfl⟩
    · refine z_bt g0 (fun G34 e34 => fin G34 _ e34 ?_ ?_)
      · have i34 : ∀ a i, ¬ (a = 707 + 4 * (top + 1) ∧ i = 10) → mj_i G34 a i = mj_i G31 a i := fun a i q => by rw [e34]; exact if_neg q
        have r34 : ∀ a i, mj_r G34 a i = mj_r G31 a i := fun a i => by rw [e34]; rfl
        refine ⟨top, la, r, by omega, hs2.2.2.2.1, rfl, (r34 _ _).trans tr1, hA, hk6, g1.symm, by have := hs2.1; omega, ?_, ?_, by omega, ?_, ?_⟩
        · rw [g2, i34 _ _ (by omega), lo31 _ _ (Nat.le_refl _)]
          exact hs2.2.2.2.2.2.1
        · rw [i34 _ _ (by omega), lo31 _ _ (Nat.le_refl _)]
          exact hs2.2.2.2.2.2.2.1
        · rw [g3, g4]
          have hL := hs2.2.2.2.2.2.2.2.2.2.1
          have hla := hs2.2.2.2.1
          exact ⟨(i34 _ _ (by omega)).trans ((lo31 _ _ hla).trans hL.1), fun k hk => ⟨(i34 _ _ (by omega)).trans ((lo31' _ _ hla).trans (hL.2 k hk).1), (hL.2 k hk).2⟩⟩
        · rw [i34 _ _ (by omega), lo31 _ _ (Nat.le_refl _)]
          exact chC_k (a0 := top) (by omega) (fun i j hi => (i34 _ _ (by omega)).trans (lo31 i j hi)) (fun i j hi => (i34 _ _ (by omega)).trans (lo31' i j hi)) (fun i hi => (r34 _ _).trans (lor i 1 hi)) (Nat.le_refl _) hs2.2.2.2.2.2.2.2.2.2.2.2.1
      · intro z hz
        rcases List.mem_cons.mp hz with rfl | hz
        · rw [g2]
          exact Nat.le_refl _
        · exact hchx z hz
    · exact z_bf (by rw [g0]; decide) (fun G34 e34 => fin G34 _ e34 rfl (fun y hy => nomatch hy))
  · exact w_Rn_openCall_153 l1.1.1 (z_bf q2 (h2 q1 q2 ρ2 G14 l1 he14 F14 Q14 nx14))
end ZZJ
