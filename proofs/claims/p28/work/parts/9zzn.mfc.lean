/-! FRAGMENTS met by the class -/
/-- what is told to open fragments, when a fragment is put out again -/
def hRa (k : kfr) (N : Nat) (B : Nat → Nat) (M : Nat) (S : Nat → Nat) (V : Nat → Nat → Option rv) (l : Nat) (ra : Nat → Int32) : Nat → Int32 := if (k_ra k).toBitVec.getLsbD l = true then e_na B M S l N (e_fd B V l N N) ra else ra
def hR1 (k : kfr) (N : Nat) (B : Nat → Nat) (M : Nat) (S : Nat → Nat) (V : Nat → Nat → Option rv) (l : Nat) (rd : Nat → Int32) : Nat → Int32 := if (k_ra k).toBitVec.getLsbD l = true then e_nd B M S l N (e_fd B V l N N) rd else rd
def hR2 (k : kfr) (B : Nat → Nat) (M : Nat) (S : Nat → Nat) (l : Nat) (rd : Nat → Int32) : Nat → Int32 := if (k_rd k).toBitVec.getLsbD l = true then e_nd B M S l 0 0 rd else rd
def hIa (k : kfr) (N : Nat) (B : Nat → Nat) (M : Nat) (S : Nat → Nat) (V : Nat → Nat → Option rv) : Nat → Nat → (Nat → Int32) → Nat → Int32
  | 0, _, ra => ra
  | n + 1, l, ra => hIa k N B M S V n (l + 1) (hRa k N B M S V l ra)
def hId (k : kfr) (N : Nat) (B : Nat → Nat) (M : Nat) (S : Nat → Nat) (V : Nat → Nat → Option rv) : Nat → Nat → (Nat → Int32) → Nat → Int32
  | 0, _, rd => rd
  | n + 1, l, rd => hId k N B M S V n (l + 1) (hR2 k B M S l (hR1 k N B M S V l rd))
section ZZN
variable {u : wo} {ρ ρ' : Nat → Nat} {G G1 G' : mj_G} {cur d i l r p T t : Nat} {k : kfr} {N : Nat} {B : Nat → Nat} {M : Nat} {S : Nat → Nat} {lc : Nat} {ln : Nat → Nat} {op : Nat} {ch : List en} {V : Nat → Nat → Option rv} {o : ost} {ra rd : Nat → Int32} {sp : Nat → Bool} {st hts : Nat} {FG : Nat → kfr} {fr b cn : Nat → Nat} {top la : Nat}
theorem e_na0 : e_na B M S l 0 0 ra = ra := by
  funext j
  unfold e_na
  refine if_neg (fun q => q.2.2 ?_)
  cases S j <;> rfl
/-- one more was put out -/
theorem CC_ht (hc : CC u ρ G N B M S lc ln op ch V o ra rd sp st hts FG fr b cn top la) (e : G' = mj_pI G 6 8 (nI (hts + 1))) : CC u ρ G' N B M S lc ln op ch V o ra rd sp st (hts + 1) FG fr b cn top la ∧ fw ρ bW G G' ∧ FF ρ top cur G G' := by
  have hh1 := hc.1
  have k6 : mj_k G 6 ≠ 12 := by rw [cs_k (K := 9) hh1.1 rfl]; decide
  have ho : ow ρ 6 = 6 := ow_s (by decide)
  have hh' : hh ρ (u_D u) (u_I u) G' := by
    rw [e]
    exact hh_I hh1 (by unfold imm; rw [ho]; unfold im_o; omega) (fun _ q => absurd q k6)
  have F : fw ρ (fun o => o = 6) G G' := by
    rw [e]
    exact fw_I ho
  have h6 : ∀ j, j ≠ 8 → mj_i G' 6 j = mj_i G 6 j := fun j hj => by
    rw [e]
    exact z_iIm hj
  have h8' : mj_i G' 6 8 = nI (hts + 1) := by
    rw [e]
    exact z_iIs
  clear e
  obtain ⟨h1, h2, h3, h4, h5, h5', hu, h8, h9⟩ := hc
  have hF : FF ρ top cur G G' := FF_w F h3.2.1 (fun o q t => by omega)
  have nim : ∀ o, o = 6 → ¬ im_o o := fun o q => by rw [q]; unfold im_o; omega
  refine ⟨⟨hh', wC_f h1 h2 F ro_r nim, sC_F (cur := cur) hF h1 h3, dC_f h1 h4 (fun k hk => (h3.2.2.2.2.2.2.2.2.2.2.2.2.2 k hk).1) F ro_r (fun o q => ⟨nim o q, by omega⟩), ?_, ?_, ⟨(h6 6 (by decide)).trans hu.1, (h6 7 (by decide)).trans hu.2.1, h8', hu.2.2.2⟩, (oD_f h1 h8 F (fun o q => by unfold oW; omega)).1, fgC_f h1 h9 F ro_r (fun o q => ⟨nim o q, by unfold gW; omega⟩)⟩, fw_m F (fun o q => ⟨by omega, nim o q⟩), hF⟩
  · exact (ce_i h1 F (by decide) (by decide)).trans h5
  · exact (ce_i h1 F (by decide) (by decide)).trans h5'
/-- what a fragment had read is told, from the l-th letter on -/
theorem c_h52 {K : Int32 → mj_G → Prop} (hB' : ∀ s, B s ≤ s) (hi : i < 10) (hki : k_is (FG i) = true) : ∀ {n l : Nat} {ra rd : Nat → Int32} {G : mj_G}, l + n = 26 → CC u ρ G N B M S lc ln op ch V o ra rd sp st hts FG fr b cn top la → (∀ G', CC u ρ G' N B M S lc ln op ch V o (hIa (FG i) N B M S V n l ra) (hId (FG i) N B M S V n l rd) sp st hts FG fr b cn top la → fw ρ bW G G' → FF ρ top (fr (N - 1)) G G' → mj_r G' (707 + 4 * top) 2 = mj_r G (707 + 4 * top) 2 → Ou_putCells (d + 1) (1599 + 8 * i) (nI (k_n (FG i))) G' K) → Rn_meetFragment_52 (d + 2) (1597 + 8 * i) (sf fr N) (nI l) G K
  | 0, l, ra, rd, G, hl, hC, h => by
    have q : l = 26 := by omega
    subst q
    obtain ⟨c1, c2, c3, c4, -⟩ := cs_fr hC.1.1 hi
    obtain ⟨⟨f1, f2⟩, -⟩ := hC.2.2.2.2.2.2.2.2 i hi
    obtain ⟨g1, g2, g3, g4, g5, g6, g7, g8, g9, g10, g11, -⟩ := f2 hki
    refine w_Rn_meetFragment_52 hC.1.1 (z_bt (by decide) ⟨cs_g9 hC.1.1 hi, ?_⟩)
    rw [c2, g11]
    exact h G hC fw_r FF_r rfl
  | n + 1, l, ra, rd, G, hl, hC, h => by
    have htop := hC.2.2.1.2.1
    -- a letter read, and what is told of it
    have one : ∀ {x : Nat} {ra rd : Nat → Int32} {G : mj_G} {KK : mj_G → Prop}, x ≤ N → CC u ρ G N B M S lc ln op ch V o ra rd sp st hts FG fr b cn top la → (∀ G', CC u ρ G' N B M S lc ln op ch V o (e_na B M S l x (e_fd B V l x x) ra) (e_nd B M S l x (e_fd B V l x x) rd) sp st hts FG fr b cn top la → fw ρ bW G G' → FF ρ top (fr (N - 1)) G G' → mj_r G' (707 + 4 * top) 2 = mj_r G (707 + 4 * top) 2 → KK G') → St_read (d + 1) (sf fr x) (nI l) G (fun _ G' => KK G') := fun {x ra rd G KK} hx hC hK => by
      refine c_read hC.1 hC.2.2.2.1.1 (CC_ck hC) hB' (by omega) hx (fun a G' a1 a2 a3 a4 _ => ?_)
      obtain ⟨b1, b2, b3⟩ := CC_v (sl := 0) (cur := fr (N - 1)) hC a1 ro_r (fv_n a2 a3) a4
      exact hK G' b1 b2 b3 (a2.2.2.2.1 _ _)
    -- the bits of a heap
    have bits : ∀ {ra rd : Nat → Int32} {G : mj_G}, CC u ρ G N B M S lc ln op ch V o ra rd sp st hts FG fr b cn top la → mj_i G (1597 + 8 * i) 7 = k_ra (FG i) ∧ mj_i G (1597 + 8 * i) 8 = k_rd (FG i) := fun {ra rd G} hC => by
      obtain ⟨⟨f1, f2⟩, -⟩ := hC.2.2.2.2.2.2.2.2 i hi
      obtain ⟨-, -, -, -, -, -, -, -, -, -, -, -, -, g14, g15, -⟩ := f2 hki
      exact ⟨g14, g15⟩
    -- the data's, behind the scopes'
    have two : ∀ {ra rd : Nat → Int32} {G0 : mj_G}, CC u ρ G0 N B M S lc ln op ch V o ra rd sp st hts FG fr b cn top la → (∀ G', CC u ρ G' N B M S lc ln op ch V o ra (hR2 (FG i) B M S l rd) sp st hts FG fr b cn top la → fw ρ bW G0 G' → FF ρ top (fr (N - 1)) G0 G' → mj_r G' (707 + 4 * top) 2 = mj_r G0 (707 + 4 * top) 2 → Rn_meetFragment_52 (d + 2) (1597 + 8 * i) (sf fr N) (nI (l + 1)) G' K) → mm_br (((mm_shr (mj_i G0 (1597 + 8 * i) 8) (nI l)) &&& (nI 1)) = (nI 0)) (Rn_meetFragment_52 (d + 2) (1597 + 8 * i) (sf fr N) (nI l + nI 1) G0 K) (St_read (d + 1) (Int32.ofInt (-1)) (nI l) G0 (fun _ G30 => Rn_meetFragment_52 (d + 2) (1597 + 8 * i) (sf fr N) (nI l + nI 1) G30 K)) := fun {ra rd G0} hC hK => by
      rw [(bits hC).2, bt_0r (by omega), z_add]
      refine z_br (fun q => ?_) (fun q => ?_)
      · have e : hR2 (FG i) B M S l rd = rd := if_neg q
        rw [e] at hK
        exact hK G0 hC fw_r FF_r rfl
      · have q' : bt (k_rd (FG i)) l := Classical.byContradiction q
        have e : hR2 (FG i) B M S l rd = e_nd B M S l 0 0 rd := if_pos q'
        rw [e] at hK
        rw [show (Int32.ofInt (-1)) = sf fr 0 from rfl]
        refine one (x := 0) (Nat.zero_le N) hC (fun G' a1 a2 a3 a4 => ?_)
        rw [show e_fd B V l 0 0 = 0 from rfl, e_na0] at a1
        exact hK G' a1 a2 a3 a4
    -- the rest
    have go : ∀ {ra' rd' : Nat → Int32} {G0 : mj_G}, ra' = hRa (FG i) N B M S V l ra → rd' = hR1 (FG i) N B M S V l rd → CC u ρ G0 N B M S lc ln op ch V o ra' rd' sp st hts FG fr b cn top la → fw ρ bW G G0 → FF ρ top (fr (N - 1)) G G0 → mj_r G0 (707 + 4 * top) 2 = mj_r G (707 + 4 * top) 2 → mm_br (((mm_shr (mj_i G0 (1597 + 8 * i) 8) (nI l)) &&& (nI 1)) = (nI 0)) (Rn_meetFragment_52 (d + 2) (1597 + 8 * i) (sf fr N) (nI l + nI 1) G0 K) (St_read (d + 1) (Int32.ofInt (-1)) (nI l) G0 (fun _ G30 => Rn_meetFragment_52 (d + 2) (1597 + 8 * i) (sf fr N) (nI l + nI 1) G30 K)) := fun {ra' rd' G0} ea ed hC0 F0 Q0 n0 => by
      subst ea ed
      exact two hC0 (fun G1 a1 a2 a3 a4 => c_h52 hB' hi hki (n := n) (l := l + 1) (by omega) a1 (fun G' b1 b2 b3 b4 => h G' b1 (fw_t F0 ro_r (fw_t a2 ro_r b2)) (FF_t Q0 ro_r F0.1 (FF_t a3 ro_r a2.1 b3)) (b4.trans (a4.trans n0))))
    refine w_Rn_meetFragment_52 hC.1.1 (z_bf (by rw [z_le (by omega) (by omega)]; omega) ⟨cs_g9 hC.1.1 hi, ?_⟩)
    rw [show mj_i G (1597 + 8 * i) 7 = k_ra (FG i) from (bits hC).1, bt_0r (by omega)]
    refine z_br (fun q => ?_) (fun q => ?_)
    · exact go (if_neg q).symm (if_neg q).symm hC fw_r FF_r rfl
    · have q' : bt (k_ra (FG i)) l := Classical.byContradiction q
      refine one (x := N) (Nat.le_refl N) hC (fun G' a1 a2 a3 a4 => ⟨cs_g9 a1.1.1 hi, ?_⟩)
      exact go (if_pos q').symm (if_pos q').symm a1 a2 a3 a4
/-- its cells put out again -/
theorem c_hit {K : Int32 → mj_G → Prop} (hd : 16 ≤ d) (hi : i < 10) (hki : k_is (FG i) = true) (hx0 : k_x (FG i) = o_x o (o_n o)) (hC : CC u ρ G N B M S lc ln op ch V o ra rd sp st hts FG fr b cn top la) (hK : ∀ G', CC u ρ G' N B M S lc ln op ch V (o_pc (k_c (FG i)) (k_n (FG i)) 0 o).2 ra rd sp st hts FG fr b cn top la → fw ρ bW G G' → FF ρ top (fr (N - 1)) G G' → mj_r G' (707 + 4 * top) 2 = mj_r G (707 + 4 * top) 2 → K (o_pc (k_c (FG i)) (k_n (FG i)) 0 o).1 G') : Ou_putCells (d + 3) (1599 + 8 * i) (nI (k_n (FG i))) G K := by
  obtain ⟨c1, c2, c3, c4, c5, c6, c7, c8⟩ := cs_fr hC.1.1 hi
  obtain ⟨⟨f1, f2⟩, -⟩ := hC.2.2.2.2.2.2.2.2 i hi
  obtain ⟨g1, g2, g3, g4, g5, g6, g7, g8, g9, g10, g11, g12, g13, -⟩ := f2 hki
  have hG := hh_n hC.1
  have htop := hC.2.2.1.2.1
  refine w_Ou_putCells hC.1.1 (c_kept (d := d + 1) (by omega) g12 (fun j hj => (g13 j hj).2) (m := k_n (FG i)) (j := 0) (Nat.zero_add _) hC.1 hC.2.2.2.2.2.2.2.1.1 (by omega) (by rw [ow_s (by omega)]; unfold oW; omega) c7 c8 (fun j hj => (g13 j hj).1) hx0.symm (fun G' a1 a2 a3 a4 => ?_))
  obtain ⟨b1, b2⟩ := CC_o (cur := fr (N - 1)) hC a1 a2 ro_r a3 a4
  exact hK G' b1 (fw_m a2 (fun o q => bW_o q)) b2 (((a2.2.2.2 (707 + 4 * top) (by omega)).2.2 (by rw [ow_s (by omega)]; unfold oW; omega)).1 2)
/-- the fragments that are open, one more -/
theorem CC_kf {TT la' : Nat} (hC : CC u ρ G N B M S lc ln op ch V o ra rd sp st hts FG fr b cn top la) (ht : top < 199) (hV : ∀ l, V N l = none) (hch : ∀ y, y ∈ ch → en_x y ≤ N) (hM : M < 12) (hh' : hh ρ (u_D u) (u_I u) G') (F : fw ρ (qW top) G G') (c1 : mj_i G' 11 4 = nI (top + 1)) (c2 : mj_i G' 11 2 = mj_i G 11 2) (p7 : ∀ j, j = 7 ∨ j = 10 → mj_i G' (707 + 4 * (top + 1)) j = mj_i G (707 + 4 * top) j) (e3 : mj_i G' (707 + 4 * (top + 1)) 3 = nI (top + 1)) (e4 : mj_i G' (707 + 4 * (top + 1)) 4 = mj_i G (707 + 4 * top) 3) (e5 : mj_i G' (707 + 4 * (top + 1)) 5 = mj_i G 11 2) (e6 : mj_i G' (707 + 4 * (top + 1)) 6 = nI 0) (e11 : mj_i G' (707 + 4 * (top + 1)) 11 = nI (top + 1)) {op' : Nat} (e12 : mj_i G' (707 + 4 * (top + 1)) 12 = nI op') (e19 : mj_i G' (707 + 4 * (top + 1)) 19 = nI 0) (e20 : mj_i G' (707 + 4 * (top + 1)) 20 = nI 0) (e21 : mj_i G' (707 + 4 * (top + 1)) 21 = nI 1) :
    CC u ρ G' (N + 1) (e_bh B N N) (M + 1) (g_u S M N) lc ln op' ch V o (g_u ra M (nI 0)) (g_u rd M (nI 0)) (g_u sp M false) st hts FG (e_bh fr N (top + 1)) (e_bh b N (b (N - 1) + cn (N - 1))) (e_bh cn N 0) (top + 1) la ∧ fw ρ bW G G' ∧ FF ρ top cur G G' := by
  have hsk := CC_sk hC F ht
  have hs := hC.2.2.1
  obtain ⟨s1, s2, s3, s4, s5, s6, s7, s8, s9, s10, s11, s12, s13, s14⟩ := hs
  have frN : e_bh fr N (top + 1) N = top + 1 := if_pos rfl
  have frx : ∀ s, s < N → e_bh fr N (top + 1) s = fr s := fun s hs => if_neg (by omega)
  have lo : ∀ x j, x ≤ top → mj_i G' (707 + 4 * x) j = mj_i G (707 + 4 * x) j := fun x j hx => ce_i hC.1 F (by omega) (by unfold qW; omega)
  have lo' : ∀ x j, x ≤ top → mj_i G' (708 + 4 * x) j = mj_i G (708 + 4 * x) j := fun x j hx => ce_i hC.1 F (by omega) (by unfold qW; omega)
  have lor : ∀ x, x ≤ top → mj_r G' (707 + 4 * x) 1 = mj_r G (707 + 4 * x) 1 := fun x hx => ((F.2.2.2 (707 + 4 * x) (by have := hh_n hC.1; omega)).2.2 (by rw [ow_s (by omega)]; unfold qW; omega)).1 1
  have kcE : ∀ k, k ≤ M → kc (e_bh fr N (top + 1)) (g_u S M N) k = kc fr S k := fun k hk => kc_fr (fun j hj => g_un (by omega)) (fun j hj => frx _ (s14 j (by omega)).1)
  refine CC_sco (x := N) (M' := M + 1) (S' := g_u S M N) (ra' := g_u ra M (nI 0)) (rd' := g_u rd M (nI 0)) (sp' := g_u sp M false) hC ht hV rfl hh' ro_r F c1 (c2.trans hC.2.2.2.2.2.1) e3 ?_ (Nat.le_refl N) (e5.trans hC.2.2.2.2.2.1) e6 ((p7 7 (Or.inl rfl)).trans s7) (by omega) ⟨(lo _ _ s4).trans s10.1, fun k hk => ⟨(lo' _ _ s4).trans (s10.2 k hk).1, (s10.2 k hk).2⟩⟩ s11 ?_ hch ?_ e12 (by omega) (fun k hk => ?_)
  · rw [e4, s6]
    unfold sf
    rw [if_neg (by omega)]
  · rw [p7 10 (Or.inr rfl)]
    exact chC_m (Nat.le_succ top) (chC_k (a0 := top) s2 lo lo' lor (Nat.le_refl top) s12)
  · rw [e11]
    show nI (top + 1) = (if M + 1 = 0 then _ else nI (e_bh fr N (top + 1) (g_u S M N (M + 1 - 1))))
    rw [if_neg (Nat.succ_ne_zero M), Nat.add_sub_cancel, g_us, frN]
  · by_cases q : k = M
    · subst q
      rw [g_us, g_us, g_us, g_us, frN, Nat.add_sub_cancel, kcE _ (Nat.le_refl _)]
      exact ⟨Nat.lt_succ_self N, fun j hj => by rw [g_un (by omega)]; exact (s14 j hj).1, by omega, (lo _ _ (Nat.le_refl top)).trans s8, e19, e20, e21⟩
    · rw [g_un q, g_un q, g_un q, g_un q, kcE k (by omega)]
      obtain ⟨a1, a2, a3, a4, a5, a6, a7⟩ := hsk k (by omega)
      refine ⟨a1, fun j hj => by rw [g_un (by omega)]; exact a2 j hj, a3, ?_, a5, a6, a7⟩
      rw [a4]
      exact kc_fr (fun _ _ => rfl) (fun j hj => frx _ (s14 j (by omega)).1)
/-- a fragment met, by the class -/
theorem c_mf {K : Int32 → mj_G → Prop} (hu : uP u) (hC : CC u ρ G N B M S lc ln op ch V o ra rd sp st hts FG fr b cn top la) (hV : pV u N V) (hB' : ∀ s, B s ≤ s) (hch : ∀ y, y ∈ ch → en_x y ≤ N) (hM : M ≤ op) (hT : T < 10) (hr : u_A u r) (hr6 : mj_k (u_G u) r = 6) (hpr : (p, r) ∈ u_L u T) (hi : i < 10) (hi3 : mj_i (u_G u) r 3 = nI i) (hop : op ≤ 12) (htop : top < 199) (hd : 24 ≤ d)
    (h1 : fitS (FG i) T p lc ln o → fitV u (FG i) N B V → ∀ G', CC u ρ G' N B M S lc ln op ch V (o_pc (k_c (FG i)) (k_n (FG i)) 0 o).2 (hIa (FG i) N B M S V 26 0 ra) (hId (FG i) N B M S V 26 0 rd) sp st (hts + 1) FG fr b cn top la → fw ρ bW G G' → FF ρ top (fr (N - 1)) G G' → mj_r G' (707 + 4 * top) 2 = mj_r G (707 + 4 * top) 2 → K (o_pc (k_c (FG i)) (k_n (FG i)) 0 o).1 G')
    (h2 : ¬ (fitS (FG i) T p lc ln o ∧ fitV u (FG i) N B V) → op = 12 → K (Int32.ofInt (-8)) G)
    (h3 : ¬ (fitS (FG i) T p lc ln o ∧ fitV u (FG i) N B V) → op < 12 → ∀ G', CC u ρ G' (N + 1) (e_bh B N N) (M + 1) (g_u S M N) lc ln (op + 1) ch V o (g_u ra M (nI 0)) (g_u rd M (nI 0)) (g_u sp M false) st hts FG (e_bh fr N (top + 1)) (e_bh b N (b (N - 1) + cn (N - 1))) (e_bh cn N 0) (top + 1) la → fw ρ bW G G' → FF ρ top (fr (N - 1)) G G' → mj_r G' (707 + 4 * top) 2 = mj_r G (707 + 4 * top) 2 → mj_r G' (707 + 4 * (top + 1)) 2 = mj_r (u_G u) r 8 → mj_i G' (707 + 4 * (top + 1)) 0 = mj_i (u_G u) r 0 → mj_r G' (707 + 4 * (top + 1)) 1 = r → mj_i G' (707 + 4 * (top + 1)) 15 = nI (o_n o) → mj_i G' (707 + 4 * (top + 1)) 16 = bI (o_w o) → K (nI 0) G') : Rn_meetFragment d r G K := by
  obtain ⟨d, rfl⟩ : ∃ y, d = y + 5 := ⟨d - 5, by omega⟩
  have hS := hC.1.1
  have hs := hC.2.2.1
  have hla := hs.2.2.2.1
  obtain ⟨A1, A2, A3⟩ := wC_A hC.2.1 hr
  refine w_Rn_meetFragment hS ⟨A1.trans hr6, ?_⟩
  rw [A3 3, hi3]
  refine z_ixi hi (by omega) (w_St_scope hS ?_)
  rw [hC.2.2.2.2.1]
  refine z_bf (by rw [z_lt (by omega) (by omega)]; omega) (z_ixi (by omega) (by omega) ?_)
  rw [hs.2.2.2.2.2.1]
  have hsf : nI (fr (N - 1)) = sf fr N := by
    unfold sf
    rw [if_neg (by have := hs.1; omega)]
  rw [hsf]
  refine c_lineFrame hS hC.2.2.2.2.1 (by omega) hs.2.2.2.2.2.2.1 (by omega) ⟨cs_g9 hS hi, ?_⟩
  refine c_fits hu hC (fun s l v q => (hV s l v q).2.2) hB' hT hr hpr hi (fun q1 q2 => z_bt rfl ?_) (fun q => z_bf (by decide) ⟨A1.trans hr6, ?_⟩)
  · intro G1 e1
    rw [hC.2.2.2.2.2.2.1.2.2.1, z_add] at e1
    obtain ⟨b1, b2, b3⟩ := CC_ht (cur := fr (N - 1)) hC e1
    have n1 : mj_r G1 (707 + 4 * top) 2 = mj_r G (707 + 4 * top) 2 := by rw [e1]; rfl
    clear e1
    refine c_h52 (d := d + 3) hB' hi q1.1 (n := 26) (l := 0) (Nat.zero_add _) b1 (fun G2 a1 a2 a3 a4 => ?_)
    refine c_hit (d := d + 1) (by omega) hi q1.1 q1.2.2.2.2.2.1 a1 (fun G3 i1 i2 i3 i4 => ?_)
    exact h1 q1 q2 G3 i1 (fw_t b2 ro_r (fw_t a2 ro_r i2)) (FF_t b3 ro_r b2.1 (FF_t a3 ro_r a2.1 i3)) (i4.trans (a4.trans n1))
  · rw [A2 8]
    refine c_open hC.1 hC.2.2.2.2.1 htop hs.2.2.2.2.2.2.2.2.1 hop (A1.trans hr6) (fun ho G1 a1 a2 a3 => z_bf (by omega) ?_) (fun ho => z_bt rfl (h2 q ho))
    obtain ⟨p1, p2, p3, p4, p5, p6, p7, p8, p9, p10, p11, p12, p13, p14⟩ := a3
    have ho1 := (oC_f hC.1 hC.2.2.2.2.2.2.2.1.1 a2 (fun a t => by unfold pW at t; unfold oW; omega)).1
    refine c_mark (i := top + 1) a1 ho1 (by omega) (fun m1 m2 => ⟨cs_g14 m1.1 (by omega), ?_⟩)
    have e15 : mj_i (mj_pI (mj_pI G1 (707 + 4 * (top + 1)) 15 (nI (o_n o))) (707 + 4 * (top + 1)) 16 (bI (o_w o))) (707 + 4 * (top + 1)) 15 = nI (o_n o) := (z_iIm (by decide)).trans z_iIs
    have e16 : mj_i (mj_pI (mj_pI G1 (707 + 4 * (top + 1)) 15 (nI (o_n o))) (707 + 4 * (top + 1)) 16 (bI (o_w o))) (707 + 4 * (top + 1)) 16 = bI (o_w o) := z_iIs
    have eo : ∀ x j, ¬ (x = 707 + 4 * (top + 1) ∧ (j = 15 ∨ j = 16)) → mj_i (mj_pI (mj_pI G1 (707 + 4 * (top + 1)) 15 (nI (o_n o))) (707 + 4 * (top + 1)) 16 (bI (o_w o))) x j = mj_i G1 x j := fun x j hq => (if_neg (fun t => hq ⟨t.1, Or.inr t.2⟩)).trans (if_neg (fun t => hq ⟨t.1, Or.inl t.2⟩))
    have er : ∀ x j, mj_r (mj_pI (mj_pI G1 (707 + 4 * (top + 1)) 15 (nI (o_n o))) (707 + 4 * (top + 1)) 16 (bI (o_w o))) x j = mj_r G1 x j := fun _ _ => rfl
    generalize mj_pI (mj_pI G1 (707 + 4 * (top + 1)) 15 (nI (o_n o))) (707 + 4 * (top + 1)) 16 (bI (o_w o)) = G2 at m1 m2 e15 e16 eo er ⊢
    intro G3 e3 G4 e4 G5 e5 G6 e6
    rw [eo 11 4 (by omega), p1] at e3
    obtain ⟨x1, x2, x3, x4, x5⟩ := fr_w m1 (by omega) e3
    obtain ⟨y1, y2, y3, y4, y5⟩ := fr_w x1 (by omega) e4
    obtain ⟨z1, z2, z3, z4, z5⟩ := fr_w y1 (by omega) e5
    obtain ⟨w1, w2, w3, w4, w5⟩ := fr_w z1 (by omega) e6
    clear e3 e4 e5 e6
    have F : fw ρ (qW top) G G6 := fw_t (fw_t (fw_t (fw_t (fw_t (fw_m a2 (fun o q => by unfold pW at q; unfold qW; omega)) ro_r (fw_m m2 (fun o q => by unfold qW; omega))) ro_r (fw_m x2 (fun o q => by unfold qW; omega))) ro_r (fw_m y2 (fun o q => by unfold qW; omega))) ro_r (fw_m z2 (fun o q => by unfold qW; omega))) ro_r (fw_m w2 (fun o q => by unfold qW; omega))
    have oth : ∀ x j, ¬ (x = 707 + 4 * (top + 1) ∧ (j = 11 ∨ j = 15 ∨ j = 16 ∨ j = 19 ∨ j = 20 ∨ j = 21)) → mj_i G6 x j = mj_i G1 x j := fun x j hq => (w3 _ _ (by omega)).trans ((z3 _ _ (by omega)).trans ((y3 _ _ (by omega)).trans ((x3 _ _ (by omega)).trans (eo _ _ (by omega)))))
    have rth : ∀ x j, mj_r G6 x j = mj_r G1 x j := fun x j => (w5 _ _).trans ((z5 _ _).trans ((y5 _ _).trans ((x5 _ _).trans (er _ _))))
    obtain ⟨C1, F1, Q1⟩ := CC_kf (TT := 0) (la' := 0) (cur := fr (N - 1)) (op' := op + 1) hC htop (pV_N hV) hch (by omega) w1 F ((oth _ _ (by omega)).trans p1) ((oth _ _ (by omega)).trans p2) (fun j hj => (oth _ _ (by omega)).trans (p3 j (by omega))) ((oth _ _ (by omega)).trans p5) ((oth _ _ (by omega)).trans p6) ((oth _ _ (by omega)).trans p7) ((oth _ _ (by omega)).trans p8) ((w3 _ _ (by omega)).trans ((z3 _ _ (by omega)).trans ((y3 _ _ (by omega)).trans x4))) ((oth _ _ (by omega)).trans p9) ((w3 _ _ (by omega)).trans ((z3 _ _ (by omega)).trans y4)) ((w3 _ _ (by omega)).trans z4) w4
    refine h3 q ho G6 C1 F1 Q1 ?_ ((rth _ _).trans p12) ((oth _ _ (by omega)).trans (p4.trans (A3 0))) ((rth _ _).trans p11) ((w3 _ _ (by omega)).trans ((z3 _ _ (by omega)).trans ((y3 _ _ (by omega)).trans ((x3 _ _ (by omega)).trans e15)))) ((w3 _ _ (by omega)).trans ((z3 _ _ (by omega)).trans ((y3 _ _ (by omega)).trans ((x3 _ _ (by omega)).trans e16))))
    exact ((F.2.2.2 (707 + 4 * top) (by have := hh_n hC.1; omega)).2.2 (by rw [ow_s (by omega)]; unfold qW; omega)).1 2
end ZZN
