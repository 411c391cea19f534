/-! BLOCKS -/
section C06
variable {u : wo} {Gm : mj_G} {f f' : mm_F} {ρ ρ' ρ0 ρ1 : Nat → Nat} {G G0 G1 G2 G' : mj_G} {cur r nx p q m d t T l s k c x j q1 : Nat} {e : Int32} {K : Int32 → mj_G → Prop} {v : rv} {b1 : Int32} {L1 : List (Nat × Nat)} {N : Nat} {B : Nat → Nat} {M : Nat} {S : Nat → Nat} {lc : Nat} {ln : Nat → Nat} {op : Nat} {ch : List en} {V : Nat → Nat → Option rv} {o : ost} {ra rd : Nat → Int32} {sp : Nat → Bool} {st hts : Nat} {FG : Nat → kfr} {V' : Nat → Nat → Option rv} {o' : ost} {ra' rd' : Nat → Int32} {sp' : Nat → Bool} {st' hts' : Nat} {FG' : Nat → kfr} {fr b cn : Nat → Nat} {top la : Nat} {bg : Nat → Nat} {vc li LC : Nat} {ci : Int32} {CA tr : Nat}
theorem os_all {g k0 : Nat} (hM : mm_S Gm) (hu : uP u) (hx : pX u N B M S lc ln op ch) (hV : pV u N V) (hst : st ≤ u_bu u) (hA : u_A u r) (hk6 : mj_k (u_G u) r = 6) (hkd : ¬ mj_i (u_G u) r 0 = nI 42 ∧ ¬ mj_i (u_G u) r 0 = nI 107 ∧ ¬ mj_i (u_G u) r 0 = nI 43) (hg : g < 10) (hk0 : k0 ≤ lc) (hbk : BK u r lc ln g k0) (ih : op < 12 → ihT u (op + 1)) : ∃ (e : Int32) (V' : Nat → Nat → Option rv) (o' : ost) (ra' rd' : Nat → Int32) (sp' : Nat → Bool) (st' hts' : Nat) (FG' : Nat → kfr), V' = V ∧ pJ u N V o st e V' o' st' M sp sp' ∧ obC u r (l_nd (u_qb u g) ln lc k0) N B M S lc ln op ch V o ra rd sp st hts FG e V' o' ra' rd' sp' st' hts' FG' ∧ smS u (jtg r) N B M S lc ln op ch V o ra rd sp FG e V' o' ra' rd' sp' FG' := by
  have hop := hx.2.1
  have hch : ∀ y, y ∈ ch → en_x y ≤ N := fun y hy => (hx.2.2.2.2.2.2.2 y hy).2.2.2.1
  have hlc := hx.2.2.1
  have hle := l_fb_le (q := u_qb u g) (c := ln) (m := lc - k0) (k := k0)
  have hnz : ∀ t, t < 10 → ∀ y, u_qb u g t = some y → y.2 ≠ 0 := fun t ht y hy => by
    obtain ⟨-, -, s, k, -, hB⟩ := hu.2.2.2 t ht
    exact tb_nz hB y (tl_fx_in hy).1
  by_cases hno : l_fb (u_qb u g) ln (lc - k0) k0 = lc
  · -- there is none
    refine ⟨Int32.ofInt (-7), V, o, ra, rd, sp, st, hts, FG, rfl, pJ_r hV hst, ?_, .imm (.nob hbk hno)⟩
    · intro fr b cn top la ρ G hC nx q TT hnx htop hb2 hbq d dm K t hd hdm hT hT9 c1 c2
      obtain ⟨dm, rfl⟩ : ∃ y, dm = y + 1 := ⟨dm - 1, by omega⟩
      have h0 : l_nd (u_qb u g) ln lc k0 = 0 := if_neg (by omega)
      rw [h0]
      exact w_Rn_openBody hC.1.1 (z_bt rfl (kk_x hC (by decide) (by omega) c2))
  · have hlt : l_fb (u_qb u g) ln (lc - k0) k0 < lc := by omega
    obtain ⟨y, hy⟩ := l_fb_s (q := u_qb u g) (c := ln) (m := lc - k0) (k := k0) (by omega)
    have hT10 := hx.2.2.2.1 _ hlt
    have hnd0 : l_nd (u_qb u g) ln lc k0 = y.2 := by
      unfold l_nd
      rw [if_pos hlt, hy]
      rfl
    generalize hTT' : ln (l_fb (u_qb u g) ln (lc - k0) k0) = T' at hy hT10
    have hy0 := hnz T' hT10 y hy
    obtain ⟨i1, i2, i3⟩ := tl_fx_in hy
    obtain ⟨hW, -, s0, kk0, hP0, hB0⟩ := hu.2.2.2 T' hT10
    obtain ⟨k', b', m', L1', z1, z2, z3, z4⟩ := tb_sub hB0 y i1
    obtain ⟨x, q8, b8, w1, w2, w3, w4, w5, w6, w7, w8, w9, w10⟩ := tg_one z2 hW (Or.inl i2)
    have hn := hW.1
    have hy6 := z2.2.1
    by_cases ho : op = 12
    · -- too much is open
      refine ⟨Int32.ofInt (-8), V, o, ra, rd, sp, st, hts, FG, rfl, pJ_r hV hst, ?_, by subst ho; exact .imm (.bdp hbk hlt)⟩
      · intro fr b cn top la ρ G hC nx q TT hnx htop hb2 hbq d dm K t hd hdm hT hT9 c1 c2
        obtain ⟨dm, rfl⟩ : ∃ y, dm = y + 3 := ⟨dm - 3, by omega⟩
        obtain ⟨A1, A2, A3⟩ := wC_A hC.2.1 hA
        obtain ⟨B1, B2, B3⟩ := wC_A hC.2.1 z1
        rw [hnd0]
        refine w_Rn_openBody hC.1.1 (z_bf hy0 ⟨B1.trans hy6, ?_⟩)
        refine c_open hC.1 hC.2.2.2.2.1 (by omega) hC.2.2.1.2.2.2.2.2.2.2.2.1 hop (A1.trans hk6) (fun q => absurd q (by omega)) (fun _ => z_bt rfl (kk_x hC (by decide) (by omega) c2))
    · have ho12 : op < 12 := by omega
      have hx1 := pX_s (x := N) (pX_o hx ho12) (Nat.le_refl N)
      obtain ⟨e, V', o', ra', rd', sp', st', hts', FG', j1, j2, j3⟩ := bs_0 (o := o) (ra := ra) (rd := rd) (sp := sp) (hts := hts) (FG := FG) w5 (pV_s hV) hst (fun hr => ih ho12 T' hT10 _ _ _ _ _ _ w5 (fun y2 hy2 => z3 y2 hy2) (by omega) hr _ _ _ _ _ _ _ V o ra rd sp st hts FG hx1 (pV_s hV) hst)
      have hVV : ∀ s l, s < N → V' s l = V s l := fun s l hsl => j1.2.2.1 s l (by omega)
      refine ⟨e, V, o', ra', rd', sp', st', hts', FG', rfl, ⟨j1.1, hV, fun _ _ _ => rfl, j1.2.2.2.1, j1.2.2.2.2⟩, ?_, .opn (.blk hbk hlt ho12) (by rw [hnd0]; exact j3)⟩
      · intro fr b cn top la ρ G hC nx q TT hnx htop hb2 hbq d dm K t hd hdm hT hT9 c1 c2
        obtain ⟨dm, rfl⟩ : ∃ y, dm = y + 3 := ⟨dm - 3, by omega⟩
        obtain ⟨A1, A2, A3⟩ := wC_A hC.2.1 hA
        obtain ⟨B1, B2, B3⟩ := wC_A hC.2.1 z1
        rw [hnd0]
        refine w_Rn_openBody hC.1.1 (z_bf hy0 ⟨B1.trans hy6, ?_⟩)
        rw [B2 8]
        exact op_C hC hnx (A1.trans hk6) (by rw [A3]; exact hkd) hV hch hop htop hb2 hbq hd hT hT9 (by omega) hVV (fun _ => j2) (fun q => absurd q ho) (fun _ => c1) (fun _ => c2)
theorem ms_35 (hM : mm_S Gm) (hu : uP u) (hT : T < 10) (hx : pX u N B M S lc ln op ch) (hV : pV u N V) (hA : u_A u r) (ht : tb_t k (u_A u) (u_G u) (nI T) b1 r (u_w u T) p m L1) (hc : u_w u T (p + 1) = 35) (hst : st ≤ u_bu u) (hmn : m ≤ u_n u T) (ih : op < 12 → ihT u (op + 1)) : msJ u 35 N B M S lc ln op ch V o ra rd sp st hts FG r p m := by
  have hW := (hu.2.2.2 T hT).1
  have hn := hW.1
  have hnd := tg_nd hA ht hc
  obtain ⟨x, q1, b', w1, w2, w3, w4, w5, w6, w7, w8, w9, w10⟩ := tg_one ht hW (Or.inl hc)
  have hgd : tx_D (u_w u T (p + 2)) ∧ mj_i (u_G u) r 3 = nI (u_w u T (p + 2) - 48) := by
    rcases w1 with ⟨a, -⟩ | ⟨a, -⟩ | ⟨a, -⟩ | ⟨a, a2, a3, a4, -⟩ | ⟨a, -⟩ | ⟨a, -⟩ | ⟨a, -⟩ | ⟨a, -⟩
    any_goals omega
    exact ⟨a2, a4⟩
  obtain ⟨g1, g2⟩ := hgd
  have hg10 : u_w u T (p + 2) - 48 < 10 ∧ 48 ≤ u_w u T (p + 2) := by
    unfold tx_D at g1
    omega
  obtain ⟨e, V', o', ra', rd', sp', st', hts', FG', j0, j1, j2, j3⟩ := os_all (g := u_w u T (p + 2) - 48) (k0 := 0) (o := o) (ra := ra) (rd := rd) (sp := sp) (hts := hts) (FG := FG) hM hu hx hV hst hA hnd.2.2.1 (by rw [hnd.2.2.2.2.2]; decide) hg10.1 (Nat.zero_le _) (Or.inl ⟨T, p, hnd, g2, hg10.1, rfl⟩) ih
  subst j0
  refine ⟨e, V', o', ra', rd', sp', st', hts', FG', j1, ?_, j3⟩
  · intro fr b cn top la ρ G hC hnx k1 k2 k3 Q hQ h80 hb1 hb2 d dm K t hd hdm htt c1 c2
    obtain ⟨dm, rfl⟩ : ∃ y, dm = y + 1 := ⟨dm - 1, by omega⟩
    have hs := hC.2.2.1
    refine ⟨fun q => absurd q (by decide), fun _ => ?_, fun q => absurd q (by decide), fun q => absurd q (by decide), fun q => absurd q (by decide), fun q => absurd q (by decide), fun q => absurd q (by decide), fun q => absurd q (by decide), fun q => absurd q (by decide), fun q => absurd q (by decide)⟩
    rw [k3, g2]
    refine c_firstBlock (n := lc) hC.1.1 hC.2.2.2.2.1 hs.2.1 hs.2.2.2.2.2.2.1 (by have := hs.2.2.2.1; have := hs.2.1; omega) hg10.1 hx.2.2.1 (Nat.zero_le _) hs.2.2.2.2.2.2.2.2.2.1 (hC.2.1.2.1 _ hg10.1).1 ?_
    exact j2 fr b cn top la ρ G hC _ m (t + 100 * (2000 - st) + 100 + (m - p)) hnx (by omega) (by omega) (by omega) d (dm + 1) K t hd (by omega) (by omega) (by omega) (fun he ρ' G' t' hN => c1 he ρ' G' cn t' hN) c2
theorem ms_94 (hM : mm_S Gm) (hu : uP u) (hT : T < 10) (hx : pX u N B M S lc ln op ch) (hV : pV u N V) (hA : u_A u r) (ht : tb_t k (u_A u) (u_G u) (nI T) b1 r (u_w u T) p m L1) (hc : u_w u T (p + 1) = 94) (hst : st ≤ u_bu u) (hmn : m ≤ u_n u T) (hpr : (p, r) ∈ u_L u T) (ih : op < 12 → ihT u (op + 1)) : msJ u 94 N B M S lc ln op ch V o ra rd sp st hts FG r p m := by
  have hW := (hu.2.2.2 T hT).1
  have hn := hW.1
  have hnd := tg_nd hA ht hc
  have hop := hx.2.1
  have hlc := hx.2.2.1
  have hpm : p + 3 ≤ m := by
    obtain ⟨-, -, -, -, -, -, -, e, h8, h9, h10, h11⟩ := ht
    rcases h11 with ⟨-, g, -⟩ | ⟨g, -⟩ | ⟨g, -⟩
    · omega
    · unfold tx_B at g
      omega
    · omega
  have hbD : bD (mj_i (u_G u) r 3) := by
    obtain ⟨-, -, s, kk, hP, hB⟩ := hu.2.2.2 T hT
    have hpl := tb_pl hB _ hpr
    exact (ba_w2 (d := 15) (K := fun _ _ => True) (T := T) (n := u_n u T) hM (Nat.le_refl _) (by omega) hc hB hpr (Or.inl rfl)).1
  -- the place of the template in the line
  have pl : (∃ j, j < lc ∧ ln j = T ∧ ∀ i, i < j → ln i ≠ T) ∨ ∀ i, i < lc → ln i ≠ T := by
    by_cases h : ∃ j, j < lc ∧ ln j = T
    · obtain ⟨j, h1, h2⟩ := h
      have go : ∀ n j, j ≤ n → j < lc → ln j = T → ∃ j, j < lc ∧ ln j = T ∧ ∀ i, i < j → ln i ≠ T := fun n => by
        induction n with
        | zero =>
          intro j hj h1 h2
          exact ⟨j, h1, h2, fun i hi => absurd hi (by omega)⟩
        | succ n ihn =>
          intro j hj h1 h2
          by_cases hh : ∃ i, i < j ∧ ln i = T
          · obtain ⟨i, i1, i2⟩ := hh
            exact ihn i (by omega) (by omega) i2
          · exact ⟨j, h1, h2, fun i hi q => hh ⟨i, hi, q⟩⟩
      exact Or.inl (go j j (Nat.le_refl _) h1 h2)
    · exact Or.inr (fun i hi q => h ⟨i, hi, q⟩)
  -- the class up to the block
  have cls : ∀ (fr b cn : Nat → Nat) (top la : Nat) (ρ : Nat → Nat) (G : mj_G), CC u ρ G N B M S lc ln op ch V o ra rd sp st hts FG fr b cn top la → mj_k G r = 6 → (∀ j, mj_i G r j = mj_i (u_G u) r j) → ∀ dm (KK : Int32 → mj_G → Prop), (∀ j, j < lc → ln j = T → (∀ i, i < j → ln i ≠ T) → Rn_firstBlock dm (nI (j + 1)) (mj_i (u_G u) r 3) G (fun v8 G7 => Rn_openBody dm r v8 G7 (fun v10 G9 => KK v10 G9))) → ((∀ i, i < lc → ln i ≠ T) → Rn_openBody dm r 0 G (fun v12 G11 => KK v12 G11)) → Rn_openUp (dm + 1) r G KK := fun fr b cn top la ρ G hC k1 k3 dm KK h1 h2 => by
    obtain ⟨s1, s2, s3, s4, s5, s6, s7, s8, s9, s10, s11, s12, s13, s14⟩ := hC.2.2.1
    obtain ⟨l1, l2, l3⟩ := cs_l14 hC.1.1 (i := la) (by omega)
    refine w_Rn_openUp hC.1.1 (c_lineFrame hC.1.1 hC.2.2.2.2.1 s2 s7 (by omega) ⟨k1, ?_⟩)
    rw [k3, hnd.2.2.2.1]
    refine c_placeInLine hC.1.1 (by omega) s10.1 hlc l1 l2 l3 (by omega) s10.2 (fun j hj hq hno => z_bf (z_m1n (by omega)) ⟨k1, ?_⟩) (fun hno => z_bt rfl (h2 hno))
    rw [z_add, k3]
    exact h1 j hj hq hno
  have bad : ((∀ i, i < lc → ln i ≠ T) ∨ mj_i (u_G u) r 3 = Int32.ofInt (-1)) → msJ u 94 N B M S lc ln op ch V o ra rd sp st hts FG r p m := fun hb => by
    refine ⟨Int32.ofInt (-7), V, o, ra, rd, sp, st, hts, FG, pJ_r hV hst, ?_, .imm (.upx hnd hT hb)⟩
    · intro fr b cn top la ρ G hC hnx k1 k2 k3 Q hQ h80 hb1 hb2 d dm K t hd hdm htt c1 c2
      obtain ⟨dm, rfl⟩ : ∃ y, dm = y + 2 := ⟨dm - 2, by omega⟩
      have fin : Rn_openBody (dm + 1) r 0 G (fun v12 G11 => kk d K t v12 G11) := w_Rn_openBody hC.1.1 (z_bt rfl (kk_x hC (by decide) (by omega) c2))
      refine ⟨fun q => absurd q (by decide), fun q => absurd q (by decide), fun q => absurd q (by decide), fun q => absurd q (by decide), fun q => absurd q (by decide), fun _ => ?_, fun q => absurd q (by decide), fun q => absurd q (by decide), fun q => absurd q (by decide), fun q => absurd q (by decide)⟩
      refine cls fr b cn top la ρ G hC k1 k3 (dm + 1) _ (fun j hj hq hno => ?_) (fun _ => fin)
      rcases hb with h | h
      · exact absurd hq (h j hj)
      · have hs := hC.2.2.1
        rw [h]
        exact c_fbn hC.1.1 hC.2.2.2.2.1 hs.2.1 hs.2.2.2.2.2.2.1 (by have := hs.2.2.2.1; have := hs.2.1; omega) fin
  rcases pl with ⟨j, hj, hjT, hno⟩ | hno
  · rcases hbD with hb | ⟨g, hg, hb⟩
    · exact bad (Or.inr hb)
    · obtain ⟨e, V', o', ra', rd', sp', st', hts', FG', j0, j1, j2, j3⟩ := os_all (g := g) (k0 := j + 1) (o := o) (ra := ra) (rd := rd) (sp := sp) (hts := hts) (FG := FG) hM hu hx hV hst hA hnd.2.2.1 (by rw [hnd.2.2.2.2.2]; decide) hg hj (Or.inr ⟨T, p, j, hnd, hT, hb, hg, hj, hjT, hno, rfl⟩) ih
      subst j0
      refine ⟨e, V', o', ra', rd', sp', st', hts', FG', j1, ?_, j3⟩
      · intro fr b cn top la ρ G hC hnx k1 k2 k3 Q hQ h80 hb1 hb2 d dm K t hd hdm htt c1 c2
        obtain ⟨dm, rfl⟩ : ∃ y, dm = y + 2 := ⟨dm - 2, by omega⟩
        have hs := hC.2.2.1
        refine ⟨fun q => absurd q (by decide), fun q => absurd q (by decide), fun q => absurd q (by decide), fun q => absurd q (by decide), fun q => absurd q (by decide), fun _ => ?_, fun q => absurd q (by decide), fun q => absurd q (by decide), fun q => absurd q (by decide), fun q => absurd q (by decide)⟩
        refine cls fr b cn top la ρ G hC k1 k3 (dm + 1) _ (fun j' hj' hq' hno' => ?_) (fun h => absurd hjT (h j hj))
        have hjj : j' = j := by
          by_cases h1 : j' < j
          · exact absurd hq' (hno j' h1)
          · by_cases h2 : j < j'
            · exact absurd hjT (hno' j h2)
            · omega
        subst hjj
        rw [hb]
        refine c_firstBlock (n := lc) hC.1.1 hC.2.2.2.2.1 hs.2.1 hs.2.2.2.2.2.2.1 (by have := hs.2.2.2.1; have := hs.2.1; omega) hg hlc hj hs.2.2.2.2.2.2.2.2.2.1 (hC.2.1.2.1 _ hg).1 ?_
        exact j2 fr b cn top la ρ G hC _ m (t + 100 * (2000 - st) + 100 + (m - p)) hnx (by omega) (by omega) (by omega) d (dm + 1) K t hd (by omega) (by omega) (by omega) (fun he ρ' G' t' hN => c1 he ρ' G' cn t' hN) c2
  · exact bad (Or.inl hno)
end C06
