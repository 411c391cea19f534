/-! THE CALLER'S BODY -/
section C08
variable {u : wo} {Gm : mj_G} {f f' f1 : mm_F} {ρ ρ' ρ0 ρ1 : Nat → Nat} {G G0 G1 G2 G' : mj_G} {cur r nx p q m d t T l s k c x j q1 : Nat} {e : Int32} {K : Int32 → mj_G → Prop} {v : rv} {b1 : Int32} {L1 : List (Nat × Nat)} {N : Nat} {B : Nat → Nat} {M : Nat} {S : Nat → Nat} {lc : Nat} {ln : Nat → Nat} {op : Nat} {ch : List en} {V : Nat → Nat → Option rv} {o : ost} {ra rd : Nat → Int32} {sp : Nat → Bool} {st hts : Nat} {FG : Nat → kfr} {V' : Nat → Nat → Option rv} {o' : ost} {ra' rd' : Nat → Int32} {sp' : Nat → Bool} {st' hts' : Nat} {FG' : Nat → kfr} {fr b cn : Nat → Nat} {top la : Nat} {bg : Nat → Nat} {vc li LC : Nat} {ci : Int32} {CA tr : Nat}
theorem ms_126 (hM : mm_S Gm) (hu : uP u) (hT : T < 10) (hx : pX u N B M S lc ln op ch) (hV : pV u N V) (hA : u_A u r) (ht : tb_t k (u_A u) (u_G u) (nI T) b1 r (u_w u T) p m L1) (hc : u_w u T (p + 1) = 126) (hst : st ≤ u_bu u) (hmn : m ≤ u_n u T) (ih : op < 12 → ihT u (op + 1)) : msJ u 126 N B M S lc ln op ch V o ra rd sp st hts FG r p m := by
  have hW := (hu.2.2.2 T hT).1
  have hn := hW.1
  have hnd := tg_nd hA ht hc
  have hop := hx.2.1
  have hpm : p + 3 ≤ m := by
    obtain ⟨-, -, -, -, -, -, -, e, h8, h9, h10, h11⟩ := ht
    rcases h11 with ⟨-, g, -⟩ | ⟨g, -⟩ | ⟨g, -⟩
    · omega
    · unfold tx_B at g
      omega
    · omega
  -- the class: fragments are spoilt
  have cls0 : ∀ (fr b cn : Nat → Nat) (top la : Nat) (ρ : Nat → Nat) (G : mj_G), CC u ρ G N B M S lc ln op ch V o ra rd sp st hts FG fr b cn top la → ∀ dm (KK : Int32 → mj_G → Prop), (∀ G1, CC u ρ G1 N B M S lc ln op ch V o ra rd (fun _ => true) st hts FG fr b cn top la → fw ρ bW G G1 → FF ρ top (fr (N - 1)) G G1 → mj_r G1 (707 + 4 * top) 2 = mj_r G (707 + 4 * top) 2 → mm_br (nI 1 ≤ mj_i G1 (707 + 4 * top) 10) (mm_ix (mj_i G1 (707 + 4 * top) 10) 200 (fun n4 => (mj_k G1 (mj_r G1 (707 + 4 * n4) 1) = 6) ∧ St_open (dm + 2) r (mj_r G1 (mj_r G1 (707 + 4 * n4) 1) 8) G1 (fun v8 G7 => mm_br (v8 = 0) (KK ((Int32.ofInt (-8))) G7) (mm_ix ((mj_i G1 (707 + 4 * top) 10) - (nI 1)) 200 (fun n9 => (mj_k G7 v8 = 5) ∧ ∀ G12, G12 = mj_pI G7 v8 4 (mj_i G7 (707 + 4 * n9) 3) → ∀ G13, G13 = mj_pI G12 v8 7 (mj_i G12 (707 + 4 * n9) 7) → ∀ G14, G14 = mj_pI G13 v8 10 (mj_i G13 (707 + 4 * n9) 10) → KK (nI 0) G14))))) (KK (nI 0) G1)) → Rn_openCallersBody (dm + 3) r G KK := fun fr b cn top la ρ G hC dm KK h => by
    have hs := hC.2.2.1
    refine w_Rn_openCallersBody hC.1.1 (c_spoil hC.1 (CC_ck hC) (fun s hs' => by have := hs.2.2.2.2.1 s hs'; have := hs.2.1; omega) (fun G1 a1 a2 a3 a4 => ?_))
    obtain ⟨d1, d2, d3⟩ := CC_sp (cur := fr (N - 1)) hC a1 a2 a3 a4
    rw [d1.2.2.2.2.1]
    exact z_ixi hs.2.1 (by omega) (h G1 d1 d2 d3 (a3.2.1 _ _))
  cases hch : ch with
  | nil =>
    subst hch
    refine ⟨nI 0, V, o, ra, rd, fun _ => true, st, hts, FG, pJ_a hV hst o_le_r, ?_, .imm (.cl0 hnd)⟩
    · intro fr b cn top la ρ G hC hnx k1 k2 k3 Q hQ h80 hb1 hb2 d dm K t hd hdm htt c1 c2
      obtain ⟨dm, rfl⟩ : ∃ y, dm = y + 3 := ⟨dm - 3, by omega⟩
      refine ⟨fun q => absurd q (by decide), fun q => absurd q (by decide), fun q => absurd q (by decide), fun q => absurd q (by decide), fun q => absurd q (by decide), fun q => absurd q (by decide), fun q => absurd q (by decide), fun _ => ?_, fun q => absurd q (by decide), fun q => absurd q (by decide)⟩
      refine cls0 fr b cn top la ρ G hC dm _ (fun G1 d1 d2 d3 d4 => ?_)
      have h10 : mj_i G1 (707 + 4 * top) 10 = Int32.ofInt (-1) := d1.2.2.1.2.2.2.2.2.2.2.2.2.2.2.1
      rw [h10]
      exact z_bf (by decide) ⟨fun _ => c1 rfl ρ G1 cn (t + 1) ⟨d1, ro_r, d2, d3, d4.trans hnx, fun _ _ => rfl, by omega, by omega⟩, fun q => absurd rfl q⟩
  | cons y L =>
    subst hch
    obtain ⟨y1, y2, y3, y4, y5, y6, ky, by', Ly, yB, yL⟩ := hx.2.2.2.2.2.2.2 y (List.mem_cons_self ..)
    have hn80 := (hu.2.2.2 _ y1).1.1
    have hyL : ∀ z, z ∈ L → enP u N z := fun z hz => hx.2.2.2.2.2.2.2 z (List.mem_cons_of_mem _ hz)
    -- the class: the call met
    have cls1 : ∀ (fr : Nat → Nat) (top la : Nat) (G1 : mj_G), sC u G1 N B M S lc ln op (y :: L) fr top la → ∃ a la' z, a < top ∧ la' ≤ a ∧ mj_i G1 (707 + 4 * top) 10 = nI (a + 1) ∧ u_A u (mj_r G1 (707 + 4 * (a + 1)) 1) ∧ mj_k (u_G u) (mj_r G1 (707 + 4 * (a + 1)) 1) = 6 ∧ mj_r (u_G u) (mj_r G1 (707 + 4 * (a + 1)) 1) 8 = en_r y ∧ mj_i G1 (707 + 4 * a) 3 = nI (fr (en_x y - 1)) ∧ mj_i G1 (707 + 4 * a) 7 = nI la' ∧ fL G1 la' (en_n y) (en_c y) ∧ mj_i G1 (707 + 4 * a) 10 = z ∧ chC (u_A u) (u_G u) fr G1 L a z := fun fr top la G1 hs => by
      obtain ⟨a, la', tg, h1, h2, h3, h4, h5, h6, h7, h8, h9, h10, h11, h12, h13⟩ := hs.2.2.2.2.2.2.2.2.2.2.2.1
      exact ⟨a, la', _, h1, h2, h3, by rw [h4]; exact h5, by rw [h4]; exact h6, by rw [h4]; exact h7, h9, h10, h12, rfl, h13⟩
    by_cases ho : op = 12
    · refine ⟨Int32.ofInt (-8), V, o, ra, rd, fun _ => true, st, hts, FG, pJ_a hV hst o_le_r, ?_, by subst ho; exact .imm (.cl1 hnd)⟩
      · intro fr b cn top la ρ G hC hnx k1 k2 k3 Q hQ h80 hb1 hb2 d dm K t hd hdm htt c1 c2
        obtain ⟨dm, rfl⟩ : ∃ y, dm = y + 3 := ⟨dm - 3, by omega⟩
        refine ⟨fun q => absurd q (by decide), fun q => absurd q (by decide), fun q => absurd q (by decide), fun q => absurd q (by decide), fun q => absurd q (by decide), fun q => absurd q (by decide), fun q => absurd q (by decide), fun _ => ?_, fun q => absurd q (by decide), fun q => absurd q (by decide)⟩
        refine cls0 fr b cn top la ρ G hC dm _ (fun G1 d1 d2 d3 d4 => ?_)
        obtain ⟨a, la', z, i1, i2, i3, i4, i5, i6, -⟩ := cls1 fr top la G1 d1.2.2.1
        obtain ⟨A1, A2, A3⟩ := wC_A d1.2.1 i4
        obtain ⟨B1, B2, B3⟩ := wC_A d1.2.1 hA
        rw [i3]
        refine z_bt (by rw [z_le (by omega) (by omega)]; omega) (z_ixi (by omega) (by omega) ⟨A1.trans i5, ?_⟩)
        refine c_open d1.1 d1.2.2.2.2.1 (by omega) d1.2.2.1.2.2.2.2.2.2.2.2.1 hop (B1.trans hnd.2.2.1) (fun q => absurd q (by omega)) (fun _ => z_bt rfl ⟨fun q => absurd q (by decide), fun q => c2 q o ρ G1 cn top t (rX_of d1 o_le_r ro_r d2 d3 (fun _ _ => rfl) (by omega))⟩)
    have ho12 : op < 12 := by omega
    have hx1 : pX u (N + 1) (e_bh B N (en_x y)) M S (en_n y) (en_c y) (op + 1) L := by
      obtain ⟨h1, h2, h3, h4, h5, h6, h7, h8⟩ := pX_s (x := en_x y) (pX_o hx ho12) y4
      exact ⟨h1, h2, y2, y6, h5, h6, h7, fun z hz => h8 z (List.mem_cons_of_mem _ hz)⟩
    obtain ⟨e, V', o', ra', rd', sp', st', hts', FG', j1, j2, j3⟩ := bs_0 (o := o) (ra := ra) (rd := rd) (sp := fun _ => true) (hts := hts) (FG := FG) yB (pV_s hV) hst (fun hr => ih ho12 _ y1 _ _ _ _ _ _ yB yL y5 hr _ _ _ _ _ _ _ V o ra rd (fun _ => true) st hts FG hx1 (pV_s hV) hst)
    have hVV : ∀ s l, s < N → V' s l = V s l := fun s l hsl => j1.2.2.1 s l (by omega)
    have vN : ∀ l, V N l = none := fun l => by
      cases hv' : V N l with
      | none => rfl
      | some w => exact absurd (hV N l w hv').1 (Nat.lt_irrefl N)
    refine ⟨e, V, o', ra', rd', sp', st', hts', FG', ⟨oJ_s (fun _ _ _ => rfl) j1.1, hV, fun _ _ _ => rfl, j1.2.2.2.1, j1.2.2.2.2⟩, ?_, .opn (.clr hnd ho12) j3⟩
    · intro fr b cn top la ρ G hC hnx k1 k2 k3 Q hQ h80 hb1 hb2 d dm K t hd hdm htt c1 c2
      obtain ⟨dm, rfl⟩ : ∃ y, dm = y + 3 := ⟨dm - 3, by omega⟩
      refine ⟨fun q => absurd q (by decide), fun q => absurd q (by decide), fun q => absurd q (by decide), fun q => absurd q (by decide), fun q => absurd q (by decide), fun q => absurd q (by decide), fun q => absurd q (by decide), fun _ => ?_, fun q => absurd q (by decide), fun q => absurd q (by decide)⟩
      refine cls0 fr b cn top la ρ G hC dm _ (fun G1 d1 d2 d3 d4 => ?_)
      obtain ⟨a, la', z, i1, i2, i3, i4, i5, i6, i7, i8, i9, i10, i11⟩ := cls1 fr top la G1 d1.2.2.1
      obtain ⟨A1, A2, A3⟩ := wC_A d1.2.1 i4
      obtain ⟨B1, B2, B3⟩ := wC_A d1.2.1 hA
      have hs := d1.2.2.1
      obtain ⟨s1, s2, s3, s4, s5, s6, s7, s8, s9, s10, s11, s12, s13, s14⟩ := hs
      have htop : top < 199 := by omega
      rw [i3]
      refine z_bt (by rw [z_le (by omega) (by omega)]; omega) (z_ixi (by omega) (by omega) ⟨A1.trans i5, ?_⟩)
      rw [A2 8, i6]
      refine c_open d1.1 d1.2.2.2.2.1 htop s9 hop (B1.trans hnd.2.2.1) (fun _ G2 a1 a2 a3 => z_bf (by omega) ?_) (fun q => absurd q ho)
      obtain ⟨p1, p2, p3, p4, p5, p6, p7, p8, p9, p10, p11, p12, p13, p14⟩ := a3
      rw [show nI (a + 1) - nI 1 = nI a by rw [z_sub (by omega), Nat.add_sub_cancel]]
      refine z_ixi (by omega) (by omega) ⟨cs_g14 a1.1 (by omega), ?_⟩
      have lo2 : ∀ i j, i ≤ top → mj_i G2 (707 + 4 * i) j = mj_i G1 (707 + 4 * i) j := fun i j hi => ce_i d1.1 a2 (by omega) (by unfold pW; omega)
      have lo2' : ∀ i j, i ≤ top → mj_i G2 (708 + 4 * i) j = mj_i G1 (708 + 4 * i) j := fun i j hi => ce_i d1.1 a2 (by omega) (by unfold pW; omega)
      have hG1 := hh_n d1.1
      have lor : ∀ i j, i ≤ top → mj_r G2 (707 + 4 * i) j = mj_r G1 (707 + 4 * i) j := fun i j hi => ((a2.2.2.2 (707 + 4 * i) (by omega)).2.2 (by rw [ow_s (by omega)]; unfold pW; omega)).1 j
      intro G12 e12 G13 e13 G14 e14
      obtain ⟨b1, b2, b3, b4, b5⟩ := fr_w a1 (by omega) e12
      obtain ⟨b6, b7, b8, b9, b10⟩ := fr_w b1 (by omega) e13
      obtain ⟨b11, b12, b13, b14, b15⟩ := fr_w b6 (by omega) e14
      clear e12 e13 e14
      have lo14 : ∀ i j, i ≤ top → mj_i G14 (707 + 4 * i) j = mj_i G1 (707 + 4 * i) j := fun i j hi => (b13 _ _ (by omega)).trans ((b8 _ _ (by omega)).trans ((b3 _ _ (by omega)).trans (lo2 i j hi)))
      have lo14' : ∀ i j, i ≤ top → mj_i G14 (708 + 4 * i) j = mj_i G1 (708 + 4 * i) j := fun i j hi => (b13 _ _ (by omega)).trans ((b8 _ _ (by omega)).trans ((b3 _ _ (by omega)).trans (lo2' i j hi)))
      have lor14 : ∀ i j, i ≤ top → mj_r G14 (707 + 4 * i) j = mj_r G1 (707 + 4 * i) j := fun i j hi => (b15 _ _).trans ((b10 _ _).trans ((b5 _ _).trans (lor i j hi)))
      have tp : ∀ j, j ≠ 4 → j ≠ 7 → j ≠ 10 → mj_i G14 (707 + 4 * (top + 1)) j = mj_i G2 (707 + 4 * (top + 1)) j := fun j h4 h7 h10 => (b13 _ _ (by omega)).trans ((b8 _ _ (by omega)).trans (b3 _ _ (by omega)))
      have t4 : mj_i G14 (707 + 4 * (top + 1)) 4 = sf fr (en_x y) := by
        rw [b13 _ _ (by omega), b8 _ _ (by omega), b4, lo2 _ _ (by omega), i7]
        unfold sf
        rw [if_neg (by omega)]
      have t7 : mj_i G14 (707 + 4 * (top + 1)) 7 = nI la' := by
        rw [b13 _ _ (by omega), b9, b3 _ _ (by omega), lo2 _ _ (by omega), i8]
      have t10 : mj_i G14 (707 + 4 * (top + 1)) 10 = z := by
        rw [b14, b8 _ _ (by omega), b3 _ _ (by omega), lo2 _ _ (by omega), i10]
      have F : fw ρ (qW top) G1 G14 := fw_t (fw_t (fw_t (fw_m a2 (fun o q => by unfold pW at q; unfold qW; omega)) ro_r (fw_m b2 (fun o q => by unfold qW; omega))) ro_r (fw_m b7 (fun o q => by unfold qW; omega))) ro_r (fw_m b12 (fun o q => by unfold qW; omega))
      have eL : fL G14 la' (en_n y) (en_c y) := ⟨(lo14 _ _ (by omega)).trans i9.1, fun k hk => ⟨(lo14' _ _ (by omega)).trans (i9.2 k hk).1, (i9.2 k hk).2⟩⟩
      have hfl := d1.2.2.2.2.2.1
      have g11 : ∀ j, mj_i G14 11 j = mj_i G2 11 j := fun j => (b13 _ _ (by omega)).trans ((b8 _ _ (by omega)).trans (b3 _ _ (by omega)))
      have e11 : mj_i G14 (707 + 4 * (top + 1)) 11 = kc (e_bh fr N (top + 1)) S M := by
        rw [tp 11 (by decide) (by decide) (by decide), p3 11 (by omega), s8]
        exact (kc_fr (fr' := e_bh fr N (top + 1)) (S' := S) (fun _ _ => rfl) (fun j hj => if_neg (by have := (s14 j hj).1; omega))).symm
      have cL : chC (u_A u) (u_G u) fr G14 L (top + 1) (mj_i G14 (707 + 4 * (top + 1)) 10) := by
        rw [t10]
        exact chC_m (by omega) (chC_k (a0 := a) (by omega) (fun i j hi => lo14 i j (by omega)) (fun i j hi => lo14' i j (by omega)) (fun i hi => lor14 i 1 (by omega)) (Nat.le_refl a) i11)
      obtain ⟨C1, F1, FF1⟩ := CC_sco (x := en_x y) (cur := fr (N - 1)) d1 htop vN rfl b11 ro_r F ((g11 4).trans p1) ((g11 2).trans (p2.trans hfl)) ((tp 3 (by decide) (by decide) (by decide)).trans p5) t4 y4 ((tp 5 (by decide) (by decide) (by decide)).trans (p7.trans hfl)) ((tp 6 (by decide) (by decide) (by decide)).trans p8) t7 (by omega) eL y2 cL (fun z hz => (hyL z hz).2.2.2.1) e11 ((tp 12 (by decide) (by decide) (by decide)).trans p9) s3 (CC_sk d1 F htop)
      have kd : mj_i G14 (707 + 4 * (top + 1)) 0 = nI 126 := by
        rw [tp 0 (by decide) (by decide) (by decide), p4, B3]
        exact hnd.2.2.2.2.2
      have hs' : ∀ s, s < N → e_bh B N (en_x y) s = B s ∧ e_bh fr N (top + 1) s = fr s ∧ e_bh b N (b (N - 1) + cn (N - 1)) s = b s ∧ e_bh cn N 0 s = cn s := fun s hsl => ⟨if_neg (by omega), if_neg (by omega), if_neg (by omega), if_neg (by omega)⟩
      have hcN : e_bh cn N 0 N = 0 := if_pos rfl
      have nx8 : mj_r G14 (707 + 4 * (top + 1)) 2 = en_r y := by
        rw [b15, b10, b5]
        exact p12
      refine ⟨fun _ => ?_, fun q => absurd rfl q⟩
      refine sc_C (TT := t + 100 * (2000 - st) + 100 + (m - p)) (q := m) d1 ((lor14 top 2 (Nat.le_refl _)).trans (d4.trans hnx)) hVV C1 ro_r F1 FF1 nx8 kd ⟨by decide, by decide, by decide⟩ hs' (if_pos rfl) (if_pos rfl) (by rw [hcN]; exact Nat.zero_le _) (Nat.le_refl M) (fun _ _ => rfl) j2 o_le_r (by omega) (by omega) (by omega) (by rw [hcN]; omega) (by omega) hd (by omega) (by omega) (fun he ρ' G3 t' hN => c1 he ρ' G3 cn t' (rN_l ro_r d2 d3 (Nat.le_refl _) hN)) (fun he o2 ρ' G3 cn' top' t' hX => c2 he o2 ρ' G3 cn' top' t' (rX_l o_le_r ro_r d2 d3 (Nat.le_refl _) hX))
end C08
