/-! INCLUDES -/
section C07
variable {u : wo} {Gm : mj_G} {f f' f1 : mm_F} {ρ ρ' ρ0 ρ1 : Nat → Nat} {G G0 G1 G2 G' : mj_G} {cur r nx p q m d t T l s k c x j q1 : Nat} {e : Int32} {K : Int32 → mj_G → Prop} {v : rv} {b1 : Int32} {L1 : List (Nat × Nat)} {N : Nat} {B : Nat → Nat} {M : Nat} {S : Nat → Nat} {lc : Nat} {ln : Nat → Nat} {op : Nat} {ch : List en} {V : Nat → Nat → Option rv} {o : ost} {ra rd : Nat → Int32} {sp : Nat → Bool} {st hts : Nat} {FG : Nat → kfr} {V' : Nat → Nat → Option rv} {o' : ost} {ra' rd' : Nat → Int32} {sp' : Nat → Bool} {st' hts' : Nat} {FG' : Nat → kfr} {fr b cn : Nat → Nat} {top la : Nat} {bg : Nat → Nat} {vc li LC : Nat} {ci : Int32} {CA tr : Nat}
theorem ms_64 (hM : mm_S Gm) (hu : uP u) (hT : T < 10) (hx : pX u N B M S lc ln op ch) (hV : pV u N V) (hA : u_A u r) (ht : tb_t k (u_A u) (u_G u) (nI T) b1 r (u_w u T) p m L1) (hc : u_w u T (p + 1) = 64) (hst : st ≤ u_bu u) (hmn : m ≤ u_n u T) (ih : op < 12 → ihT u (op + 1)) : msJ u 64 N B M S lc ln op ch V o ra rd sp st hts FG r p m := by
  have hW := (hu.2.2.2 T hT).1
  have hn := hW.1
  have hnd := tg_nd hA ht hc
  have hop := hx.2.1
  have hgd : tx_D (u_w u T (p + 2)) ∧ mj_i (u_G u) r 3 = nI (u_w u T (p + 2) - 48) ∧ p + 4 ≤ m := by
    obtain ⟨-, -, -, -, -, -, -, e, h8, h9, h10, h11⟩ := ht
    rcases h9 with ⟨a, -⟩ | ⟨a, -⟩ | ⟨a, -⟩ | ⟨a, a2, a3, a4, -⟩ | ⟨a, -⟩ | ⟨a, -⟩ | ⟨a, -⟩ | ⟨a, -⟩
    any_goals omega
    rcases h11 with ⟨-, g, -⟩ | ⟨g, -⟩ | ⟨g, -⟩
    · exact ⟨a2, a4, by omega⟩
    · unfold tx_B at g
      omega
    · omega
  obtain ⟨g1, g2, hpm⟩ := hgd
  have hg10 : u_w u T (p + 2) - 48 < 10 ∧ 48 ≤ u_w u T (p + 2) := by
    unfold tx_D at g1
    omega
  have hpa : ∀ t, t < 10 → u_pa u t ≤ 10 := fun t ht => (hu.2.2.2 t ht).2.1
  generalize htg : u_w u T (p + 2) - 48 = tg at g2 hg10
  have ht10 := hg10.1
  -- the class up to the line
  have cls : ∀ (fr b cn : Nat → Nat) (top la : Nat) (ρ : Nat → Nat) (G : mj_G), CC u ρ G N B M S lc ln op ch V o ra rd sp st hts FG fr b cn top la → mj_k G r = 6 → (∀ j, mj_i G r j = mj_i (u_G u) r j) → top < 199 → ∀ dm (KK : Int32 → mj_G → Prop), (op = 12 → KK (Int32.ofInt (-8)) G) → (op < 12 → ∀ G', hh ρ (u_D u) (u_I u) G' → fw ρ (qW top) G G' → mj_i G' 11 4 = nI (top + 1) → mj_i G' 11 2 = mj_i G 11 2 → mj_i G' (707 + 4 * (top + 1)) 11 = mj_i G (707 + 4 * top) 11 → mj_i G' (707 + 4 * (top + 1)) 3 = nI (top + 1) → mj_i G' (707 + 4 * (top + 1)) 4 = mj_i G (707 + 4 * top) 3 → mj_i G' (707 + 4 * (top + 1)) 5 = mj_i G 11 2 → mj_i G' (707 + 4 * (top + 1)) 6 = nI 0 → mj_i G' (707 + 4 * (top + 1)) 7 = nI (top + 1) → mj_i G' (707 + 4 * (top + 1)) 10 = Int32.ofInt (-1) → mj_i G' (707 + 4 * (top + 1)) 12 = nI (op + 1) → mj_i G' (707 + 4 * (top + 1)) 0 = nI 64 → ((l_of (u_pa u) tg).1 = true → fL G' (top + 1) (l_of (u_pa u) tg).2.1 (l_of (u_pa u) tg).2.2 ∧ mj_r G' (707 + 4 * (top + 1)) 2 = u_bd u ((l_of (u_pa u) tg).2.2 ((l_of (u_pa u) tg).2.1 - 1))) → KK (if (l_of (u_pa u) tg).1 = true then nI 0 else Int32.ofInt (-8)) G') → Rn_openInclude (dm + 3) r G KK := by
    intro fr b cn top la ρ G hC k1 k3 htop dm KK h12 hgo
    have hs := hC.2.2.1
    refine w_Rn_openInclude hC.1.1 (c_open hC.1 hC.2.2.2.2.1 htop hs.2.2.2.2.2.2.2.2.1 hop k1 (fun ho G1 a1 a2 a3 => z_bf (by omega) ⟨cs_g14 a1.1 (by omega), ?_⟩) (fun ho => z_bt rfl (h12 ho)))
    obtain ⟨p1, p2, p3, p4, p5, p6, p7, p8, p9, p10, p11, p12, p13, p14⟩ := a3
    intro G4 e4
    obtain ⟨hh4, F4⟩ := o_fI (i := top + 1) (j := 10) (y := Int32.ofInt (-1)) a1 (by omega)
    rw [← e4] at hh4 F4
    have z4 : ∀ a j, ¬ (a = 707 + 4 * (top + 1) ∧ j = 10) → mj_i G4 a j = mj_i G1 a j := fun a j h => by
      rw [e4]
      exact if_neg h
    have z10 : mj_i G4 (707 + 4 * (top + 1)) 10 = Int32.ofInt (-1) := by
      rw [e4]
      exact z_iIs
    clear e4
    have F1 : fw ρ (qW top) G G4 := fw_t (fw_m a2 (fun o q => by unfold pW at q; unfold qW; omega)) ro_r (fw_m F4 (fun o q => by unfold qW; omega))
    have w4 := wC_f hC.1 hC.2.1 F1 ro_r (fun o q => qW_im htop q)
    obtain ⟨A1, A2, A3⟩ := wC_A w4 hA
    rw [z4 11 4 (by omega), p1, A3, g2]
    refine ⟨A1.trans hnd.2.2.1, c_layLine (i := top + 1) (by omega) ht10 hh4 w4.1 (fun G5 b1 b2 b3 b4 b5 b6 => ?_)⟩
    have i5 : ∀ j, j ≠ 7 → j ≠ 9 → mj_i G5 (707 + 4 * (top + 1)) j = mj_i G4 (707 + 4 * (top + 1)) j := b3
    have o11 : ∀ j, mj_i G5 11 j = mj_i G1 11 j := fun j => (ce_i hh4 b2 (by decide) (by unfold lW; omega)).trans (z4 11 j (by omega))
    refine hgo ho G5 b1 (fw_t F1 ro_r (fw_m b2 (fun o q => by unfold lW at q; unfold qW; omega))) ((o11 4).trans p1) ((o11 2).trans p2) ?_ ?_ ?_ ?_ ?_ b4 ?_ ?_ ?_ (fun hq => ⟨(b6 hq).1, (b6 hq).2.2⟩)
    · rw [i5 11 (by decide) (by decide), z4 _ _ (by omega)]
      exact p3 11 (by omega)
    · rw [i5 3 (by decide) (by decide), z4 _ _ (by omega)]
      exact p5
    · rw [i5 4 (by decide) (by decide), z4 _ _ (by omega)]
      exact p6
    · rw [i5 5 (by decide) (by decide), z4 _ _ (by omega)]
      exact p7
    · rw [i5 6 (by decide) (by decide), z4 _ _ (by omega)]
      exact p8
    · rw [i5 10 (by decide) (by decide)]
      exact z10
    · rw [i5 12 (by decide) (by decide), z4 _ _ (by omega)]
      exact p9
    · rw [i5 0 (by decide) (by decide), z4 _ _ (by omega), p4, k3]
      exact hnd.2.2.2.2.2
  have kd64 : ¬ (nI 64 : Int32) = nI 42 ∧ ¬ (nI 64 : Int32) = nI 107 ∧ ¬ (nI 64 : Int32) = nI 43 := ⟨by decide, by decide, by decide⟩
  by_cases hbad : op = 12 ∨ ¬ (l_of (u_pa u) tg).1 = true
  · refine ⟨Int32.ofInt (-8), V, o, ra, rd, sp, st, hts, FG, pJ_r hV hst, ?_, .imm (.inx hnd g2 ht10 hbad)⟩
    · intro fr b cn top la ρ G hC hnx k1 k2 k3 Q hQ h80 hb1 hb2 d dm K t hd hdm htt c1 c2
      obtain ⟨dm, rfl⟩ : ∃ y, dm = y + 3 := ⟨dm - 3, by omega⟩
      refine ⟨fun q => absurd q (by decide), fun q => absurd q (by decide), fun q => absurd q (by decide), fun q => absurd q (by decide), fun _ => ?_, fun q => absurd q (by decide), fun q => absurd q (by decide), fun q => absurd q (by decide), fun q => absurd q (by decide), fun q => absurd q (by decide)⟩
      refine cls fr b cn top la ρ G hC k1 k3 (by omega) dm _ (fun _ => kk_x hC (by decide) (by omega) c2) (fun ho G' a1 a2 a3 a4 a5 a6 a7 a8 a9 a10 a11 a12 a13 a14 => ?_)
      have hno : ¬ (l_of (u_pa u) tg).1 = true := hbad.resolve_left (by omega)
      rw [if_neg hno]
      exact ⟨fun q => absurd q (by decide), fun q => c2 q o ρ G' cn (top + 1) t (rX_w hC (by omega) a1 ro_r a2 a3 (by rw [a13]; exact kd64.2.2) (by omega))⟩
  have ho12 : op < 12 := by
    have : ¬ op = 12 := fun q => hbad (Or.inl q)
    omega
  have hok : (l_of (u_pa u) tg).1 = true := Classical.byContradiction fun q => hbad (Or.inr q)
  obtain ⟨l1, l2, l3, l4⟩ := l_go_p hpa (m := 10) (n := 0) (t := tg) (c := fun _ => 0) ht10 (fun k hk => absurd hk (by omega)) hok
  have l1' : (l_of (u_pa u) tg).2.1 ≤ 10 := by
    have : (l_of (u_pa u) tg).2.1 = (l_go (u_pa u) 10 0 (fun _ => 0) tg).2.1 := rfl
    omega
  have l2' : 1 ≤ (l_of (u_pa u) tg).2.1 := l2
  have l3' : ∀ k, k < (l_of (u_pa u) tg).2.1 → (l_of (u_pa u) tg).2.2 k < 10 := l3
  have l4' : u_pa u ((l_of (u_pa u) tg).2.2 ((l_of (u_pa u) tg).2.1 - 1)) = 0 := l4
  generalize hn' : (l_of (u_pa u) tg).2.1 = n' at l1' l2' l3' l4'
  generalize hc' : (l_of (u_pa u) tg).2.2 = c' at l3' l4'
  rw [hn', hc'] at cls
  have hT' := l3' (n' - 1) (by omega)
  obtain ⟨hW', -, s0, kk0, hP0, hB0⟩ := hu.2.2.2 _ hT'
  have hs0 : s0 = 0 := by
    rw [l4'] at hP0
    rcases hP0 with ⟨g, -⟩ | ⟨-, -, -, -, -, g⟩
    · exact g
    · rw [sh_0] at g
      exact absurd g.symm (z_m1n (by have := tx_le hW' 2; omega))
  subst hs0
  have hn80 := hW'.1
  have hx1 : pX u (N + 1) (e_bh B N N) M S n' c' (op + 1) [] := by
    obtain ⟨h1, h2, h3, h4, h5, h6, h7, h8⟩ := pX_s (x := N) (pX_o hx ho12) (Nat.le_refl N)
    exact ⟨h1, h2, l1', l3', h5, h6, h7, fun y hy => nomatch hy⟩
  obtain ⟨e, V', o', ra', rd', sp', st', hts', FG', j1, j2, j3⟩ := bs_0 (o := o) (ra := ra) (rd := rd) (sp := sp) (hts := hts) (FG := FG) hB0 (pV_s hV) hst (fun hr => ih ho12 _ hT' _ _ _ _ _ _ hB0 (fun y hy => hy) (Nat.le_refl _) hr _ _ _ _ _ _ _ V o ra rd sp st hts FG hx1 (pV_s hV) hst)
  have hVV : ∀ s l, s < N → V' s l = V s l := fun s l hsl => j1.2.2.1 s l (by omega)
  have vN : ∀ l, V N l = none := fun l => by
    cases hv' : V N l with
    | none => rfl
    | some w => exact absurd (hV N l w hv').1 (Nat.lt_irrefl N)
  refine ⟨e, V, o', ra', rd', sp', st', hts', FG', ⟨j1.1, hV, fun _ _ _ => rfl, j1.2.2.2.1, j1.2.2.2.2⟩, ?_, .opn (.inc hnd g2 ht10 ho12 hok) (by rw [hn', hc']; exact j3)⟩
  · intro fr b cn top la ρ G hC hnx k1 k2 k3 Q hQ h80 hb1 hb2 d dm K t hd hdm htt c1 c2
    obtain ⟨dm, rfl⟩ : ∃ y, dm = y + 3 := ⟨dm - 3, by omega⟩
    refine ⟨fun q => absurd q (by decide), fun q => absurd q (by decide), fun q => absurd q (by decide), fun q => absurd q (by decide), fun _ => ?_, fun q => absurd q (by decide), fun q => absurd q (by decide), fun q => absurd q (by decide), fun q => absurd q (by decide), fun q => absurd q (by decide)⟩
    refine cls fr b cn top la ρ G hC k1 k3 (by omega) dm _ (fun q => absurd q (by omega)) (fun ho G' a1 a2 a3 a4 a5 a6 a7 a8 a9 a10 a11 a12 a13 a14 => ?_)
    rw [if_pos hok]
    obtain ⟨a15, a16⟩ := a14 hok
    have hs := hC.2.2.1
    obtain ⟨s1, s2, s3, s4, s5, s6, s7, s8, s9, s10, s11, s12, s13, s14⟩ := hs
    have hfl := hC.2.2.2.2.2.1
    have hG := hh_n hC.1
    have e4 : mj_i G' (707 + 4 * (top + 1)) 4 = sf fr N := by
      rw [a7, s6]
      unfold sf
      rw [if_neg (by omega)]
    have e11 : mj_i G' (707 + 4 * (top + 1)) 11 = kc (e_bh fr N (top + 1)) S M := by
      rw [a5, s8]
      exact (kc_fr (fr' := e_bh fr N (top + 1)) (S' := S) (fun _ _ => rfl) (fun j hj => if_neg (by have := (s14 j hj).1; omega))).symm
    obtain ⟨C1, F1, FF1⟩ := CC_sco (x := N) (cur := fr (N - 1)) (ch' := []) hC (by omega) vN rfl a1 ro_r a2 a3 (a4.trans hfl) a6 e4 (Nat.le_refl N) (a8.trans hfl) a9 a10 (Nat.le_refl _) a15 l1' a11 (fun y hy => nomatch hy) e11 a12 s3 (CC_sk hC a2 (by omega))
    have hs' : ∀ s, s < N → e_bh B N N s = B s ∧ e_bh fr N (top + 1) s = fr s ∧ e_bh b N (b (N - 1) + cn (N - 1)) s = b s ∧ e_bh cn N 0 s = cn s := fun s hsl => ⟨if_neg (by omega), if_neg (by omega), if_neg (by omega), if_neg (by omega)⟩
    have hcN : e_bh cn N 0 N = 0 := if_pos rfl
    have nx1 : mj_r G' (707 + 4 * top) 2 = mj_r (u_G u) r 10 := by
      rw [((a2.2.2.2 (707 + 4 * top) (by omega)).2.2 (by rw [ow_s (by omega)]; unfold qW; omega)).1 2]
      exact hnx
    refine ⟨fun _ => ?_, fun q => absurd rfl q⟩
    exact sc_C (TT := t + 100 * (2000 - st) + 100 + (m - p)) (q := m) hC nx1 hVV C1 ro_r F1 FF1 a16 a13 kd64 hs' (if_pos rfl) (if_pos rfl) (by rw [hcN]; exact Nat.zero_le _) (Nat.le_refl M) (fun _ _ => rfl) j2 o_le_r (by omega) (by omega) (by omega) (by rw [hcN]; omega) (by omega) hd (by omega) (by omega) (fun he ρ' G2 t' hN => c1 he ρ' G2 cn t' hN) c2
end C07
