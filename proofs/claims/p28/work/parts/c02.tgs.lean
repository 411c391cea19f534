/-! TAGS WITHOUT BODIES -/
section C02
variable {u : wo} {Gm : mj_G} {ρ ρ' : Nat → Nat} {G G1 G' : mj_G} {cur r p q m d t T l s k c : Nat} {e : Int32} {v : rv} {b1 : Int32} {L1 : List (Nat × Nat)} {N : Nat} {B : Nat → Nat} {M : Nat} {S : Nat → Nat} {lc : Nat} {ln : Nat → Nat} {op : Nat} {ch : List en} {V : Nat → Nat → Option rv} {o : ost} {ra rd : Nat → Int32} {sp : Nat → Bool} {st hts : Nat} {FG : Nat → kfr} {V' : Nat → Nat → Option rv} {o' : ost} {ra' rd' : Nat → Int32} {sp' : Nat → Bool} {st' hts' : Nat} {FG' : Nat → kfr} {fr b cn : Nat → Nat} {top la : Nat} {bg : Nat → Nat} {vc li LC : Nat} {ci : Int32} {CA tr : Nat}
theorem ms_61 (hM : mm_S Gm) (hu : uP u) (hT : T < 10) (hx : pX u N B M S lc ln op ch) (hV : pV u N V) (hA : u_A u r) (ht : tb_t k (u_A u) (u_G u) (nI T) b1 r (u_w u T) p m L1) (hc : u_w u T (p + 1) = 61) (hst : st ≤ u_bu u) : msJ u 61 N B M S lc ln op ch V o ra rd sp st hts FG r p m := by
  have hW := (hu.2.2.2 T hT).1
  have hn := hW.1
  obtain ⟨x1, s, l, es, hE, h1, h2, h3, -, hta, -, -⟩ := tg_ex ht hW (Or.inl hc)
  rw [if_pos (Or.inl hc)] at es
  subst es
  have hnd := tg_nd hA ht hc
  have hmm : m = x1 + 1 := by
    rcases hta with ⟨-, g, -⟩ | ⟨g, -⟩ | ⟨g, -⟩
    · exact g
    · unfold tx_B at g
      omega
    · omega
  obtain ⟨e1, v, ra1, rd1, f1, f2, f3⟩ := xs_all (sl := 0) (dep := 0) hW hx.2.2.2.2.1 hu.1 (fun s l v q => (hV s l v q).2.2) (Nat.le_refl N) hE (by omega) (by omega) (by omega) ra rd
  by_cases he : e1 = nI 0
  · subst he
    have hvin := f1 rfl
    refine ⟨(o_v (100 * T + p) v o).1, V, (o_v (100 * T + p) v o).2, ra1, rd1, sp, st, hts, FG, pJ_o hV hst o_v_le o_v_gr, mdC_me hnd (by omega) f2 (by omega) ?_, .put hnd hT (by omega) hvin ⟨_, f3⟩⟩
    · intro fr b cn top la ρ G hC hcv hnx k1 k2 k3 Q hQ h80 hb1 hb2 d dm K t hd hdm htt c1 c2
      obtain ⟨dm, rfl⟩ : ∃ x, dm = x + 3 := ⟨dm - 3, by omega⟩
      refine ⟨fun q => absurd q (by decide), fun _ => c_origin hnd hC.1.1 k1 k3 ?_, fun q => absurd q (by decide), fun q => absurd q (by decide), fun q => absurd q (by decide)⟩
      exact c_putValue (by omega) (by omega) hC.1 (cv_oW hC hvin.1 hcv) hC.2.2.2.2.2.2.2.1.1 (fun G' a1 a2 a3 a4 => kk_o hC hnx o_v_le (by omega) (by omega) a1 ro_r a2 a3 a4 c1 c2)
  · refine ⟨e1, V, o, ra1, rd1, sp, st, hts, FG, pJ_r hV hst, mdC_mx hnd (by omega) he f2 (by omega), .bad hnd (by decide) he ⟨_, f3⟩⟩
theorem ms_116 (hM : mm_S Gm) (hu : uP u) (hT : T < 10) (hx : pX u N B M S lc ln op ch) (hV : pV u N V) (hA : u_A u r) (ht : tb_t k (u_A u) (u_G u) (nI T) b1 r (u_w u T) p m L1) (hc : u_w u T (p + 1) = 116) (hst : st ≤ u_bu u) : msJ u 116 N B M S lc ln op ch V o ra rd sp st hts FG r p m := by
  have hW := (hu.2.2.2 T hT).1
  have hn := hW.1
  obtain ⟨x1, s, l, es, hE, h1, h2, h3, -, hta, -, hg⟩ := tg_ex ht hW (by omega)
  rw [if_neg (by omega)] at es
  subst es
  obtain ⟨hgD, hg3⟩ := hg hc
  have hnd := tg_nd hA ht hc
  have hmm : m = x1 + 1 := by
    rcases hta with ⟨-, g, -⟩ | ⟨g, -⟩ | ⟨g, -⟩
    · exact g
    · unfold tx_B at g
      omega
    · omega
  have hg10 : u_w u T (p + 2) - 48 < 10 ∧ 48 ≤ u_w u T (p + 2) ∧ u_w u T (p + 2) ≤ 57 := by
    unfold tx_D at hgD
    omega
  obtain ⟨e1, v, ra1, rd1, f1, f2, f3⟩ := xs_all (sl := 0) (dep := 0) hW hx.2.2.2.2.1 hu.1 (fun s l v q => (hV s l v q).2.2) (Nat.le_refl N) hE (by omega) (by omega) (by omega) ra rd
  by_cases he : e1 = nI 0
  · subst he
    have hvin := f1 rfl
    refine ⟨(o_mg (u_F u) (100 * T + p) (u_w u T (p + 2) - 48) v o).1, V, (o_mg (u_F u) (100 * T + p) (u_w u T (p + 2) - 48) v o).2, ra1, rd1, sp, st, hts, FG, pJ_o hV hst o_mg_le o_mg_gr, mdC_me hnd (by omega) f2 (by omega) ?_, .msg hnd hT (by omega) hg3 hg10.1 ⟨_, f3⟩⟩
    · intro fr b cn top la ρ G hC hcv hnx k1 k2 k3 Q hQ h80 hb1 hb2 d dm K t hd hdm htt c1 c2
      obtain ⟨dm, rfl⟩ : ∃ x, dm = x + 3 := ⟨dm - 3, by omega⟩
      have hG := hh_n hC.1
      refine ⟨fun q => absurd q (by decide), fun q => absurd q (by decide), fun q => absurd q (by decide), fun _ => ⟨hcv.1, ?_⟩, fun q => absurd q (by decide)⟩
      rw [hcv.2.2.1]
      have tk := rv_kn (t := rv_t v) (s := 2) hvin.1.1 (by omega)
      refine z_br (fun q => ?_) (fun q => ?_)
      · have t1 : rv_t v = 1 := by
          rw [tk] at q
          omega
        have hmg : o_mg (u_F u) (100 * T + p) (u_w u T (p + 2) - 48) v o = o_fm (100 * T + p) (rv_c (u_F u (2 * (u_w u T (p + 2) - 48) + (if rv_n v = nI 1 then 0 else 1)))) (rv_n v) (rv_l (u_F u (2 * (u_w u T (p + 2) - 48) + (if rv_n v = nI 1 then 0 else 1)))) 0 o := if_pos t1
        -- one form or the other
        have fin : ∀ j, j < 20 → j = 2 * (u_w u T (p + 2) - 48) + (if rv_n v = nI 1 then 0 else 1) → (mj_k G 1509 = 12) ∧ (mj_k G r = 6) ∧ Nd_origin (dm + 3) r G (fun v30 G29 => Ou_putForm (dm + 3) (1674 + 2 * j) (rv_n v) v30 G29 (fun v32 G31 => kk d K t v32 G31)) := fun j hj ej => by
          refine ⟨hcv.1, k1, c_origin hnd hC.1.1 k1 k3 ?_⟩
          obtain ⟨i1, i2, i3⟩ := hC.2.1.2.2.2.2 j hj
          rw [ej] at i1 i2 i3 ⊢
          refine c_putForm (x := rv_n v) (by omega) (by omega) i2 hC.1 ⟨by omega, by rw [ow_s (by omega)]; unfold oW; omega, cv_m i3 (fun c q t => oW_im t q), i1⟩ hC.2.2.2.2.2.2.2.1.1 (fun G' a1 a2 a3 a4 => ?_)
          rw [← hmg] at a4 ⊢
          exact kk_o hC hnx o_mg_le (by omega) (by omega) a1 ro_r a2 a3 a4 c1 c2
        refine w_Rn_formOf hC.1.1 ⟨k1, hcv.1, ?_⟩
        rw [hcv.2.2.2.1 t1, k3, hg3, z_mul, z_add, z_add]
        refine z_br (fun g => z_ixi (by omega) (by omega) (fin (2 * (u_w u T (p + 2) - 48) + 0) (by omega) (by rw [if_pos g]))) (fun g => z_ixi (by omega) (by omega) (fin (2 * (u_w u T (p + 2) - 48) + 1) (by omega) (by rw [if_neg g])))
      · have t1 : ¬ rv_t v = 1 := fun t => q (by
          rw [tk]
          omega)
        have hmg : o_mg (u_F u) (100 * T + p) (u_w u T (p + 2) - 48) v o = (Int32.ofInt (-3), o) := if_neg t1
        rw [hmg] at c1 c2
        exact kk_o hC hnx o_le_r (by omega) (by omega) hC.1 ro_r fw_r oX_r hC.2.2.2.2.2.2.2.1.1 c1 c2
  · refine ⟨e1, V, o, ra1, rd1, sp, st, hts, FG, pJ_r hV hst, mdC_mx hnd (by omega) he f2 (by omega), .bad hnd (by decide) he ⟨_, f3⟩⟩
theorem ms_37 (hM : mm_S Gm) (hu : uP u) (hT : T < 10) (hx : pX u N B M S lc ln op ch) (hV : pV u N V) (hA : u_A u r) (ht : tb_t k (u_A u) (u_G u) (nI T) b1 r (u_w u T) p m L1) (hc : u_w u T (p + 1) = 37) (hst : st ≤ u_bu u) : msJ u 37 N B M S lc ln op ch V o ra rd sp st hts FG r p m := by
  have hW := (hu.2.2.2 T hT).1
  have hn := hW.1
  have hN := hx.1
  obtain ⟨x1, s, l, es, hE, h1, h2, h3, -, hta, hg, -⟩ := tg_ex ht hW (by omega)
  rw [if_neg (by omega)] at es
  subst es
  obtain ⟨hgL, hg4⟩ := hg (Or.inr hc)
  have hnd := tg_nd hA ht hc
  have hmm : m = x1 + 1 := by
    rcases hta with ⟨-, g, -⟩ | ⟨g, -⟩ | ⟨g, -⟩
    · exact g
    · unfold tx_B at g
      omega
    · omega
  have hl26 : u_w u T (p + 2) - 97 < 26 ∧ 97 ≤ u_w u T (p + 2) ∧ u_w u T (p + 2) ≤ 122 := by
    unfold tx_L at hgL
    omega
  obtain ⟨e1, v, ra1, rd1, f1, f2, f3⟩ := xs_all (sl := 0) (dep := 0) hW hx.2.2.2.2.1 hu.1 (fun s l v q => (hV s l v q).2.2) (Nat.le_refl N) hE (by omega) (by omega) (by omega) ra rd
  by_cases he : e1 = nI 0
  · subst he
    have hvin := f1 rfl
    refine ⟨nI 0, e_st V (N - 1) (u_w u T (p + 2) - 97) v, o, ra1, rd1, sp, st, hts, FG, ⟨oJ_r, e_st_p hV hN hl26.1 hvin, fun s l hs => e_st_n (fun q => by omega), Nat.le_refl _, hst⟩, mdC_me hnd (by omega) f2 (by omega) ?_, .set hnd hg4 hl26.1 hvin ⟨_, f3⟩⟩
    · intro fr b cn top la ρ G hC hcv hnx k1 k2 k3 Q hQ h80 hb1 hb2 d dm K t hd hdm htt c1 c2
      obtain ⟨dm, rfl⟩ : ∃ x, dm = x + 2 := ⟨dm - 2, by omega⟩
      have hop := hx.2.1
      refine ⟨fun q => absurd q (by decide), fun q => absurd q (by decide), fun q => absurd q (by decide), fun q => absurd q (by decide), fun _ => ?_⟩
      rw [k3, hg4]
      refine c_set (fun s l v q => (hV s l v q).2.1) hC.1 hC.2.2.2.1.1 hC.2.2.2.1.2.1 (CC_cF hC) hl26.1 hvin hcv (by decide) (by omega) (fun ρ' G' cn' a1 a2 a3 a4 a5 a6 a7 a8 a9 a10 a11 => z_bt rfl ?_)
      obtain ⟨d1, d2, d3⟩ := CC_set hC a1 a2 a3 a4 a5 a6 a9 a10 a11
      have hG := hh_n hC.1
      have htop := hC.2.2.1.2.1
      have e10 : mj_r G' (707 + 4 * top) 2 = mj_r (u_G u) r 10 := by
        by_cases hq : top = fr (N - 1)
        · rw [hq, a10, ← hq]
          exact hnx
        · rw [((a3.2.2.2 (707 + 4 * top) (by omega)).2.2 (by rw [ow_s (by omega)]; unfold sW; omega)).1 2]
          exact hnx
      refine ⟨fun _ => c1 rfl ρ' G' cn' (t + 1) ⟨d1, a2, d2, d3, e10, a7, by omega, by omega⟩, fun q => absurd rfl q⟩
  · refine ⟨e1, V, o, ra1, rd1, sp, st, hts, FG, pJ_r hV hst, mdC_mx hnd (by omega) he f2 (by omega), .bad hnd (by decide) he ⟨_, f3⟩⟩
theorem ms_45 (hM : mm_S Gm) (hu : uP u) (hT : T < 10) (hx : pX u N B M S lc ln op ch) (hV : pV u N V) (hA : u_A u r) (ht : tb_t k (u_A u) (u_G u) (nI T) b1 r (u_w u T) p m L1) (hc : u_w u T (p + 1) = 45) (hst : st ≤ u_bu u) : msJ u 45 N B M S lc ln op ch V o ra rd sp st hts FG r p m := by
  have hnd := tg_nd hA ht hc
  have hop := hx.2.1
  have hpm : p + 3 ≤ m := by
    obtain ⟨-, -, -, -, -, -, -, e, h8, -, -, h11⟩ := ht
    rcases h11 with ⟨-, rfl, -⟩ | ⟨g, -⟩ | ⟨g, -⟩
    · omega
    · unfold tx_B at g
      omega
    · omega
  refine ⟨nI 0, V, o_tm o, ra, rd, fun _ => true, st, hts, FG, pJ_a hV hst o_le_m, ?_, .trm hnd⟩
  · intro fr b cn top la ρ G hC hnx k1 k2 k3 Q hQ h80 hb1 hb2 d dm K t hd hdm htt c1 c2
    obtain ⟨dm, rfl⟩ : ∃ x, dm = x + 2 := ⟨dm - 2, by omega⟩
    refine ⟨fun q => absurd q (by decide), fun q => absurd q (by decide), fun q => absurd q (by decide), fun q => absurd q (by decide), fun q => absurd q (by decide), fun q => absurd q (by decide), fun q => absurd q (by decide), fun q => absurd q (by decide), fun _ => ?_, fun q => absurd q (by decide)⟩
    refine c_spoil hC.1 (CC_ck hC) (fun s hs => by have := hC.2.2.1.2.2.2.2.1 s hs; have := hC.2.2.1.2.1; omega) (fun G1 a1 a2 a3 a4 => ?_)
    obtain ⟨d1, d2, d3⟩ := CC_sp (cur := fr (N - 1)) hC a1 a2 a3 a4
    refine c_trim d1.1 d1.2.2.2.2.2.2.2.1.1 (by omega) (fun G2 i1 i2 i3 i4 => ?_)
    have hnx1 : mj_r G1 (707 + 4 * top) 2 = mj_r (u_G u) r 10 := (a3.2.1 _ _).trans hnx
    refine kk_o (q := m) (TT := t + 100 * (2000 - st) + 100 + (m - p)) d1 hnx1 o_le_m (by omega) (by omega) i1 ro_r i2 i3 i4 (fun _ ρ' G' cn' t' hN => ?_) (fun q => absurd rfl q)
    exact c1 rfl ρ' G' cn' t' (rN_l ro_r d2 d3 (Nat.le_refl _) hN)
end C02
