/-! CALLS by both sides -/
section ZZL
variable {u : wo} {Gm : mj_G} {f f' f1 : mm_F} {ρ ρ' ρ0 ρ1 : Nat → Nat} {G G0 G1 G2 G' : mj_G} {cur r nx p q m d t T l s k c j q1 : Nat} {e : Int32} {K : Int32 → mj_G → Prop} {v : rv} {b1 : Int32} {L1 : List (Nat × Nat)} {N : Nat} {B : Nat → Nat} {M : Nat} {S : Nat → Nat} {lc : Nat} {ln : Nat → Nat} {op : Nat} {ch : List en} {V : Nat → Nat → Option rv} {o : ost} {ra rd : Nat → Int32} {sp : Nat → Bool} {st hts : Nat} {FG : Nat → kfr} {V' : Nat → Nat → Option rv} {o' : ost} {ra' rd' : Nat → Int32} {sp' : Nat → Bool} {st' hts' : Nat} {FG' : Nat → kfr} {fr b cn : Nat → Nat} {top la : Nat} {bg : Nat → Nat} {vc li LC : Nat} {ci : Int32} {CA tr : Nat}
theorem gv_none {ga : Nat → Nat} {av : Nat → rv} {k : Nat} : gvO ga av k = none ↔ ga k = 3 := by
  unfold gvO
  by_cases h : ga k = 3
  · rw [if_pos h]
    exact ⟨fun _ => h, fun _ => rfl⟩
  · rw [if_neg h]
    exact ⟨(fun q => nomatch q), fun q => absurd q h⟩
/-- the body of a call that has one -/
def cbA (u : wo) (T k r p m e0 : Nat) (L1 : List (Nat × Nat)) : Prop := u_w u T (p + 1) = 38 → ∃ q1 bb, tb_B k (u_A u) (u_G u) (nI T) bb (mj_r (u_G u) r 8) (u_w u T) (e0 + 1) q1 L1 ∧ u_w u T q1 = 123 ∧ u_w u T (q1 + 1) = 59 ∧ m = q1 + 3 ∧ q1 + 2 < u_n u T
def cbQ (u : wo) (T c e0 q1 r : Nat) : Prop := c = 38 → (∃ kk bb rr LL, tb_B kk (u_A u) (u_G u) (nI T) bb rr (u_w u T) (e0 + 1) q1 LL ∧ u_w u T q1 = 123 ∧ u_w u T (q1 + 1) = 59) ∧ q1 ≤ u_n u T ∧ ∃ kk bb LL, tb_B kk (u_A u) (u_G u) (nI T) bb (mj_r (u_G u) r 8) (u_w u T) (e0 + 1) q1 LL ∧ ∀ y, y ∈ LL → y ∈ u_L u T
/-- the head of a call -/
theorem tg_call (ht : tb_t k (u_A u) (u_G u) (nI T) b1 r (u_w u T) p m L1) (hW : tx_W (u_w u T) (u_n u T)) (hcc : u_w u T (p + 1) = 33 ∨ u_w u T (p + 1) = 38) : ∃ e0 gg, gg < 10 ∧ u_w u T (p + 2) = 48 + gg ∧ mj_i (u_G u) r 3 = nI gg ∧ p + 3 ≤ e0 ∧ e0 + 1 ≤ m ∧ e0 < u_n u T ∧ u_w u T e0 = 125 ∧ u_w u T p = 123 ∧ tb_h (u_A u) (u_G u) r b1 (u_w u T) p e0 ∧ ((e0 = p + 3 ∧ mj_r (u_G u) r 7 = 0) ∨ tx_A 3 (u_A u) (u_G u) (mj_r (u_G u) r 7) (u_w u T) (p + 3) e0) ∧
    cbA u T k r p m e0 L1 := by
  obtain ⟨t1, t2, t3, t4, t5, t6, t7, e0, h8, h9, h10, h11⟩ := ht
  have hen : e0 < u_n u T := tx_in hW (by omega)
  have h9' := h9
  have hd : tx_D (u_w u T (p + 2)) ∧ ((e0 = p + 3 ∧ mj_r (u_G u) r 7 = 0) ∨ (¬ u_w u T (p + 3) = 125 ∧ tx_A 3 (u_A u) (u_G u) (mj_r (u_G u) r 7) (u_w u T) (p + 3) e0)) ∧ mj_i (u_G u) r 3 = nI (u_w u T (p + 2) - 48) := by
    rcases h9 with ⟨a, -⟩ | ⟨a, -⟩ | ⟨a, -⟩ | ⟨a, -⟩ | ⟨a, -⟩ | ⟨a, -⟩ | ⟨a, -⟩ | ⟨a, a1, a2, a3, -⟩
    any_goals omega
    exact ⟨a1, a2, a3⟩
  obtain ⟨d1, d2, d3⟩ := hd
  have d1' : 48 ≤ u_w u T (p + 2) ∧ u_w u T (p + 2) ≤ 57 := d1
  have hpe : p + 3 ≤ e0 := by
    rcases d2 with ⟨g, -⟩ | ⟨-, g⟩
    · omega
    · have := (tx_A_ch g).1
      omega
  have hem : e0 + 1 ≤ m := by
    rcases h11 with ⟨-, g, -⟩ | ⟨-, -, -, q1, g4, -, -, -, g8⟩ | ⟨g, -⟩
    · omega
    · have := tb_le g4
      omega
    · omega
  refine ⟨e0, u_w u T (p + 2) - 48, by omega, by omega, d3, hpe, hem, hen, h10, t5, h9', d2.imp id (fun g => g.2), fun hc => ?_⟩
  rcases h11 with ⟨g, -⟩ | ⟨-, -, -, q1, g4, g5, g6, g7, g8⟩ | ⟨g, -⟩
  · unfold tx_B at g
    omega
  · exact ⟨q1, _, g4, g5, g6, g8, tx_in hW (by omega)⟩
  · omega
/-- the head of a macro -/
theorem tg_mac {T2 tg rm gg : Nat} (hu : uP u) (hT2 : T2 < 10) (hy : u_qm u gg T2 = some (tg, rm)) : ∃ x a m2 e8 q8 b8 bb k8 L8, mcP u T2 tg rm x a m2 e8 ∧ tg < 80 ∧ rm ≠ 0 ∧ tb_h (u_A u) (u_G u) rm b8 (u_w u T2) tg e8 ∧ u_w u T2 tg = 123 ∧ u_w u T2 e8 = 125 ∧ tb_B k8 (u_A u) (u_G u) (nI T2) bb (mj_r (u_G u) rm 8) (u_w u T2) (e8 + 1) q8 L8 ∧ u_w u T2 q8 = 123 ∧ u_w u T2 (q8 + 1) = 59 ∧ e8 + 1 ≤ q8 ∧ q8 + 2 < u_n u T2 ∧ 4 ≤ e8 + 1 ∧ ∀ y, y ∈ L8 → y ∈ u_L u T2 := by
  obtain ⟨i1, i2, i3⟩ := tl_fx_in hy
  obtain ⟨hW, -, s0, kk0, hP0, hB0⟩ := hu.2.2.2 T2 hT2
  obtain ⟨k', b', m', L1', z1, z2', z3, z4⟩ := tb_sub hB0 (tg, rm) i1
  have i2' : u_w u T2 (tg + 1) = 36 := i2
  have z2 : tb_t k' (u_A u) (u_G u) (nI T2) b' rm (u_w u T2) tg m' L1' := z2'
  clear z2' i2
  have i2 := i2'
  obtain ⟨e8, q8, b8, w1, w2, w3, w4, w5, w6, w7, w8, w9, w10⟩ := tg_one z2 hW (Or.inr (Or.inr (Or.inl i2)))
  have hn := hW.1
  have htg : tg + 1 < u_n u T2 := tx_in hW (by omega)
  have hen : e8 < u_n u T2 := tx_in hW (by omega)
  have w1' := w1
  have hp : tx_P 3 (u_A u) (u_G u) (mj_r (u_G u) rm 7) (u_w u T2) (tg + 3) e8 (fun _ => False) := by
    rcases w1 with ⟨a, -⟩ | ⟨a, -⟩ | ⟨a, -⟩ | ⟨a, -⟩ | ⟨a, -⟩ | ⟨a, -⟩ | ⟨a, a1, a2, -⟩ | ⟨a, -⟩
    · omega
    · omega
    · omega
    · omega
    · omega
    · omega
    · exact a2
    · omega
  obtain ⟨x, a, m2, c1, c2, c3, c4, -⟩ := pA_of hp
  have he3 := pA_le c4 (j := m2) (i := 0) (by omega)
  exact ⟨x, a, m2, e8, q8, b', b8, k', L1', ⟨hT2, z1, z2.2.1, c2.symm, c3, c1, c4, w3, hen⟩, by omega, z2.1, w1', w2, w3, w5, w6, w7, w9, w10, by omega, z3⟩
/-- a call met -/
theorem md_call (hM : mm_S Gm) (hu : uP u) (hT : T < 10) (hx : pX u N B M S lc ln op ch) (hV : pV u N V) (hA : u_A u r) (ht : tb_t k (u_A u) (u_G u) (nI T) b1 r (u_w u T) p m L1) (hc : u_w u T (p + 1) = c) (hcc : c = 33 ∨ c = 38) (hst : st ≤ u_bu u) (hmn : m ≤ u_n u T) (hL1 : ∀ y, y ∈ L1 → y ∈ u_L u T) (ih : op < 12 → ihO u Gm (op + 1)) : mdJ u Gm T c N B M S lc ln op ch V o ra rd sp st hts FG r p m := by
  have hW := (hu.2.2.2 T hT).1
  have hn := hW.1
  have hnd := tg_nd hA ht hc
  have hop := hx.2.1
  have hlc := hx.2.2.1
  have h10 := pX_10 hx
  obtain ⟨e0, gg, hgg, hw2, hg3, hpe, hem, hen, he125, hp123, h9, hargs, hbod⟩ := tg_call ht hW (by omega)
  have hch : ∀ y, y ∈ ch → en_x y ≤ N := fun y hy => (hx.2.2.2.2.2.2.2 y hy).2.2.2.1
  have hSN := hx.2.2.2.2.2.2.1
  have hkc : ¬ nI c = nI 42 ∧ ¬ nI c = nI 107 ∧ ¬ nI c = nI 43 := by
    rcases hcc with rfl | rfl
    · exact ⟨by decide, by decide, by decide⟩
    · exact ⟨by decide, by decide, by decide⟩
  have hr6 : mj_k (u_G u) r = 6 := hnd.2.2.1
  have hr0 : mj_i (u_G u) r 0 = nI c := hnd.2.2.2.2.2
  have vN := pV_N hV
  -- where the model comes to
  have disp : ∀ (f : mm_F) (D : Nat) (KK : mm_F → Prop), mt_T f T (u_w u T) (u_n u T) → m_calls Gm D (nI (if c = 38 then 1 else 0)) (nI T) (nI p) f KK → m_rendersOther Gm (D + 1) (nI c) (nI T) (nI p) f KK := fun f D KK hmt h => by
    refine w_m_rendersOther hM ?_
    rw [z_add]
    refine c_letter hM hmt (by omega) ?_
    rcases hcc with rfl | rfl
    · exact z_bf (by decide) (z_bf (by decide) (z_bf (by decide) (z_bf (by decide) (z_bf (by decide) (z_bf (by decide) h)))))
    · exact z_bf (by decide) (z_bf (by decide) (z_bf (by decide) (z_bf (by decide) (z_bf (by decide) (z_bt rfl h)))))
  by_cases hlt : l_fb (u_qm u gg) ln lc 0 < lc
  case neg =>
    -- there is no such macro
    have hno : l_fb (u_qm u gg) ln lc 0 = lc := by
      have := l_fb_le (q := u_qm u gg) (c := ln) (m := lc) (k := 0)
      omega
    refine ⟨Int32.ofInt (-6), V, o, ra, rd, sp, st, hts, FG, pJ_r hV hst, ?_, ?_⟩
    · intro fr b cn top la ρ G hC hnx k1 k2 k3 Q hQ h80 hb1 hb2 d dm K t hd hdm htt c1 c2
      refine ⟨fun q => absurd q (by omega), fun q => absurd q (by omega), fun q => absurd q (by omega), fun q => absurd q (by omega), fun q => absurd q (by omega), fun q => absurd q (by omega), fun q => absurd q (by omega), fun q => absurd q (by omega), fun q => absurd q (by omega), fun _ => ?_⟩
      have hs := hC.2.2.1
      obtain ⟨dm, rfl⟩ : ∃ y, dm = y + 1 := ⟨dm - 1, by omega⟩
      refine w_Rn_openCall hC.1.1 ⟨k1, ?_⟩
      rw [k3, hg3]
      refine c_firstMacro (n := lc) hC.1.1 hC.2.2.2.2.1 hs.2.1 hs.2.2.2.2.2.2.1 (by have := hs.2.2.2.1; have := hs.2.1; omega) hgg hlc hs.2.2.2.2.2.2.2.2.2.1 (hC.2.1.2.1 _ hgg).2 ?_
      have h0 : l_nd (u_qm u gg) ln lc 0 = 0 := if_neg hlt
      rw [h0]
      exact z_bt rfl (kk_x hC (by decide) (by omega) c2)
    · intro f bg vc li LC ci CA tr hm Q hQ hQn hb1 hb2 D KK hD hk
      obtain ⟨D, rfl⟩ : ∃ x, D = x + 3 := ⟨D - 3, by omega⟩
      refine ⟨fun q => absurd q (by omega), fun _ => ?_, fun q => absurd q (by omega)⟩
      have hs := hm.2.1
      have hT1 := MM_T hm hT
      have hli : li < 14 := by
        have := hs.2.2.2.2.1
        have := hs.2.2.2.2.2.1
        have := hs.2.2.2.2.2.2.1
        omega
      refine disp f (D + 2) KK hT1 (w_m_calls hM ?_)
      rw [z_add]
      refine c_letter hM hT1 (by omega) ?_
      rw [tx_nxi (by omega), hw2]
      refine p_macroOf (q := u_qm u gg) hM hs.2.2.2.1 hli hlc hs.2.2.2.2.2.2.2.2.1 (tQ_w hM hu hm.1 hgg (by omega) (Or.inr rfl)) (fun _ => ?_) (fun y y1 => absurd y1 hlt)
      obtain ⟨b1, b2⟩ := MM_e (e' := Int32.ofInt (-6)) (f' := mj_u2 f 1714 70 (Int32.ofInt (-6))) hm h10 (mw_S rfl) z_u2s (by decide)
      exact z_bt rfl (hk _ vc _ b1 b2 (by omega))
  -- a macro
  obtain ⟨⟨tg, rm⟩, hy⟩ := l_fb_s (q := u_qm u gg) (c := ln) (m := lc) (k := 0) (by omega)
  have hT2 := hx.2.2.2.1 _ hlt
  have hrm : l_nd (u_qm u gg) ln lc 0 = rm := by
    unfold l_nd
    rw [Nat.sub_zero, if_pos hlt, hy]
    rfl
  generalize hTT' : ln (l_fb (u_qm u gg) ln lc 0) = T2 at hy hT2
  obtain ⟨x, a, m2, e8, q8, b8, bb, k8, L8, mc, htg, hrm0, w1, w2, w3, w5, w6, w7, w9, w10, w11, w12⟩ := tg_mac hu hT2 hy
  have hW2 := (hu.2.2.2 T2 hT2).1
  have hn2 := hW2.1
  have hm23 := mc.2.2.2.2.2.1
  -- its arguments
  have args : ∃ (e1 : Int32) (j : Nat) (ga : Nat → Nat) (av : Nat → rv) (ra1 rd1 : Nat → Int32), j ≤ 3 ∧ (∀ k, ga k = 3 ∨ ga k < j) ∧ (∀ k, k < j → rv_in (u_D u) (av k)) ∧ (∀ k, ga k ≠ 3 → k < m2) ∧ agC u T2 rm a m2 N B M S lc ln op ch V o ra rd sp st hts FG (mj_r (u_G u) r 7) 0 0 (fun _ => 3) (fun _ => rv_0) e1 ga av ra1 rd1 ∧ agM u Gm T T2 tg N B M S lc ln op ch V o ra rd sp st hts FG (p + 3) 0 0 (fun _ => 3) (fun _ => rv_0) e1 j ga av ra1 rd1 := by
    rcases hargs with ⟨g1, g2⟩ | g
    · obtain ⟨c4, c5⟩ := ag_0 (rm := rm) (a := a) (m2 := m2) (T2 := T2) (tg := tg) (j := 0) (un := 0) (p := p + 3) (ga := fun _ => 3) (av := fun _ => rv_0) (o := o) (ra := ra) (rd := rd) (sp := sp) (st := st) (hts := hts) (FG := FG) (V := V) (N := N) (B := B) (M := M) (S := S) (lc := lc) (ln := ln) (op := op) (ch := ch) (u := u) hM hT (by omega) (by rw [← g1]; exact he125)
      rw [g2]
      exact ⟨nI 0, 0, fun _ => 3, fun _ => rv_0, ra, rd, by omega, fun _ => Or.inl rfl, fun k hk => absurd hk (by omega), fun k hk => absurd rfl hk, c4, c5⟩
    · exact ag_all hM hu hT hx hV mc he125 hen g 0 0 (fun _ => 3) (fun _ => rv_0) ra rd (by omega) (by omega) (fun _ => Or.inl rfl) (fun k hk => absurd hk (by omega)) (fun k hk => absurd rfl hk)
  obtain ⟨e1, j, ga, av, ra1, rd1, hj, hga, hav, hgm, agc, agm⟩ := args
  have hga4 : ∀ k, ga k < 4 := fun k => by have := hga k; omega
  -- what the class needs to be told of the caller's body
  have q1ex : ∃ q1, cbQ u T c e0 q1 r := by
    by_cases h38 : c = 38
    · obtain ⟨q1, bb', g1, g2, g3, g4, g5⟩ := hbod (by omega)
      exact ⟨q1, fun _ => ⟨⟨_, _, _, _, g1, g2, g3⟩, by omega, _, _, _, g1, hL1⟩⟩
    · exact ⟨0, fun q => absurd q h38⟩
  obtain ⟨q1, hq1⟩ := q1ex
  have hchC : ∀ ch', ch' = (if c = 38 then ((T, e0 + 1, q1, mj_r (u_G u) r 8, N, lc, ln) : en) :: ch else []) → (mj_i (u_G u) r 0 = nI 38 ∧ ∃ y, ch' = y :: ch ∧ en_r y = mj_r (u_G u) r 8 ∧ en_x y = N ∧ en_n y = lc ∧ en_c y = ln) ∨ (mj_i (u_G u) r 0 = nI 33 ∧ ch' = []) := fun ch' h => by
    rcases hcc with rfl | rfl
    · exact Or.inr ⟨hr0, h⟩
    · exact Or.inl ⟨hr0, _, h, rfl, rfl, rfl, rfl⟩
  by_cases h1 : e1 = nI 0
  case neg =>
    refine ⟨e1, V, o, ra1, rd1, sp, st, hts, FG, pJ_r hV hst, ?_, ?_⟩
    · intro fr b cn top la ρ G hC hnx k1 k2 k3 Q hQ h80 hb1 hb2 d dm K t hd hdm htt c1 c2
      refine ⟨fun q => absurd q (by omega), fun q => absurd q (by omega), fun q => absurd q (by omega), fun q => absurd q (by omega), fun q => absurd q (by omega), fun q => absurd q (by omega), fun q => absurd q (by omega), fun q => absurd q (by omega), fun q => absurd q (by omega), fun _ => ?_⟩
      refine c_oc (e2 := nI 0) (g' := fun _ => none) (ra2 := ra1) (rd2 := rd1) hC hop hch hlc k1 k2 k3 hA hr6 (by omega) rfl (by omega) hg3 hgg hrm hrm0 mc (by omega) agc (fun q => absurd q h1) (hchC _ rfl) (fun _ ρ1 G1 a1 a2 a3 a4 a5 => ⟨fun q => absurd q h1, fun q => c2 q o ρ1 G1 cn top t (rX_of a1 o_le_r a2 a3 a4 (fun _ _ => rfl) (by omega))⟩) (fun q => absurd q h1) (fun q => absurd q h1) (fun q => absurd q h1)
    · intro f bg vc li LC ci CA tr hm Q hQ hQn hb1 hb2 D KK hD hk
      obtain ⟨D, rfl⟩ : ∃ x, D = x + 1 := ⟨D - 1, by omega⟩
      refine ⟨fun q => absurd q (by omega), fun _ => disp f D KK (MM_T hm hT) ?_, fun q => absurd q (by omega)⟩
      exact p_callA (e2 := nI 0) (g' := fun _ => none) (ra2 := ra1) (rd2 := rd1) hM hu hT hx hV hm (by omega) (by omega) hgg (by omega) hw2 rfl hy hlt hTT' mc htg hj hga hgm hav (by omega) agm (fun q => absurd q h1) (fun _ f' fe a1 a2 => hk f' vc fe a1 a2 (by omega)) (fun q => absurd q h1)
  subst h1
  -- its defaults
  obtain ⟨e2, g', ra2, rd2, hgin', dfc, dfm⟩ := df_all (o := o) (sp := sp) (st := st) (hts := hts) (FG := FG) hM hu hx hV mc htg hj hga4 (fun k _ h => hgm k h) (n := m2) (i := 0) (Nat.zero_add _) (gvO ga av) ra1 rd1 (fun k _ _ => gv_none) (fun k v hk hv => by
    have h3 : ga k ≠ 3 := fun q => by
      rw [gv_none.mpr q] at hv
      exact nomatch hv
    unfold gvO at hv
    rw [if_neg h3] at hv
    obtain rfl := Option.some.inj hv
    have := hga k
    exact hav _ (by omega))
  by_cases h2 : ¬ e2 = nI 0 ∨ op = 12
  · -- it fails behind them
    refine ⟨if e2 = nI 0 then Int32.ofInt (-8) else e2, V, o, ra2, rd2, sp, st, hts, FG, pJ_r hV hst, ?_, ?_⟩
    · intro fr b cn top la ρ G hC hnx k1 k2 k3 Q hQ h80 hb1 hb2 d dm K t hd hdm htt c1 c2
      refine ⟨fun q => absurd q (by omega), fun q => absurd q (by omega), fun q => absurd q (by omega), fun q => absurd q (by omega), fun q => absurd q (by omega), fun q => absurd q (by omega), fun q => absurd q (by omega), fun q => absurd q (by omega), fun q => absurd q (by omega), fun _ => ?_⟩
      refine c_oc hC hop hch hlc k1 k2 k3 hA hr6 (by omega) rfl (by omega) hg3 hgg hrm hrm0 mc (by omega) agc (fun _ => dfc) (hchC _ rfl) (fun q => absurd rfl q) (fun _ q2 ρ1 G1 a1 a2 a3 a4 a5 => ?_) (fun _ q2 q3 ρ1 G1 a1 a2 a3 a4 a5 => ?_) (fun _ q2 q3 => absurd h2 (by
        intro h
        rcases h with h | h
        · exact h q2
        · omega))
      · rw [if_neg q2] at c2
        exact ⟨fun q => absurd q q2, fun q => c2 q o ρ1 G1 cn top t (rX_of a1 o_le_r a2 a3 a4 (fun _ _ => rfl) (by omega))⟩
      · rw [if_pos q2] at c2
        exact ⟨fun q => absurd q (by decide), fun q => c2 q o ρ1 G1 cn top t (rX_of a1 o_le_r a2 a3 a4 (fun _ _ => rfl) (by omega))⟩
    · intro f bg vc li LC ci CA tr hm Q hQ hQn hb1 hb2 D KK hD hk
      obtain ⟨D, rfl⟩ : ∃ x, D = x + 1 := ⟨D - 1, by omega⟩
      refine ⟨fun q => absurd q (by omega), fun _ => disp f D KK (MM_T hm hT) ?_, fun q => absurd q (by omega)⟩
      refine p_callA hM hu hT hx hV hm (by omega) (by omega) hgg (by omega) hw2 rfl hy hlt hTT' mc htg hj hga hgm hav (by omega) agm (fun _ => dfm) (fun q => absurd rfl q) (fun _ f' vc2 fe D' a1 a2 a3 => ?_)
      exact p_callX hM h10 a1 (by
        by_cases q : e2 = nI 0
        · exact Or.inr ⟨q, h2.resolve_left (fun h => h q)⟩
        · exact Or.inl q) hop hx.1 hV (fun s l hs => if_neg (by omega)) (fun s hs => if_neg (by omega)) (fun s hs => if_neg (by omega)) (if_pos rfl) hSN (fun s _ => hx.2.2.2.2.1 s) (fun f' b1 b2 => hk f' vc _ b1 (mF_t a2 b2) (by omega))
  have he2 : e2 = nI 0 := Classical.byContradiction (fun q => h2 (Or.inl q))
  have ho : op < 12 := by
    have : ¬ op = 12 := fun q => h2 (Or.inr q)
    omega
  subst he2
  -- its body
  have hV1 := pV_cl (m := m2) (lt := p_lt (u_w u T2) a) (g := g') hV (fun i hi => (mc_lt mc hi).1) (fun i v hi hv => hgin' i v hi hv)
  have hx1 : ∀ ch', ch' = (if c = 38 then ((T, e0 + 1, q1, mj_r (u_G u) r 8, N, lc, ln) : en) :: ch else []) → pX u (N + 1) (e_bh B N 0) M S lc ln (op + 1) ch' := fun ch' h => by
    obtain ⟨i1, i2, i3, i4, i5, i6, i7, i8⟩ := pX_s (x := 0) (pX_o hx ho) (Nat.zero_le N)
    refine ⟨i1, i2, i3, i4, i5, i6, i7, fun y hy => ?_⟩
    rcases hcc with rfl | rfl
    · rw [h] at hy
      exact nomatch hy
    · rw [h, if_pos rfl] at hy
      rcases List.mem_cons.mp hy with rfl | hy
      · obtain ⟨-, g2, kk, b', LL, g3, g4⟩ := hq1 rfl
        exact ⟨hT, hlc, hx.1, Nat.le_succ N, g2, hx.2.2.2.1, kk, b', LL, g3, g4⟩
      · exact i8 y hy
  generalize hch' : (if c = 38 then ((T, e0 + 1, q1, mj_r (u_G u) r 8, N, lc, ln) : en) :: ch else []) = ch' at hx1 hchC
  obtain ⟨e, V', o', ra', rd', sp', st', hts', FG', j1, j2, j3⟩ := bd_0 (o := o) (ra := ra2) (rd := rd2) (sp := sp) (hts := hts) (FG := FG) w5 hV1 hst (fun hr => ih ho T2 hT2 _ _ _ _ _ _ w5 w12 (by omega) hr _ _ _ _ _ _ _ (e_cl V N (p_vl (p_lt (u_w u T2) a) g' m2)) o ra2 rd2 sp st hts FG (hx1 ch' rfl) hV1 hst)
  have hVV : ∀ s l, s < N → V' s l = V s l := fun s l hsl => (j1.2.2.1 s l (by omega)).trans (if_neg (by omega))
  refine ⟨e, V, o', ra', rd', sp', st', hts', FG', ⟨j1.1, hV, fun _ _ _ => rfl, j1.2.2.2.1, j1.2.2.2.2⟩, ?_, ?_⟩
  · intro fr b cn top la ρ G hC hnx k1 k2 k3 Q hQ h80 hb1 hb2 d dm K t hd hdm htt c1 c2
    refine ⟨fun q => absurd q (by omega), fun q => absurd q (by omega), fun q => absurd q (by omega), fun q => absurd q (by omega), fun q => absurd q (by omega), fun q => absurd q (by omega), fun q => absurd q (by omega), fun q => absurd q (by omega), fun q => absurd q (by omega), fun _ => ?_⟩
    refine c_oc (bN := b (N - 1) + cn (N - 1)) hC hop hch hlc k1 k2 k3 hA hr6 (by omega) rfl (by omega) hg3 hgg hrm hrm0 mc (by omega) agc (fun _ => dfc) (hchC ch' rfl) (fun q => absurd rfl q) (fun _ q => absurd rfl q) (fun _ _ q => absurd q (by omega)) (fun _ _ _ ρ1 G1 G2 a1 a2 a3 a4 a5 C1 F1 FF1 nx1 nx8 kd => ?_)
    have hs' : ∀ s, s < N → e_bh B N 0 s = B s ∧ e_bh fr N (top + 1) s = fr s ∧ e_bh b N (b (N - 1) + cn (N - 1)) s = b s ∧ e_bh cn N m2 s = cn s := fun s hsl => ⟨if_neg (by omega), if_neg (by omega), if_neg (by omega), if_neg (by omega)⟩
    have hcN : e_bh cn N m2 N = m2 := if_pos rfl
    refine ⟨fun _ => ?_, fun q => absurd rfl q⟩
    exact sc_C (TT := t + 100 * (2000 - st) + 100 + (m - p)) (q := m) a1 (nx1.trans (a5.trans hnx)) hVV C1 ro_r F1 FF1 nx8 (kd.trans hr0) hkc hs' (if_pos rfl) (if_pos rfl) (by rw [hcN]; exact hm23) (Nat.le_refl M) (fun _ _ => rfl) j2 o_le_r (by omega) (by omega) (by omega) (by rw [hcN]; omega) (by omega) hd (by omega) (by omega) (fun he ρ' G3 t' hN => c1 he ρ' G3 cn t' (rN_l a2 a3 a4 (Nat.le_refl _) hN)) (fun he o2 ρ' G3 cn' top' t' hX => c2 he o2 ρ' G3 cn' top' t' (rX_l o_le_r a2 a3 a4 (Nat.le_refl _) hX))
  · intro f bg vc li LC ci CA tr hm Q hQ hQn hb1 hb2 D KK hD hk
    obtain ⟨D, rfl⟩ : ∃ x, D = x + 1 := ⟨D - 1, by omega⟩
    refine ⟨fun q => absurd q (by omega), fun _ => disp f D KK (MM_T hm hT) ?_, fun q => absurd q (by omega)⟩
    refine p_callA hM hu hT hx hV hm (by omega) (by omega) hgg (by omega) hw2 rfl hy hlt hTT' mc htg hj hga hgm hav (by omega) agm (fun _ => dfm) (fun q => absurd rfl q) (fun _ f2 vc2 fe D' a1 a2 a3 => ?_)
    have hv2 := mac_vc a1 (show e_bh bg N vc N = vc from if_pos rfl)
    have hcase : (nI (if c = 38 then 1 else 0) = nI 0 ∧ ch' = []) ∨ (nI (if c = 38 then 1 else 0) = nI 1 ∧ ch' = (T, e0 + 1, q1, mj_r (u_G u) r 8, N, lc, ln) :: ch ∧ ∃ kk bb rr LL, tb_B kk (u_A u) (u_G u) (nI T) bb rr (u_w u T) (e0 + 1) q1 LL ∧ u_w u T q1 = 123 ∧ u_w u T (q1 + 1) = 59) := by
      rcases hcc with rfl | rfl
      · exact Or.inl ⟨rfl, hch'.symm⟩
      · exact Or.inr ⟨rfl, hch'.symm, (hq1 rfl).1⟩
    exact p_callB hM hT h9 hp123 he125 hcase hT2 hW2 htg w1 w2 w3 w5 w6 w7 h10 hlc a1 ho j3 (by omega) (by omega) (by omega) (by omega) hx.1 hV hVV (fun s hs => if_neg (by omega)) (fun s hs => if_neg (by omega)) (if_pos rfl) hSN (fun s _ => hx.2.2.2.2.1 s) (fun f' b1 b2 => hk f' vc _ b1 (mF_t a2 b2) (by omega))
end ZZL
