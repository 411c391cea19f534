/-! CALLS -/
section C09
variable {u : wo} {Gm : mj_G} {T T2 tg rm me : Nat} {x a : Nat → Nat} {m2 : Nat} {N : Nat} {B : Nat → Nat} {M : Nat} {S : Nat → Nat} {lc : Nat} {ln : Nat → Nat} {op : Nat} {ch : List en} {V : Nat → Nat → Option rv} {o : ost} {ra rd : Nat → Int32} {sp : Nat → Bool} {st hts : Nat} {FG : Nat → kfr}
theorem as_0 {j un : Nat} {ga : Nat → Nat} {av : Nat → rv} : agC u T2 rm a m2 N B M S lc ln op ch V o ra rd sp st hts FG 0 j un ga av (nI 0) ga av ra rd := by
  intro fr b cn top la ρ G hC ht bN hbN hb ha hf d K hd k1
  have fin : K (nI 0) G := k1 ρ G hC ro_r fw_r FF_r rfl (fun _ => ⟨ha, hf⟩)
  exact w_Rn_giveArguments_12 hC.1.1 (z_br (fun _ => fin) (fun _ => z_bt rfl fin))
theorem as_all (hM : mm_S Gm) (hu : uP u) (hT : T < 10) (hx : pX u N B M S lc ln op ch) (hV : pV u N V) (mc : mcP u T2 tg rm x a m2 me) {e0 : Nat} (he0 : u_w u T e0 = 125) (hen : e0 < u_n u T) : ∀ {i r p : Nat}, tx_A i (u_A u) (u_G u) r (u_w u T) p e0 → ∀ (j un : Nat) (ga : Nat → Nat) (av : Nat → rv) (ra rd : Nat → Int32), i + j = 3 → un ≤ j → (∀ k, ga k = 3 ∨ ga k < j) → (∀ k, k < j → rv_in (u_D u) (av k)) → (∀ k, ga k ≠ 3 → k < m2) → ∃ (e : Int32) (j' : Nat) (ga' : Nat → Nat) (av' : Nat → rv) (ra' rd' : Nat → Int32), j' ≤ 3 ∧ (∀ k, ga' k = 3 ∨ ga' k < j') ∧ (∀ k, k < j' → rv_in (u_D u) (av' k)) ∧ (∀ k, ga' k ≠ 3 → k < m2) ∧ agC u T2 rm a m2 N B M S lc ln op ch V o ra rd sp st hts FG r j un ga av e ga' av' ra' rd' ∧ AG u N B M S V m2 (p_lt (u_w u T2) a) r j un ga av ra rd e ga' av' ra' rd'
  | 0, _, _, h => h.elim
  | i + 1, r, p, h => by
    intro j un ga av ra rd hij hun hga hav hgm
    obtain ⟨ch1, ch2⟩ := tx_A_ch h
    obtain ⟨h1, h2, h3, s, q, hah, ⟨l, hE⟩, hrest⟩ := h
    have hW := (hu.2.2.2 T hT).1
    have hn := hW.1
    have hm3 := mc.2.2.2.2.2.1
    obtain ⟨x1, -⟩ := tx_E_ch hE
    have hqn : q < u_n u T := by
      rcases hrest with ⟨-, -, g⟩ | ⟨-, g, -⟩
      · have := (tx_A_ch g).1
        omega
      · omega
    have h124 : ¬ u_w u T q = 124 := by
      rcases hrest with ⟨-, g, -⟩ | ⟨-, g, -⟩
      · omega
      · rw [g, he0]
        decide
    have h10 := pX_10 hx
    have hp125 : ¬ u_w u T p = 125 := (ch2 p (Nat.le_refl _) ch1).2.1
    obtain ⟨e1, v, ra1, rd1, f1, f2, f3⟩ := xs_all (sl := 0) (dep := 0) hW hx.2.2.2.2.1 hu.1 (fun s l v q => (hV s l v q).2.2) (Nat.le_refl N) hE (by omega) (by omega) (by omega) ra rd
    -- where it goes
    have hpl : ∃ pl un' : Nat, pl ≤ 3 ∧ un' ≤ j + 1 ∧ ((mj_i (u_G u) r 4 = Int32.ofInt (-1) ∧ pl = un ∧ un' = un + 1) ∨ ∃ l, l < 26 ∧ mj_i (u_G u) r 4 = nI l ∧ un' = un ∧ ((pl < m2 ∧ p_lt (u_w u T2) a pl = l) ∨ ((∀ i, i < m2 → ¬ p_lt (u_w u T2) a i = l) ∧ pl = 3))) ∧ ((¬ (tx_L (u_w u T p) ∧ u_w u T (p + 1) = 58) ∧ pl = un ∧ un' = un + 1) ∨ (tx_L (u_w u T p) ∧ u_w u T (p + 1) = 58 ∧ un' = un ∧ ((pl < m2 ∧ u_w u T2 (a pl) = u_w u T p) ∨ ((∀ i, i < m2 → ¬ u_w u T2 (a i) = u_w u T p) ∧ pl = 3)))) := by
      rcases hah with ⟨g1, g2, g3, g4⟩ | ⟨g1, g2, g3⟩
      · have hl : 97 ≤ u_w u T p ∧ u_w u T p ≤ 122 := g1
        by_cases hh : ∃ i, i < m2 ∧ u_w u T2 (a i) = u_w u T p
        · obtain ⟨i, i1, i2⟩ := hh
          have := (mc_lt mc i1).2
          exact ⟨i, un, by omega, by omega, Or.inr ⟨u_w u T p - 97, by omega, g4, rfl, Or.inl ⟨i1, by omega⟩⟩, Or.inr ⟨g1, g2, rfl, Or.inl ⟨i1, i2⟩⟩⟩
        · refine ⟨3, un, by omega, by omega, Or.inr ⟨u_w u T p - 97, by omega, g4, rfl, Or.inr ⟨fun i i1 i2 => hh ⟨i, i1, ?_⟩, rfl⟩⟩, Or.inr ⟨g1, g2, rfl, Or.inr ⟨fun i i1 i2 => hh ⟨i, i1, i2⟩, rfl⟩⟩⟩
          have := (mc_lt mc i1).2
          omega
      · exact ⟨un, un + 1, by omega, by omega, Or.inl ⟨g3, rfl, rfl⟩, Or.inl ⟨g1, rfl, rfl⟩⟩
    obtain ⟨pl, un', p1, p2, hxC, hxM⟩ := hpl
    have hok : ∀ i, i < j → rv_ok (av i) := fun i hi => (hav i hi).1
    by_cases he : e1 = nI 0
    · by_cases ho : pl < m2 ∧ ga pl = 3
      · have hga' : ∀ k, g_u ga pl j k = 3 ∨ g_u ga pl j k < j + 1 := fun k => by
          by_cases t : k = pl
          · rw [t, g_us]
            omega
          · rw [g_un t]
            have := hga k
            omega
        have hav' : ∀ k, k < j + 1 → rv_in (u_D u) (g_u av j v k) := fun k hk => by
          by_cases t : k = j
          · rw [t, g_us]
            exact f1 he
          · rw [g_un t]
            exact hav k (by omega)
        have hgm' : ∀ k, g_u ga pl j k ≠ 3 → k < m2 := fun k hk => by
          by_cases t : k = pl
          · rw [t]
            exact ho.1
          · rw [g_un t] at hk
            exact hgm k hk
        have both : ∀ {e : Int32} {ga' : Nat → Nat} {av' : Nat → rv} {ra' rd' : Nat → Int32}, agC u T2 rm a m2 N B M S lc ln op ch V o ra1 rd1 sp st hts FG (mj_r (u_G u) r 10) (j + 1) un' (g_u ga pl j) (g_u av j v) e ga' av' ra' rd' → agC u T2 rm a m2 N B M S lc ln op ch V o ra rd sp st hts FG r j un ga av e ga' av' ra' rd' := fun hA => by
          intro fr b cn top la ρ G hC ht bN hbN hb ha hf d K hd k1
          refine c_ga12 hC mc ht hbN hb ha hf h1 h2 h3 (by omega) hun hxC f2 f1 (by omega) (fun q => absurd he q) (fun _ q => absurd ho q) (fun _ _ _ ρ1 G1 a1 a2 a3 a4 a5 a6 a7 => ?_)
          rw [← gvO_u (by omega) hga] at a6
          refine hA fr b cn top la ρ1 G1 a1 ht bN hbN hb a6 a7 d K hd (fun ρ2 G2 b1 b2 b3 b4 b5 b6 => ?_)
          exact k1 ρ2 G2 b1 (ro_t a2 a3.1 b2) (fw_t a3 a2 b3) (FF_t a4 a2 a3.1 b4) (b5.trans a5) b6
        subst he
        rcases hrest with ⟨g1, g2, g3⟩ | ⟨-, g2, g3⟩
        · obtain ⟨e, j', ga', av', ra', rd', c1, c2, c3, c3', c4, c5⟩ := as_all hM hu hT hx hV mc he0 hen g3 (j + 1) un' (g_u ga pl j) (g_u av j v) ra1 rd1 (by omega) p2 hga' hav' hgm'
          exact ⟨e, j', ga', av', ra', rd', c1, c2, c3, c3', both c4, .ok h2 ⟨_, f3⟩ hxC ho c5⟩
        · rw [g3] at both
          exact ⟨nI 0, j + 1, _, _, ra1, rd1, by omega, hga', hav', hgm', both as_0, .ok h2 ⟨_, f3⟩ hxC ho (by rw [g3]; exact .nil)⟩
      · -- it may not be
        refine ⟨Int32.ofInt (-6), j, ga, av, ra1, rd1, by omega, hga, hav, hgm, ?_, .no h2 (by rw [← he]; exact ⟨_, f3⟩) hxC ho⟩
        · intro fr b cn top la ρ G hC ht bN hbN hb ha hf d K hd k1
          exact c_ga12 hC mc ht hbN hb ha hf h1 h2 h3 (by omega) hun hxC f2 f1 (by omega) (fun q => absurd he q) (fun _ _ ρ1 G1 a1 a2 a3 a4 a5 => k1 ρ1 G1 a1 a2 a3 a4 a5 (fun t => absurd t (by decide))) (fun _ q1 q2 => absurd ⟨q1, q2⟩ ho)
    · refine ⟨e1, j, ga, av, ra1, rd1, by omega, hga, hav, hgm, ?_, .bad h2 ⟨_, f3⟩ he⟩
      · intro fr b cn top la ρ G hC ht bN hbN hb ha hf d K hd k1
        exact c_ga12 hC mc ht hbN hb ha hf h1 h2 h3 (by omega) hun hxC f2 f1 (by omega) (fun _ ρ1 G1 a1 a2 a3 a4 a5 => k1 ρ1 G1 a1 a2 a3 a4 a5 (fun t => absurd t he)) (fun q => absurd q he) (fun q => absurd q he)
end C09
section C09b
variable {u : wo} {Gm : mj_G} {f f1 f' : mm_F} {P S1 R1 : Nat → Prop} {T T2 p q s d tg rm me j k i : Nat} {x a lt : Nat → Nat} {ga : Nat → Nat} {av : Nat → rv} {g : Nat → Option rv} {m2 : Nat} {e : Int32} {v : rv} {N : Nat} {B : Nat → Nat} {M : Nat} {S : Nat → Nat} {lc : Nat} {ln : Nat → Nat} {op : Nat} {ch : List en} {V : Nat → Nat → Option rv} {o : ost} {ra rd : Nat → Int32} {sp : Nat → Bool} {st hts : Nat} {FG : Nat → kfr} {V' : Nat → Nat → Option rv} {o' : ost} {ra' rd' : Nat → Int32} {sp' : Nat → Bool} {st' hts' : Nat} {FG' : Nat → kfr} {bg : Nat → Nat} {vc li LC : Nat} {ci : Int32} {CA tr : Nat}
theorem ds_all (hM : mm_S Gm) (hu : uP u) (hx : pX u N B M S lc ln op ch) (hV : pV u N V) (mc : mcP u T2 tg rm x a m2 me) (htg : tg < 80) (hj : j ≤ 3) (hga : ∀ k, ga k < 4) (hgm : ∀ k, k < 3 → ga k ≠ 3 → k < m2) : ∀ {n i : Nat}, i + n = m2 → ∀ (g : Nat → Option rv) (ra rd : Nat → Int32), (∀ k, i ≤ k → k < m2 → (g k = none ↔ ga k = 3)) → (∀ k v, k < m2 → g k = some v → rv_in (u_D u) v) → ∃ (e : Int32) (g' : Nat → Option rv) (ra' rd' : Nat → Int32), (∀ k v, k < m2 → g' k = some v → rv_in (u_D u) v) ∧ dfC u T2 x a m2 N B M S lc ln op ch V o ra rd sp st hts FG i g e g' ra' rd' ∧ DF u N B M S V m2 (p_lt (u_w u T2) a) x i g ra rd e g' ra' rd'
  | 0, i, hi => by
    intro g ra rd hg hgin
    have q : i = m2 := by omega
    subst q
    have hm3 := mc.2.2.2.2.2.1
    refine ⟨nI 0, g, ra, rd, hgin, ?_, .nil⟩
    · intro fr b cn top la ρ G hC ht bN hbN hb ha hf d K hd k1
      have fin : K (nI 0) G := k1 ρ G hC ro_r fw_r FF_r rfl (fun _ => ⟨ha, hf⟩)
      obtain ⟨pc, -, -⟩ := mc_pC hC.2.1 mc
      exact w_Rn_giveDefaults_9 hC.1.1 (z_br (fun _ => fin) (fun _ => z_bt pc.2.1 fin))
  | n + 1, i, hi => by
    intro g ra rd hg hgin
    have him : i < m2 := by omega
    have hm3 := mc.2.2.2.2.2.1
    have h10 := pX_10 hx
    have c7 := mc.2.2.2.2.2.2.1
    have hW := (hu.2.2.2 T2 mc.1).1
    have hn2 := hW.1
    have hal1 := pA_le c7 (j := m2 - (i + 1)) (i := i + 1) (by omega)
    have hal := pA_le c7 (j := m2 - i) (i := i) (by omega)
    obtain ⟨l1, l2⟩ := mc_lt mc him
    obtain ⟨-, -, -, -, -, -, g7, -⟩ := c7.2.2 i him
    have men : me < u_n u T2 := mc.2.2.2.2.2.2.2.2
    by_cases hgi : ga i = 3
    · have gn : g i = none := (hg i (Nat.le_refl _) him).mpr hgi
      -- a value more, by both sides
      have more : ∀ (v : rv), rv_in (u_D u) v → (∀ k, i + 1 ≤ k → k < m2 → (g_u g i (some v) k = none ↔ ga k = 3)) ∧ (∀ k w, k < m2 → g_u g i (some v) k = some w → rv_in (u_D u) w) := fun v hv => ⟨fun k hk hkm => by rw [g_un (by omega)]; exact hg k (by omega) hkm, fun k w hk hw => by
        by_cases t : k = i
        · rw [t, g_us] at hw
          obtain rfl := Option.some.inj hw
          exact hv
        · rw [g_un t] at hw
          exact hgin k w hk hw⟩
      rcases g7 with ⟨b1, b2, b3⟩ | ⟨b1, l, b2⟩
      · obtain ⟨m1, mm2⟩ := more rv_0 rv_in0
        obtain ⟨e, g', ra', rd', z1, z2, z3⟩ := ds_all hM hu hx hV mc htg hj hga hgm (n := n) (i := i + 1) (by omega) (g_u g i (some rv_0)) ra rd m1 mm2
        refine ⟨e, g', ra', rd', z1, ?_, .non him gn b3 z3⟩
        · intro fr b cn top la ρ G hC ht bN hbN hb ha hf d K hd k1
          refine c_gd9 (q := 0) (s := 0) (e := nI 0) (v := rv_0) (ra' := ra) (rd' := rd) hC mc ht hbN hb ha hf him gn (fun _ ρ1 G1 a1 a2 a3 a4 a5 a6 a7 => ?_) (fun q => absurd b3 q) (fun q => absurd b3 q) (fun q => absurd b3 q)
          exact z2 fr b cn top la ρ1 G1 a1 ht bN hbN hb a6 a7 d K hd (fun ρ2 G2 y1 y2 y3 y4 y5 y6 => k1 ρ2 G2 y1 (ro_t a2 a3.1 y2) (fw_t a3 a2 y3) (FF_t a4 a2 a3.1 y4) (y5.trans a5) y6)
      · have hnz := (b2 : tx_E l _ _ _ _ _ _ _)
        have hnz : ¬ mj_r (u_G u) (x i) 6 = 0 := by
          cases l with
          | zero => exact hnz.elim
          | succ l => exact hnz.2.1
        have hBs : ∀ s, e_bh B N 0 s ≤ s := fun s => by
          unfold e_bh
          by_cases q : s = N
          · rw [if_pos q]
            exact Nat.zero_le _
          · rw [if_neg q]
            exact hx.2.2.2.2.1 s
        have hV1 := pV_cl (g := g) hV (fun i hi => (mc_lt mc (i := i) hi).1) (fun i v hi hv => hgin i v hi hv)
        obtain ⟨x1', -⟩ := tx_E_ch b2
        obtain ⟨e1, v, ra1, rd1, f1, f2, f3⟩ := xs_all (sl := 0) (dep := 0) (M := M) (S := S) hW hBs hu.1 (fun s l v q => (hV1 s l v q).2.2) (Nat.le_refl (N + 1)) b2 (by omega) (by omega) (by omega) ra rd
        by_cases he : e1 = nI 0
        · subst he
          obtain ⟨m1, mm2⟩ := more v (f1 rfl)
          obtain ⟨e, g', ra', rd', z1, z2, z3⟩ := ds_all hM hu hx hV mc htg hj hga hgm (n := n) (i := i + 1) (by omega) (g_u g i (some v)) ra1 rd1 m1 mm2
          refine ⟨e, g', ra', rd', z1, ?_, .dfl him gn hnz ⟨_, f3⟩ z3⟩
          · intro fr b cn top la ρ G hC ht bN hbN hb ha hf d K hd k1
            refine c_gd9 hC mc ht hbN hb ha hf him gn (fun q => absurd q hnz) (fun _ => ⟨by omega, f2, f1⟩) (fun _ q => absurd rfl q) (fun _ _ ρ1 G1 a1 a2 a3 a4 a5 a6 a7 => ?_)
            exact z2 fr b cn top la ρ1 G1 a1 ht bN hbN hb a6 a7 d K hd (fun ρ2 G2 y1 y2 y3 y4 y5 y6 => k1 ρ2 G2 y1 (ro_t a2 a3.1 y2) (fw_t a3 a2 y3) (FF_t a4 a2 a3.1 y4) (y5.trans a5) y6)
        · refine ⟨e1, g, ra1, rd1, hgin, ?_, .bad him gn hnz ⟨_, f3⟩ he⟩
          · intro fr b cn top la ρ G hC ht bN hbN hb ha hf d K hd k1
            exact c_gd9 hC mc ht hbN hb ha hf him gn (fun q => absurd q hnz) (fun _ => ⟨by omega, f2, f1⟩) (fun _ _ ρ1 G1 a1 a2 a3 a4 a5 => k1 ρ1 G1 a1 a2 a3 a4 a5 (fun q => absurd q he)) (fun _ q => absurd q he)
    · -- it has its value
      have gs : ∃ v, g i = some v := by
        cases hgv : g i with
        | none => exact absurd ((hg i (Nat.le_refl _) him).mp hgv) hgi
        | some v => exact ⟨v, rfl⟩
      obtain ⟨v, gs⟩ := gs
      obtain ⟨e, g', ra', rd', z1, z2, z3⟩ := ds_all hM hu hx hV mc htg hj hga hgm (n := n) (i := i + 1) (by omega) g ra rd (fun k hk hkm => hg k (by omega) hkm) hgin
      refine ⟨e, g', ra', rd', z1, ?_, .has him gs z3⟩
      · intro fr b cn top la ρ G hC ht bN hbN hb ha hf d K hd k1
        exact c_gd9s hC mc hb ha him gs (z2 fr b cn top la ρ G hC ht bN hbN hb ha hf d K hd k1)
end C09b
section C09c
variable {u : wo} {Gm : mj_G} {f f' f1 : mm_F} {ρ ρ' ρ0 ρ1 : Nat → Nat} {G G0 G1 G2 G' : mj_G} {cur r nx p q m d t T l s k c j q1 : Nat} {e : Int32} {K : Int32 → mj_G → Prop} {v : rv} {b1 : Int32} {L1 : List (Nat × Nat)} {N : Nat} {B : Nat → Nat} {M : Nat} {S : Nat → Nat} {lc : Nat} {ln : Nat → Nat} {op : Nat} {ch : List en} {V : Nat → Nat → Option rv} {o : ost} {ra rd : Nat → Int32} {sp : Nat → Bool} {st hts : Nat} {FG : Nat → kfr} {V' : Nat → Nat → Option rv} {o' : ost} {ra' rd' : Nat → Int32} {sp' : Nat → Bool} {st' hts' : Nat} {FG' : Nat → kfr} {fr b cn : Nat → Nat} {top la : Nat} {bg : Nat → Nat} {vc li LC : Nat} {ci : Int32} {CA tr : Nat}
theorem ch_nz {T e0 q1 r8 c : Nat} : (if c = 38 then ((T, e0, q1, r8, N, lc, ln) : en) :: ch else []).map nz = (if c = 38 then ((0, 0, 0, r8, N, lc, ln) : en) :: ch.map nz else []) := by
  by_cases q : c = 38
  · rw [if_pos q, if_pos q]
    rfl
  · rw [if_neg q, if_neg q]
    rfl
theorem ms_call (hM : mm_S Gm) (hu : uP u) (hT : T < 10) (hx : pX u N B M S lc ln op ch) (hV : pV u N V) (hA : u_A u r) (ht : tb_t k (u_A u) (u_G u) (nI T) b1 r (u_w u T) p m L1) (hc : u_w u T (p + 1) = c) (hcc : c = 33 ∨ c = 38) (hst : st ≤ u_bu u) (hmn : m ≤ u_n u T) (hL1 : ∀ y, y ∈ L1 → y ∈ u_L u T) (ih : op < 12 → ihT u (op + 1)) : msJ u c N B M S lc ln op ch V o ra rd sp st hts FG r p m := by
  have hW := (hu.2.2.2 T hT).1
  have hn := hW.1
  have hnd := tg_nd hA ht hc
  have hop := hx.2.1
  have hlc := hx.2.2.1
  have h10 := pX_10 hx
  obtain ⟨e0, gg, hgg, hw2, hg3, hpe, hem, hen, he125, hp123, h9, hargs, hbod⟩ := tg_call ht hW (by omega)
  have hch : ∀ y, y ∈ ch → en_x y ≤ N := fun y hy => (hx.2.2.2.2.2.2.2 y hy).2.2.2.1
  have hSN := hx.2.2.2.2.2.2.1
  have hkc : ¬ nI c = nI 42 ∧ ¬ nI c = nI 107 ∧ ¬ nI c = nI 43 := by
    rcases hcc with rfl | rfl
    · exact ⟨by decide, by decide, by decide⟩
    · exact ⟨by decide, by decide, by decide⟩
  have hr6 : mj_k (u_G u) r = 6 := hnd.2.2.1
  have hr0 : mj_i (u_G u) r 0 = nI c := hnd.2.2.2.2.2
  have vN := pV_N hV
  -- where the model comes to
  by_cases hlt : l_fb (u_qm u gg) ln lc 0 < lc
  case neg =>
    -- there is no such macro
    have hno : l_fb (u_qm u gg) ln lc 0 = lc := by
      have := l_fb_le (q := u_qm u gg) (c := ln) (m := lc) (k := 0)
      omega
    refine ⟨Int32.ofInt (-6), V, o, ra, rd, sp, st, hts, FG, pJ_r hV hst, ?_, .imm (.nom hnd hcc hgg hg3 hlt)⟩
    · intro fr b cn top la ρ G hC hnx k1 k2 k3 Q hQ h80 hb1 hb2 d dm K t hd hdm htt c1 c2
      refine ⟨fun q => absurd q (by omega), fun q => absurd q (by omega), fun q => absurd q (by omega), fun q => absurd q (by omega), fun q => absurd q (by omega), fun q => absurd q (by omega), fun q => absurd q (by omega), fun q => absurd q (by omega), fun q => absurd q (by omega), fun _ => ?_⟩
      have hs := hC.2.2.1
      obtain ⟨dm, rfl⟩ : ∃ y, dm = y + 1 := ⟨dm - 1, by omega⟩
      refine w_Rn_openCall hC.1.1 ⟨k1, ?_⟩
      rw [k3, hg3]
      refine c_firstMacro (n := lc) hC.1.1 hC.2.2.2.2.1 hs.2.1 hs.2.2.2.2.2.2.1 (by have := hs.2.2.2.1; have := hs.2.1; omega) hgg hlc hs.2.2.2.2.2.2.2.2.2.1 (hC.2.1.2.1 _ hgg).2 ?_
      have h0 : l_nd (u_qm u gg) ln lc 0 = 0 := if_neg hlt
      rw [h0]
      exact z_bt rfl (kk_x hC (by decide) (by omega) c2)
  -- a macro
  obtain ⟨⟨tg, rm⟩, hy⟩ := l_fb_s (q := u_qm u gg) (c := ln) (m := lc) (k := 0) (by omega)
  have hT2 := hx.2.2.2.1 _ hlt
  have hrm : l_nd (u_qm u gg) ln lc 0 = rm := by
    unfold l_nd
    rw [Nat.sub_zero, if_pos hlt, hy]
    rfl
  generalize hTT' : ln (l_fb (u_qm u gg) ln lc 0) = T2 at hy hT2
  obtain ⟨x, a, m2, e8, q8, b8, bb, k8, L8, mc, htg, hrm0, w1, w2, w3, w5, w6, w7, w9, w10, w11, w12⟩ := tg_mac hu hT2 hy
  have hW2 := (hu.2.2.2 T2 hT2).1
  have hn2 := hW2.1
  have hm23 := mc.2.2.2.2.2.1
  have hmr : MCR u r lc ln c rm m2 x a T2 := ⟨hcc, ⟨T, p, hnd⟩, gg, tg, e8, hgg, hg3, hlt, hTT'.symm, hy, mc⟩
  -- its arguments
  have args : ∃ (e1 : Int32) (j : Nat) (ga : Nat → Nat) (av : Nat → rv) (ra1 rd1 : Nat → Int32), j ≤ 3 ∧ (∀ k, ga k = 3 ∨ ga k < j) ∧ (∀ k, k < j → rv_in (u_D u) (av k)) ∧ (∀ k, ga k ≠ 3 → k < m2) ∧ agC u T2 rm a m2 N B M S lc ln op ch V o ra rd sp st hts FG (mj_r (u_G u) r 7) 0 0 (fun _ => 3) (fun _ => rv_0) e1 ga av ra1 rd1 ∧ AG u N B M S V m2 (p_lt (u_w u T2) a) (mj_r (u_G u) r 7) 0 0 (fun _ => 3) (fun _ => rv_0) ra rd e1 ga av ra1 rd1 := by
    rcases hargs with ⟨g1, g2⟩ | g
    · rw [g2]
      exact ⟨nI 0, 0, fun _ => 3, fun _ => rv_0, ra, rd, by omega, fun _ => Or.inl rfl, fun k hk => absurd hk (by omega), fun k hk => absurd rfl hk, as_0, .nil⟩
    · exact as_all hM hu hT hx hV mc he125 hen g 0 0 (fun _ => 3) (fun _ => rv_0) ra rd (by omega) (by omega) (fun _ => Or.inl rfl) (fun k hk => absurd hk (by omega)) (fun k hk => absurd rfl hk)
  obtain ⟨e1, j, ga, av, ra1, rd1, hj, hga, hav, hgm, agc, agm⟩ := args
  have hga4 : ∀ k, ga k < 4 := fun k => by have := hga k; omega
  -- what the class needs to be told of the caller's body
  have q1ex : ∃ q1, cbQ u T c e0 q1 r := by
    by_cases h38 : c = 38
    · obtain ⟨q1, bb', g1, g2, g3, g4, g5⟩ := hbod (by omega)
      exact ⟨q1, fun _ => ⟨⟨_, _, _, _, g1, g2, g3⟩, by omega, _, _, _, g1, hL1⟩⟩
    · exact ⟨0, fun q => absurd q h38⟩
  obtain ⟨q1, hq1⟩ := q1ex
  have hchC : ∀ ch', ch' = (if c = 38 then ((T, e0 + 1, q1, mj_r (u_G u) r 8, N, lc, ln) : en) :: ch else []) → (mj_i (u_G u) r 0 = nI 38 ∧ ∃ y, ch' = y :: ch ∧ en_r y = mj_r (u_G u) r 8 ∧ en_x y = N ∧ en_n y = lc ∧ en_c y = ln) ∨ (mj_i (u_G u) r 0 = nI 33 ∧ ch' = []) := fun ch' h => by
    rcases hcc with rfl | rfl
    · exact Or.inr ⟨hr0, h⟩
    · exact Or.inl ⟨hr0, _, h, rfl, rfl, rfl, rfl⟩
  by_cases h1 : e1 = nI 0
  case neg =>
    refine ⟨e1, V, o, ra1, rd1, sp, st, hts, FG, pJ_r hV hst, ?_, .imm (.arg hmr agm h1)⟩
    · intro fr b cn top la ρ G hC hnx k1 k2 k3 Q hQ h80 hb1 hb2 d dm K t hd hdm htt c1 c2
      refine ⟨fun q => absurd q (by omega), fun q => absurd q (by omega), fun q => absurd q (by omega), fun q => absurd q (by omega), fun q => absurd q (by omega), fun q => absurd q (by omega), fun q => absurd q (by omega), fun q => absurd q (by omega), fun q => absurd q (by omega), fun _ => ?_⟩
      refine c_oc (e2 := nI 0) (g' := fun _ => none) (ra2 := ra1) (rd2 := rd1) hC hop hch hlc k1 k2 k3 hA hr6 (by omega) rfl (by omega) hg3 hgg hrm hrm0 mc (by omega) agc (fun q => absurd q h1) (hchC _ rfl) (fun _ ρ1 G1 a1 a2 a3 a4 a5 => ⟨fun q => absurd q h1, fun q => c2 q o ρ1 G1 cn top t (rX_of a1 o_le_r a2 a3 a4 (fun _ _ => rfl) (by omega))⟩) (fun q => absurd q h1) (fun q => absurd q h1) (fun q => absurd q h1)
  subst h1
  -- its defaults
  obtain ⟨e2, g', ra2, rd2, hgin', dfc, dfm⟩ := ds_all (o := o) (sp := sp) (st := st) (hts := hts) (FG := FG) hM hu hx hV mc htg hj hga4 (fun k _ h => hgm k h) (n := m2) (i := 0) (Nat.zero_add _) (gvO ga av) ra1 rd1 (fun k _ _ => gv_none) (fun k v hk hv => by
    have h3 : ga k ≠ 3 := fun q => by
      rw [gv_none.mpr q] at hv
      exact nomatch hv
    unfold gvO at hv
    rw [if_neg h3] at hv
    obtain rfl := Option.some.inj hv
    have := hga k
    exact hav _ (by omega))
  by_cases h2 : ¬ e2 = nI 0 ∨ op = 12
  · -- it fails behind them
    refine ⟨if e2 = nI 0 then Int32.ofInt (-8) else e2, V, o, ra2, rd2, sp, st, hts, FG, pJ_r hV hst, ?_, .imm (.dfx hmr agm dfm h2)⟩
    · intro fr b cn top la ρ G hC hnx k1 k2 k3 Q hQ h80 hb1 hb2 d dm K t hd hdm htt c1 c2
      refine ⟨fun q => absurd q (by omega), fun q => absurd q (by omega), fun q => absurd q (by omega), fun q => absurd q (by omega), fun q => absurd q (by omega), fun q => absurd q (by omega), fun q => absurd q (by omega), fun q => absurd q (by omega), fun q => absurd q (by omega), fun _ => ?_⟩
      refine c_oc hC hop hch hlc k1 k2 k3 hA hr6 (by omega) rfl (by omega) hg3 hgg hrm hrm0 mc (by omega) agc (fun _ => dfc) (hchC _ rfl) (fun q => absurd rfl q) (fun _ q2 ρ1 G1 a1 a2 a3 a4 a5 => ?_) (fun _ q2 q3 ρ1 G1 a1 a2 a3 a4 a5 => ?_) (fun _ q2 q3 => absurd h2 (by
        intro h
        rcases h with h | h
        · exact h q2
        · omega))
      · rw [if_neg q2] at c2
        exact ⟨fun q => absurd q q2, fun q => c2 q o ρ1 G1 cn top t (rX_of a1 o_le_r a2 a3 a4 (fun _ _ => rfl) (by omega))⟩
      · rw [if_pos q2] at c2
        exact ⟨fun q => absurd q (by decide), fun q => c2 q o ρ1 G1 cn top t (rX_of a1 o_le_r a2 a3 a4 (fun _ _ => rfl) (by omega))⟩
  have he2 : e2 = nI 0 := Classical.byContradiction (fun q => h2 (Or.inl q))
  have ho : op < 12 := by
    have : ¬ op = 12 := fun q => h2 (Or.inr q)
    omega
  subst he2
  -- its body
  have hV1 := pV_cl (m := m2) (lt := p_lt (u_w u T2) a) (g := g') hV (fun i hi => (mc_lt mc hi).1) (fun i v hi hv => hgin' i v hi hv)
  have hx1 : ∀ ch', ch' = (if c = 38 then ((T, e0 + 1, q1, mj_r (u_G u) r 8, N, lc, ln) : en) :: ch else []) → pX u (N + 1) (e_bh B N 0) M S lc ln (op + 1) ch' := fun ch' h => by
    obtain ⟨i1, i2, i3, i4, i5, i6, i7, i8⟩ := pX_s (x := 0) (pX_o hx ho) (Nat.zero_le N)
    refine ⟨i1, i2, i3, i4, i5, i6, i7, fun y hy => ?_⟩
    rcases hcc with rfl | rfl
    · rw [h] at hy
      exact nomatch hy
    · rw [h, if_pos rfl] at hy
      rcases List.mem_cons.mp hy with rfl | hy
      · obtain ⟨-, g2, kk, b', LL, g3, g4⟩ := hq1 rfl
        exact ⟨hT, hlc, hx.1, Nat.le_succ N, g2, hx.2.2.2.1, kk, b', LL, g3, g4⟩
      · exact i8 y hy
  generalize hch' : (if c = 38 then ((T, e0 + 1, q1, mj_r (u_G u) r 8, N, lc, ln) : en) :: ch else []) = ch' at hx1 hchC
  obtain ⟨e, V', o', ra', rd', sp', st', hts', FG', j1, j2, j3⟩ := bs_0 (o := o) (ra := ra2) (rd := rd2) (sp := sp) (hts := hts) (FG := FG) w5 hV1 hst (fun hr => ih ho T2 hT2 _ _ _ _ _ _ w5 w12 (by omega) hr _ _ _ _ _ _ _ (e_cl V N (p_vl (p_lt (u_w u T2) a) g' m2)) o ra2 rd2 sp st hts FG (hx1 ch' rfl) hV1 hst)
  have hVV : ∀ s l, s < N → V' s l = V s l := fun s l hsl => (j1.2.2.1 s l (by omega)).trans (if_neg (by omega))
  refine ⟨e, V, o', ra', rd', sp', st', hts', FG', ⟨j1.1, hV, fun _ _ _ => rfl, j1.2.2.2.1, j1.2.2.2.2⟩, ?_, .opn (.cal hmr agm dfm ho) (by rw [← ch_nz (T := T) (e0 := e0 + 1) (q1 := q1), hch']; exact j3)⟩
  · intro fr b cn top la ρ G hC hnx k1 k2 k3 Q hQ h80 hb1 hb2 d dm K t hd hdm htt c1 c2
    refine ⟨fun q => absurd q (by omega), fun q => absurd q (by omega), fun q => absurd q (by omega), fun q => absurd q (by omega), fun q => absurd q (by omega), fun q => absurd q (by omega), fun q => absurd q (by omega), fun q => absurd q (by omega), fun q => absurd q (by omega), fun _ => ?_⟩
    refine c_oc (bN := b (N - 1) + cn (N - 1)) hC hop hch hlc k1 k2 k3 hA hr6 (by omega) rfl (by omega) hg3 hgg hrm hrm0 mc (by omega) agc (fun _ => dfc) (hchC ch' rfl) (fun q => absurd rfl q) (fun _ q => absurd rfl q) (fun _ _ q => absurd q (by omega)) (fun _ _ _ ρ1 G1 G2 a1 a2 a3 a4 a5 C1 F1 FF1 nx1 nx8 kd => ?_)
    have hs' : ∀ s, s < N → e_bh B N 0 s = B s ∧ e_bh fr N (top + 1) s = fr s ∧ e_bh b N (b (N - 1) + cn (N - 1)) s = b s ∧ e_bh cn N m2 s = cn s := fun s hsl => ⟨if_neg (by omega), if_neg (by omega), if_neg (by omega), if_neg (by omega)⟩
    have hcN : e_bh cn N m2 N = m2 := if_pos rfl
    refine ⟨fun _ => ?_, fun q => absurd rfl q⟩
    exact sc_C (TT := t + 100 * (2000 - st) + 100 + (m - p)) (q := m) a1 (nx1.trans (a5.trans hnx)) hVV C1 ro_r F1 FF1 nx8 (kd.trans hr0) hkc hs' (if_pos rfl) (if_pos rfl) (by rw [hcN]; exact hm23) (Nat.le_refl M) (fun _ _ => rfl) j2 o_le_r (by omega) (by omega) (by omega) (by rw [hcN]; omega) (by omega) hd (by omega) (by omega) (fun he ρ' G3 t' hN => c1 he ρ' G3 cn t' (rN_l a2 a3 a4 (Nat.le_refl _) hN)) (fun he o2 ρ' G3 cn' top' t' hX => c2 he o2 ρ' G3 cn' top' t' (rX_l o_le_r a2 a3 a4 (Nat.le_refl _) hX))
end C09c
