/-! ARGUMENTS by both sides -/
/-- arguments from node r on, j of them done, by the class -/
def agC (u : wo) (T2 rm : Nat) (a : Nat → Nat) (m2 : Nat) (N : Nat) (B : Nat → Nat) (M : Nat) (S : Nat → Nat) (lc : Nat) (ln : Nat → Nat) (op : Nat) (ch : List en) (V : Nat → Nat → Option rv) (o : ost) (ra rd : Nat → Int32) (sp : Nat → Bool) (st hts : Nat) (FG : Nat → kfr) (r j un : Nat) (ga : Nat → Nat) (av : Nat → rv) (e : Int32) (ga' : Nat → Nat) (av' : Nat → rv) (ra' rd' : Nat → Int32) : Prop := ∀ (fr b cn : Nat → Nat) (top la : Nat) (ρ : Nat → Nat) (G : mj_G), CC u ρ G N B M S lc ln op ch V o ra rd sp st hts FG fr b cn top la → top < 199 → ∀ bN, bN = b (N - 1) + cn (N - 1) → bN + 3 ≤ 320 → aC ρ (u_D u) G bN (p_lt (u_w u T2) a) (gvO ga av) m2 → aF G top bN m2 → ∀ (d : Nat) (K : Int32 → mj_G → Prop), 200 ≤ d → (∀ ρ' G', CC u ρ' G' N B M S lc ln op ch V o ra' rd' sp st hts FG fr b cn top la → ro_e ρ ρ' G → fw ρ bW G G' → FF ρ top (fr (N - 1)) G G' → mj_r G' (707 + 4 * top) 2 = mj_r G (707 + 4 * top) 2 → (e = nI 0 → aC ρ' (u_D u) G' bN (p_lt (u_w u T2) a) (gvO ga' av') m2 ∧ aF G' top bN m2) → K e G') → Rn_giveArguments_12 (d + 2) rm (nI bN) (nI un) r (nI j) G K
/-- and by the model, from p on -/
def agM (u : wo) (Gm : mj_G) (T T2 tg : Nat) (N : Nat) (B : Nat → Nat) (M : Nat) (S : Nat → Nat) (lc : Nat) (ln : Nat → Nat) (op : Nat) (ch : List en) (V : Nat → Nat → Option rv) (o : ost) (ra rd : Nat → Int32) (sp : Nat → Bool) (st hts : Nat) (FG : Nat → kfr) (p j un : Nat) (ga : Nat → Nat) (av : Nat → rv) (e : Int32) (j' : Nat) (ga' : Nat → Nat) (av' : Nat → rv) (ra' rd' : Nat → Int32) : Prop := ∀ (f : mm_F) (bg : Nat → Nat) (vc li LC : Nat) (ci : Int32) (CA tr : Nat), MM u f N B M S lc ln op ch V o ra rd sp st hts FG (nI 0) bg vc li LC ci CA tr (nI (320 + j)) → (∀ i, i < j → mv f (320 + i) (av i)) → ∀ (d : Nat) (K : Int32 → mm_F → Prop), 304 ≤ d → (e = nI 0 → ∀ f', MM u f' N B M S lc ln op ch V o ra' rd' sp st hts FG (nI 0) bg vc li LC ci CA tr (nI (320 + j')) → mF tr LC CA f f' → (∀ i, i < j' → mv f' (320 + i) (av' i)) → K (gI ga') f') → (¬ e = nI 0 → ∀ y f' fe, MM u f' N B M S lc ln op ch V o ra' rd' sp st hts FG e bg vc li LC ci CA tr fe → mF tr LC CA f f' → K y f') → m_findsArguments_12 Gm (d + 1) (nI T2) (nI tg) (nI T) (gI ga) (nI p) (nI un) f K
section ZZF
variable {u : wo} {Gm : mj_G} {T T2 tg rm me : Nat} {x a : Nat → Nat} {m2 : Nat} {N : Nat} {B : Nat → Nat} {M : Nat} {S : Nat → Nat} {lc : Nat} {ln : Nat → Nat} {op : Nat} {ch : List en} {V : Nat → Nat → Option rv} {o : ost} {ra rd : Nat → Int32} {sp : Nat → Bool} {st hts : Nat} {FG : Nat → kfr}
/-- none is left -/
theorem ag_0 {j un p : Nat} {ga : Nat → Nat} {av : Nat → rv} (hM : mm_S Gm) (hT : T < 10) (hp : p < u_n u T) (h125 : u_w u T p = 125) : agC u T2 rm a m2 N B M S lc ln op ch V o ra rd sp st hts FG 0 j un ga av (nI 0) ga av ra rd ∧ agM u Gm T T2 tg N B M S lc ln op ch V o ra rd sp st hts FG p j un ga av (nI 0) j ga av ra rd := by
  refine ⟨?_, ?_⟩
  · intro fr b cn top la ρ G hC ht bN hbN hb ha hf d K hd k1
    have fin : K (nI 0) G := k1 ρ G hC ro_r fw_r FF_r rfl (fun _ => ⟨ha, hf⟩)
    exact w_Rn_giveArguments_12 hC.1.1 (z_br (fun _ => fin) (fun _ => z_bt rfl fin))
  · intro f bg vc li LC ci CA tr hm hav d K hd k1 k2
    exact p_fa12e hM (MM_T hm hT) hp h125 (by omega) (k1 rfl f hm mF_r hav)
theorem ag_all (hM : mm_S Gm) (hu : uP u) (hT : T < 10) (hx : pX u N B M S lc ln op ch) (hV : pV u N V) (mc : mcP u T2 tg rm x a m2 me) {e0 : Nat} (he0 : u_w u T e0 = 125) (hen : e0 < u_n u T) : ∀ {i r p : Nat}, tx_A i (u_A u) (u_G u) r (u_w u T) p e0 → ∀ (j un : Nat) (ga : Nat → Nat) (av : Nat → rv) (ra rd : Nat → Int32), i + j = 3 → un ≤ j → (∀ k, ga k = 3 ∨ ga k < j) → (∀ k, k < j → rv_in (u_D u) (av k)) → (∀ k, ga k ≠ 3 → k < m2) → ∃ (e : Int32) (j' : Nat) (ga' : Nat → Nat) (av' : Nat → rv) (ra' rd' : Nat → Int32), j' ≤ 3 ∧ (∀ k, ga' k = 3 ∨ ga' k < j') ∧ (∀ k, k < j' → rv_in (u_D u) (av' k)) ∧ (∀ k, ga' k ≠ 3 → k < m2) ∧ agC u T2 rm a m2 N B M S lc ln op ch V o ra rd sp st hts FG r j un ga av e ga' av' ra' rd' ∧ agM u Gm T T2 tg N B M S lc ln op ch V o ra rd sp st hts FG p j un ga av e j' ga' av' ra' rd'
  | 0, _, _, h => h.elim
  | i + 1, r, p, h => by
    intro j un ga av ra rd hij hun hga hav hgm
    obtain ⟨ch1, ch2⟩ := tx_A_ch h
    obtain ⟨h1, h2, h3, s, q, hah, ⟨l, hE⟩, hrest⟩ := h
    have hW := (hu.2.2.2 T hT).1
    have hn := hW.1
    have hm3 := mc.2.2.2.2.2.1
    obtain ⟨x1, -⟩ := tx_E_ch hE
    have hqn : q < u_n u T := by
      rcases hrest with ⟨-, -, g⟩ | ⟨-, g, -⟩
      · have := (tx_A_ch g).1
        omega
      · omega
    have h124 : ¬ u_w u T q = 124 := by
      rcases hrest with ⟨-, g, -⟩ | ⟨-, g, -⟩
      · omega
      · rw [g, he0]
        decide
    have h10 := pX_10 hx
    have hp125 : ¬ u_w u T p = 125 := (ch2 p (Nat.le_refl _) ch1).2.1
    obtain ⟨e1, v, ra1, rd1, f1, f2, f3, -⟩ := fn_all (t := T) (sl := 0) (dep := 0) hM hW hx.2.2.2.2.1 hu.1 (fun s l v q => (hV s l v q).2.2) (Nat.le_refl N) hE (by omega) (by omega) (by omega) ra rd
    -- where it goes
    have hpl : ∃ pl un' : Nat, pl ≤ 3 ∧ un' ≤ j + 1 ∧ ((mj_i (u_G u) r 4 = Int32.ofInt (-1) ∧ pl = un ∧ un' = un + 1) ∨ ∃ l, l < 26 ∧ mj_i (u_G u) r 4 = nI l ∧ un' = un ∧ ((pl < m2 ∧ p_lt (u_w u T2) a pl = l) ∨ ((∀ i, i < m2 → ¬ p_lt (u_w u T2) a i = l) ∧ pl = 3))) ∧ ((¬ (tx_L (u_w u T p) ∧ u_w u T (p + 1) = 58) ∧ pl = un ∧ un' = un + 1) ∨ (tx_L (u_w u T p) ∧ u_w u T (p + 1) = 58 ∧ un' = un ∧ ((pl < m2 ∧ u_w u T2 (a pl) = u_w u T p) ∨ ((∀ i, i < m2 → ¬ u_w u T2 (a i) = u_w u T p) ∧ pl = 3)))) := by
      rcases hah with ⟨g1, g2, g3, g4⟩ | ⟨g1, g2, g3⟩
      · have hl : 97 ≤ u_w u T p ∧ u_w u T p ≤ 122 := g1
        by_cases hh : ∃ i, i < m2 ∧ u_w u T2 (a i) = u_w u T p
        · obtain ⟨i, i1, i2⟩ := hh
          have := (mc_lt mc i1).2
          exact ⟨i, un, by omega, by omega, Or.inr ⟨u_w u T p - 97, by omega, g4, rfl, Or.inl ⟨i1, by omega⟩⟩, Or.inr ⟨g1, g2, rfl, Or.inl ⟨i1, i2⟩⟩⟩
        · refine ⟨3, un, by omega, by omega, Or.inr ⟨u_w u T p - 97, by omega, g4, rfl, Or.inr ⟨fun i i1 i2 => hh ⟨i, i1, ?_⟩, rfl⟩⟩, Or.inr ⟨g1, g2, rfl, Or.inr ⟨fun i i1 i2 => hh ⟨i, i1, i2⟩, rfl⟩⟩⟩
          have := (mc_lt mc i1).2
          omega
      · exact ⟨un, un + 1, by omega, by omega, Or.inl ⟨g3, rfl, rfl⟩, Or.inl ⟨g1, rfl, rfl⟩⟩
    obtain ⟨pl, un', p1, p2, hxC, hxM⟩ := hpl
    have hok : ∀ i, i < j → rv_ok (av i) := fun i hi => (hav i hi).1
    by_cases he : e1 = nI 0
    · by_cases ho : pl < m2 ∧ ga pl = 3
      · have hga' : ∀ k, g_u ga pl j k = 3 ∨ g_u ga pl j k < j + 1 := fun k => by
          by_cases t : k = pl
          · rw [t, g_us]
            omega
          · rw [g_un t]
            have := hga k
            omega
        have hav' : ∀ k, k < j + 1 → rv_in (u_D u) (g_u av j v k) := fun k hk => by
          by_cases t : k = j
          · rw [t, g_us]
            exact f1 he
          · rw [g_un t]
            exact hav k (by omega)
        have hgm' : ∀ k, g_u ga pl j k ≠ 3 → k < m2 := fun k hk => by
          by_cases t : k = pl
          · rw [t]
            exact ho.1
          · rw [g_un t] at hk
            exact hgm k hk
        -- and what follows it
        have both : ∀ {e : Int32} {j' : Nat} {ga' : Nat → Nat} {av' : Nat → rv} {ra' rd' : Nat → Int32}, agC u T2 rm a m2 N B M S lc ln op ch V o ra1 rd1 sp st hts FG (mj_r (u_G u) r 10) (j + 1) un' (g_u ga pl j) (g_u av j v) e ga' av' ra' rd' → agM u Gm T T2 tg N B M S lc ln op ch V o ra1 rd1 sp st hts FG (if u_w u T q = 44 then q + 1 else q) (j + 1) un' (g_u ga pl j) (g_u av j v) e j' ga' av' ra' rd' → agC u T2 rm a m2 N B M S lc ln op ch V o ra rd sp st hts FG r j un ga av e ga' av' ra' rd' ∧ agM u Gm T T2 tg N B M S lc ln op ch V o ra rd sp st hts FG p j un ga av e j' ga' av' ra' rd' := fun hA hB => by
          refine ⟨?_, ?_⟩
          · intro fr b cn top la ρ G hC ht bN hbN hb ha hf d K hd k1
            refine c_ga12 hC mc ht hbN hb ha hf h1 h2 h3 (by omega) hun hxC f2 f1 (by omega) (fun q => absurd he q) (fun _ q => absurd ho q) (fun _ _ _ ρ1 G1 a1 a2 a3 a4 a5 a6 a7 => ?_)
            rw [← gvO_u (by omega) hga] at a6
            refine hA fr b cn top la ρ1 G1 a1 ht bN hbN hb a6 a7 d K hd (fun ρ2 G2 b1 b2 b3 b4 b5 b6 => ?_)
            exact k1 ρ2 G2 b1 (ro_t a2 a3.1 b2) (fw_t a3 a2 b3) (FF_t a4 a2 a3.1 b4) (b5.trans a5) b6
          · intro f bg vc li LC ci CA tr hm hav1 d K hd k1 k2
            refine p_fa12 hM hT h10 mc hm (by omega) hga hav1 hok hun hah hp125 hxM f3 (by omega) hqn h124 (by omega) (fun q => absurd he q) (fun _ q => absurd ho q) (fun _ _ _ f1 a1 a2 a3 => ?_)
            exact hB f1 bg vc li LC ci CA tr a1 a3 d K hd (fun t f2 b1 b2 b3 => k1 t f2 b1 (mF_t a2 b2) b3) (fun t y f2 fe b1 b2 => k2 t y f2 fe b1 (mF_t a2 b2))
        rcases hrest with ⟨g1, g2, g3⟩ | ⟨-, g2, g3⟩
        · obtain ⟨e, j', ga', av', ra', rd', c1, c2, c3, c3', c4, c5⟩ := ag_all hM hu hT hx hV mc he0 hen g3 (j + 1) un' (g_u ga pl j) (g_u av j v) ra1 rd1 (by omega) p2 hga' hav' hgm'
          rw [if_pos g2] at both
          obtain ⟨d1, d2⟩ := both c4 c5
          exact ⟨e, j', ga', av', ra', rd', c1, c2, c3, c3', d1, d2⟩
        · rw [if_neg (by rw [g2, he0]; decide), g3, g2] at both
          obtain ⟨c4, c5⟩ := ag_0 (rm := rm) (a := a) (m2 := m2) (T2 := T2) (tg := tg) (j := j + 1) (un := un') (ga := g_u ga pl j) (av := g_u av j v) (o := o) (ra := ra1) (rd := rd1) (sp := sp) (st := st) (hts := hts) (FG := FG) (V := V) (N := N) (B := B) (M := M) (S := S) (lc := lc) (ln := ln) (op := op) (ch := ch) hM hT hen he0
          obtain ⟨d1, d2⟩ := both c4 c5
          exact ⟨nI 0, j + 1, _, _, ra1, rd1, by omega, hga', hav', hgm', d1, d2⟩
      · -- it may not be
        refine ⟨Int32.ofInt (-6), j, ga, av, ra1, rd1, by omega, hga, hav, hgm, ?_, ?_⟩
        · intro fr b cn top la ρ G hC ht bN hbN hb ha hf d K hd k1
          exact c_ga12 hC mc ht hbN hb ha hf h1 h2 h3 (by omega) hun hxC f2 f1 (by omega) (fun q => absurd he q) (fun _ _ ρ1 G1 a1 a2 a3 a4 a5 => k1 ρ1 G1 a1 a2 a3 a4 a5 (fun t => absurd t (by decide))) (fun _ q1 q2 => absurd ⟨q1, q2⟩ ho)
        · intro f bg vc li LC ci CA tr hm hav1 d K hd k1 k2
          exact p_fa12 hM hT h10 mc hm (by omega) hga hav1 hok hun hah hp125 hxM f3 (by omega) hqn h124 (by omega) (fun q => absurd he q) (fun _ _ y f1 fe a1 a2 => k2 (by decide) y f1 fe a1 a2) (fun _ q1 q2 => absurd ⟨q1, q2⟩ ho)
    · refine ⟨e1, j, ga, av, ra1, rd1, by omega, hga, hav, hgm, ?_, ?_⟩
      · intro fr b cn top la ρ G hC ht bN hbN hb ha hf d K hd k1
        exact c_ga12 hC mc ht hbN hb ha hf h1 h2 h3 (by omega) hun hxC f2 f1 (by omega) (fun _ ρ1 G1 a1 a2 a3 a4 a5 => k1 ρ1 G1 a1 a2 a3 a4 a5 (fun t => absurd t he)) (fun q => absurd q he) (fun q => absurd q he)
      · intro f bg vc li LC ci CA tr hm hav1 d K hd k1 k2
        exact p_fa12 hM hT h10 mc hm (by omega) hga hav1 hok hun hah hp125 hxM f3 (by omega) hqn h124 (by omega) (fun _ y f1 fe a1 a2 => k2 he y f1 fe a1 a2) (fun q => absurd q he) (fun q => absurd q he)
end ZZF
