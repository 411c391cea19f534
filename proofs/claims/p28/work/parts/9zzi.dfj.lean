/-! DEFAULTS by both sides -/
/-- from the i-th parameter on, by the class -/
def dfC (u : wo) (T2 : Nat) (x a : Nat → Nat) (m2 : Nat) (N : Nat) (B : Nat → Nat) (M : Nat) (S : Nat → Nat) (lc : Nat) (ln : Nat → Nat) (op : Nat) (ch : List en) (V : Nat → Nat → Option rv) (o : ost) (ra rd : Nat → Int32) (sp : Nat → Bool) (st hts : Nat) (FG : Nat → kfr) (i : Nat) (g : Nat → Option rv) (e : Int32) (g' : Nat → Option rv) (ra' rd' : Nat → Int32) : Prop := ∀ (fr b cn : Nat → Nat) (top la : Nat) (ρ : Nat → Nat) (G : mj_G), CC u ρ G N B M S lc ln op ch V o ra rd sp st hts FG fr b cn top la → top < 199 → ∀ bN, bN = b (N - 1) + cn (N - 1) → bN + 3 ≤ 320 → aC ρ (u_D u) G bN (p_lt (u_w u T2) a) g m2 → aF G top bN m2 → ∀ (d : Nat) (K : Int32 → mj_G → Prop), 200 ≤ d → (∀ ρ' G', CC u ρ' G' N B M S lc ln op ch V o ra' rd' sp st hts FG fr b cn top la → ro_e ρ ρ' G → fw ρ bW G G' → FF ρ top (fr (N - 1)) G G' → mj_r G' (707 + 4 * top) 2 = mj_r G (707 + 4 * top) 2 → (e = nI 0 → aC ρ' (u_D u) G' bN (p_lt (u_w u T2) a) g' m2 ∧ aF G' top bN m2) → K e G') → Rn_giveDefaults_9 (d + 2) (nI bN) (nI (top + 1)) (x i) (nI i) G K
/-- and by the model -/
def dfM (u : wo) (Gm : mj_G) (T2 tg : Nat) (a : Nat → Nat) (m2 j : Nat) (ga : Nat → Nat) (N : Nat) (B : Nat → Nat) (M : Nat) (S : Nat → Nat) (lc : Nat) (ln : Nat → Nat) (op : Nat) (ch : List en) (V : Nat → Nat → Option rv) (o : ost) (ra rd : Nat → Int32) (sp : Nat → Bool) (st hts : Nat) (FG : Nat → kfr) (i : Nat) (g : Nat → Option rv) (e : Int32) (g' : Nat → Option rv) (ra' rd' : Nat → Int32) : Prop := ∀ (f : mm_F) (bg : Nat → Nat) (vc li LC : Nat) (ci : Int32) (CA tr : Nat), MM u f (N + 1) (e_bh B N 0) M S lc ln op ch (e_cl V N (p_vl (p_lt (u_w u T2) a) g m2)) o ra rd sp st hts FG (nI 0) bg vc li LC ci CA tr (nI (320 + j)) → vc + 3 ≤ 320 + i → ∀ (d : Nat) (x1 x2 x3 x5 x7 : Int32) (K : mm_F → Prop), 304 ≤ d → (∀ f' vc' fe, MM u f' (N + 1) (e_bh B N 0) M S lc ln op ch (e_cl V N (p_vl (p_lt (u_w u T2) a) g' m2)) o ra' rd' sp st hts FG e bg vc' li LC ci CA tr fe → mF tr LC CA f f' → vc' + i ≤ vc + 3 → m_calls_227 Gm (d + 1) x1 x2 x3 (nI (100 * T2 + tg)) x5 x7 (nI T2) f' K) → m_calls_147 Gm (d + 1) x1 x2 x3 (nI (100 * T2 + tg)) x5 (gI ga) x7 (nI T2) (nI i) f K
section ZZI
variable {u : wo} {Gm : mj_G} {f f1 f' : mm_F} {P S1 R1 : Nat → Prop} {T T2 p q s d tg rm me j k i : Nat} {x a lt : Nat → Nat} {ga : Nat → Nat} {av : Nat → rv} {g : Nat → Option rv} {m2 : Nat} {e : Int32} {v : rv} {N : Nat} {B : Nat → Nat} {M : Nat} {S : Nat → Nat} {lc : Nat} {ln : Nat → Nat} {op : Nat} {ch : List en} {V : Nat → Nat → Option rv} {o : ost} {ra rd : Nat → Int32} {sp : Nat → Bool} {st hts : Nat} {FG : Nat → kfr} {V' : Nat → Nat → Option rv} {o' : ost} {ra' rd' : Nat → Int32} {sp' : Nat → Bool} {st' hts' : Nat} {FG' : Nat → kfr} {bg : Nat → Nat} {vc li LC : Nat} {ci : Int32} {CA tr : Nat}
/-- a default, by the model -/
theorem p_fd {V1 : Nat → Nat → Option rv} {B' : Nat → Nat} {K : mm_F → Prop} (hM : mm_S Gm) (h10 : ∀ x, x ∈ ch → en_n x ≤ 10) (mc : mcP u T2 tg rm x a m2 me) (h : MM u f (N + 1) B' M S lc ln op ch V1 o ra rd sp st hts FG (nI 0) bg vc li LC ci CA tr (nI (320 + j))) (hj : j ≤ 3) (hi : i < m2) (hroom : vc < 320) (hd : 304 ≤ d)
    (h2 : u_w u T2 (a i + 1) = 61 → fnP Gm T2 (u_w u T2) (u_n u T2) (u_D u) (u_I u) (N + 1) B' V1 M S (N + 1) (a i + 2) (a (i + 1)) ra rd e v ra' rd' ∧ (e = nI 0 → rv_in (u_D u) v))
    (h1 : ¬ u_w u T2 (a i + 1) = 61 → ∀ f' vc', MM u f' (N + 1) B' M S lc ln op ch (e_st V1 N (p_lt (u_w u T2) a i) rv_0) o ra rd sp st hts FG (nI 0) bg vc' li LC ci CA tr (nI (320 + j)) → mF tr LC CA f f' → vc' ≤ vc + 1 → K f')
    (h3 : u_w u T2 (a i + 1) = 61 → ¬ e = nI 0 → ∀ f' fe, MM u f' (N + 1) B' M S lc ln op ch V1 o ra' rd' sp st hts FG e bg vc li LC ci CA tr fe → mF tr LC CA f f' → K f')
    (h4 : u_w u T2 (a i + 1) = 61 → e = nI 0 → ∀ f' vc', MM u f' (N + 1) B' M S lc ln op ch (e_st V1 N (p_lt (u_w u T2) a i) v) o ra' rd' sp st hts FG (nI 0) bg vc' li LC ci CA tr (nI (320 + j)) → mF tr LC CA f f' → vc' ≤ vc + 1 → K f') : m_findsDefault Gm d (nI T2) (nI (a i)) f K := by
  obtain ⟨d, rfl⟩ : ∃ y, d = y + 1 := ⟨d - 1, by omega⟩
  obtain ⟨l1, l2⟩ := mc_lt mc hi
  obtain ⟨c1, c2, c3, c4, c5, c6, c7, c8, c9⟩ := mc
  have hT2 := MM_T h c1
  have hW := hT2.2.1
  have hn2 := hW.1
  have hal := pA_le c7 (j := m2 - i) (i := i) (by omega)
  have hal1 := pA_le c7 (j := m2 - (i + 1)) (i := i + 1) (by omega)
  have hlt := pA_lt c7 hi
  have hw1 := tx_le hW (a i + 1)
  refine w_m_findsDefault hM ?_
  rw [show nI (a i) + nI 1 = nI (a i + 1) from z_add _ _]
  refine c_letter hM hT2 (by omega) ?_
  rw [tx_nxi (by omega), z_eq (by omega) (by omega)]
  refine z_br (fun t => ?_) (fun t => ?_)
  · obtain ⟨f1', f2'⟩ := h2 t
    rw [z_add]
    have F0 : mw (fun k => 320 + j ≤ k) (fun j => j = 21 ∨ j = 22 ∨ j = 23 ∨ j = 70) R_n f (mj_u2 (mj_u2 f 1714 22 (nI T2)) 1714 23 (nI (a i + 2))) := mw_t (mw_S (by decide)) (mw_S (by decide))
    have hh := h
    obtain ⟨⟨w1, w2, w3, w4⟩, hs, ⟨m1, mm2, m3, m4, m5, m6⟩, -, -, -, -, h8, -⟩ := hh
    have hfm : fm T2 (u_w u T2) (u_n u T2) (u_D u) (u_I u) (N + 1) B' V1 M S (N + 1) ra rd (320 + j) (a i + 2) (mj_u2 (mj_u2 f 1714 22 (nI T2)) 1714 23 (nI (a i + 2))) :=
      ⟨⟨mt_o hT2 (fun _ => rfl) (fun _ => rfl), (z_u2m (by decide)).trans z_u2s⟩, w3, me_f m1 F0 (fun i q => by omega) (by decide) (fun a q => by unfold R_n at q; omega), ⟨m4.1, m4.2.1, m4.2.2⟩, hs.2.1, h8, hs.2.2.1, z_u2s⟩
    refine f1' _ (320 + j) hfm (by omega) (by omega) d _ (by omega) ⟨fun he f' z1 z2 z3 => ?_, fun he f' k m0 pp z1 z2 z3 z4 z5 z6 z7 z8' z8 z9 => ?_⟩
    · have F1 : mw (fun k => 320 + j ≤ k) (fun j => j = 21 ∨ j = 22 ∨ j = 23 ∨ j = 70) R_n f f' := mw_t F0 (mw_m z1 (fun _ q => q) (fun j q => by unfold zS at q; omega) (fun _ q => q))
      obtain ⟨-, -, -, g4, -, g6, g7, g8⟩ := z2
      obtain ⟨a1, a2⟩ := MM_v h h10 (mw_m F1 (fun k q => by omega) (fun _ q => q) (fun _ q => q)) g4 g6 g7
      have hT3 := MM_T a1 c1
      refine z_bt g6 (c_letter hM hT3 (by omega) ?_)
      rw [tx_nxi (by omega), l2, z_sub (by omega), Nat.add_sub_cancel_left]
      refine p_setN hM h10 a1 l1 (by omega) (by omega) z3 (f2' he) hroom (by omega) (fun f2 vc2 b1 b2 b3 b4 b5 => ?_)
      obtain ⟨y1, y2⟩ := MM_fe (y := nI (320 + j)) b1 h10
      exact h4 t he _ vc2 y1 (mF_t a2 (mF_t b2 y2)) b5
    · have F1 : mw (fun k => 320 + j ≤ k) (fun j => j = 21 ∨ j = 22 ∨ j = 23 ∨ j = 70) R_n f f' := mw_t F0 (mw_m z1 (fun _ q => q) (fun j q => by unfold zS at q; omega) (fun _ q => q))
      obtain ⟨a1, a2⟩ := MM_v h h10 (mw_m F1 (fun k q => by omega) (fun _ q => q) (fun _ q => q)) z8 z9 rfl
      obtain ⟨y1, y2⟩ := MM_fe (y := nI k) a1 h10
      exact z_bf (by rw [z9]; exact he) (h3 t he _ _ y1 (mF_t a2 y2))
  · have h21 : f 1714 21 = nI (320 + j) := h.2.1.2.2.1
    refine p_takesPlace hM h21 (by omega) (fun f' F e1 e2 e3 e4 e5 => ?_)
    obtain ⟨a1, a2⟩ := MM_pl (fe' := nI (320 + j + 1)) h h10 F (fun k q => by omega) e1
    have hT3 := MM_T a1 c1
    have hv : mv f' (320 + j) rv_0 := ⟨e2, e4, e5, fun q => absurd q (by decide), fun q => absurd q (by decide), fun q => absurd q (by decide)⟩
    refine z_bt a1.2.2.2.2.2.2.2.1 (c_letter hM hT3 (by omega) ?_)
    rw [tx_nxi (by omega), l2, z_sub (by omega), Nat.add_sub_cancel_left, h21]
    refine p_setN hM h10 a1 l1 (by omega) (by omega) hv rv_in0 hroom (by omega) (fun f2 vc2 b1 b2 b3 b4 b5 => ?_)
    obtain ⟨y1, y2⟩ := MM_fe (y := nI (320 + j)) b1 h10
    exact h1 t _ vc2 y1 (mF_t a2 (mF_t b2 y2)) b5
/-- something has failed: no more defaults -/
theorem p_147x {x1 x2 x3 x4 x5 x6 x7 x8 x9 : Int32} {K : mm_F → Prop} (hM : mm_S Gm) (h70 : ¬ f 1714 70 = nI 0) (hK : m_calls_227 Gm (d + 1) x1 x2 x3 x4 x5 x7 x8 f K) : m_calls_147 Gm (d + 1) x1 x2 x3 x4 x5 x6 x7 x8 x9 f K := w_m_calls_147 hM (z_br (fun _ => hK) (fun _ => z_bf h70 hK))
/-- no parameters are left -/
theorem p_147e {x1 x2 x3 x5 x7 : Int32} {K : mm_F → Prop} (hM : mm_S Gm) (mc : mcP u T2 tg rm x a m2 me) (htg : tg < 80) (hga : ∀ k, ga k < 4) (hgm : ∀ k, k < 3 → ga k ≠ 3 → k < m2) (hT2 : mt_T f T2 (u_w u T2) (u_n u T2)) (h70 : f 1714 70 = nI 0) (hd : 301 ≤ d) (hK : m_calls_227 Gm (d + 1) x1 x2 x3 (nI (100 * T2 + tg)) x5 x7 (nI T2) f K) : ∀ {n k : Nat}, k + n = 3 → m2 ≤ k → m_calls_147 Gm (d + 1) x1 x2 x3 (nI (100 * T2 + tg)) x5 (gI ga) x7 (nI T2) (nI k) f K
  | 0, k, hk, hm => by
    have q : k = 3 := by omega
    subst q
    exact w_m_calls_147 hM (z_bt (by decide) hK)
  | n + 1, k, hk, hm => by
    have mc0 := mc
    obtain ⟨c1, c2, c3, c4, c5, c6, c7, c8, c9⟩ := mc
    have hn2 := hT2.2.1.1
    have hk3 : ga k = 3 := by
      by_cases q : ga k = 3
      · exact q
      · have := hgm k (by omega) q
        omega
    refine w_m_calls_147 hM (z_bf (by rw [z_le (by omega) (by omega)]; omega) (z_bt h70 ?_))
    rw [gi_get (fun k _ => hga k) (by omega), gi_255 (hga k), (z_mac T2 c1 tg htg).2]
    refine z_bt hk3 (p_pat hM hT2 c7 c5 c6 (by omega) c8 c9 (by omega) ?_)
    rw [if_neg (by omega)]
    refine c_letter hM hT2 (by omega) ?_
    rw [tx_nxi c9, c8]
    refine z_bt rfl ?_
    rw [z_add]
    exact p_147e hM mc0 htg hga hgm hT2 h70 hd hK (n := n) (k := k + 1) (by omega) (by omega)
theorem df_all (hM : mm_S Gm) (hu : uP u) (hx : pX u N B M S lc ln op ch) (hV : pV u N V) (mc : mcP u T2 tg rm x a m2 me) (htg : tg < 80) (hj : j ≤ 3) (hga : ∀ k, ga k < 4) (hgm : ∀ k, k < 3 → ga k ≠ 3 → k < m2) : ∀ {n i : Nat}, i + n = m2 → ∀ (g : Nat → Option rv) (ra rd : Nat → Int32), (∀ k, i ≤ k → k < m2 → (g k = none ↔ ga k = 3)) → (∀ k v, k < m2 → g k = some v → rv_in (u_D u) v) → ∃ (e : Int32) (g' : Nat → Option rv) (ra' rd' : Nat → Int32), (∀ k v, k < m2 → g' k = some v → rv_in (u_D u) v) ∧ dfC u T2 x a m2 N B M S lc ln op ch V o ra rd sp st hts FG i g e g' ra' rd' ∧ dfM u Gm T2 tg a m2 j ga N B M S lc ln op ch V o ra rd sp st hts FG i g e g' ra' rd'
  | 0, i, hi => by
    intro g ra rd hg hgin
    have q : i = m2 := by omega
    subst q
    have hm3 := mc.2.2.2.2.2.1
    refine ⟨nI 0, g, ra, rd, hgin, ?_, ?_⟩
    · intro fr b cn top la ρ G hC ht bN hbN hb ha hf d K hd k1
      have fin : K (nI 0) G := k1 ρ G hC ro_r fw_r FF_r rfl (fun _ => ⟨ha, hf⟩)
      obtain ⟨pc, -, -⟩ := mc_pC hC.2.1 mc
      exact w_Rn_giveDefaults_9 hC.1.1 (z_br (fun _ => fin) (fun _ => z_bt pc.2.1 fin))
    · intro f bg vc li LC ci CA tr hm hvc d x1 x2 x3 x5 x7 K hd k1
      exact p_147e (n := 3 - i) hM mc htg hga hgm (MM_T hm mc.1) hm.2.2.2.2.2.2.2.1 (by omega) (k1 f vc _ hm mF_r (by omega)) (by omega) (Nat.le_refl _)
  | n + 1, i, hi => by
    intro g ra rd hg hgin
    have him : i < m2 := by omega
    have hm3 := mc.2.2.2.2.2.1
    have h10 := pX_10 hx
    have c7 := mc.2.2.2.2.2.2.1
    have hW := (hu.2.2.2 T2 mc.1).1
    have hn2 := hW.1
    have hal1 := pA_le c7 (j := m2 - (i + 1)) (i := i + 1) (by omega)
    have hal := pA_le c7 (j := m2 - i) (i := i) (by omega)
    obtain ⟨l1, l2⟩ := mc_lt mc him
    obtain ⟨-, -, -, -, -, -, g7, -⟩ := c7.2.2 i him
    have men : me < u_n u T2 := mc.2.2.2.2.2.2.2.2
    -- the model at this parameter
    have mod : ∀ (f : mm_F) (bg : Nat → Nat) (vc li LC : Nat) (ci : Int32) (CA tr : Nat) (ra rd : Nat → Int32), MM u f (N + 1) (e_bh B N 0) M S lc ln op ch (e_cl V N (p_vl (p_lt (u_w u T2) a) g m2)) o ra rd sp st hts FG (nI 0) bg vc li LC ci CA tr (nI (320 + j)) → ∀ (d : Nat) (x1 x2 x3 x5 x7 : Int32) (K : mm_F → Prop), 304 ≤ d → (ga i = 3 → m_findsDefault Gm d (nI T2) (nI (a i)) f (fun f24 => m_calls_147 Gm (d + 1) x1 x2 x3 (nI (100 * T2 + tg)) x5 (gI ga) x7 (nI T2) (nI (i + 1)) f24 K)) → (ga i ≠ 3 → m_calls_147 Gm (d + 1) x1 x2 x3 (nI (100 * T2 + tg)) x5 (gI ga) x7 (nI T2) (nI (i + 1)) f K) → m_calls_147 Gm (d + 1) x1 x2 x3 (nI (100 * T2 + tg)) x5 (gI ga) x7 (nI T2) (nI i) f K := fun f bg vc li LC ci CA tr ra rd hm d x1 x2 x3 x5 x7 K hd k1 k2 => by
      have mc0 := mc
      obtain ⟨c1, c2, c3, c4, c5, c6, c7, c8, c9⟩ := mc
      have hT2 := MM_T hm c1
      have pat : ∀ {KK : Int32 → mm_F → Prop}, KK (nI (a i)) f → m_parameterAt Gm d (nI T2) (nI tg) (nI i) f KK := fun hK => p_pat hM hT2 c7 c5 c6 (by omega) c8 c9 (by omega) (by rw [if_pos him]; exact hK)
      refine w_m_calls_147 hM (z_bf (by rw [z_le (by omega) (by omega)]; omega) (z_bt hm.2.2.2.2.2.2.2.1 ?_))
      rw [gi_get (fun k _ => hga k) (by omega), gi_255 (hga i), (z_mac T2 c1 tg htg).2]
      refine z_br (fun t => pat (c_letter hM hT2 (by omega) ?_)) (fun t => ?_)
      · rw [tx_nxi (by omega), z_eq (by omega) (by omega)]
        refine z_bf (by omega) (pat ?_)
        rw [z_add]
        exact k1 t
      · rw [z_add]
        exact k2 t
    by_cases hgi : ga i = 3
    · have gn : g i = none := (hg i (Nat.le_refl _) him).mpr hgi
      -- a value more, by both sides
      have more : ∀ (v : rv), rv_in (u_D u) v → (∀ k, i + 1 ≤ k → k < m2 → (g_u g i (some v) k = none ↔ ga k = 3)) ∧ (∀ k w, k < m2 → g_u g i (some v) k = some w → rv_in (u_D u) w) := fun v hv => ⟨fun k hk hkm => by rw [g_un (by omega)]; exact hg k (by omega) hkm, fun k w hk hw => by
        by_cases t : k = i
        · rw [t, g_us] at hw
          obtain rfl := Option.some.inj hw
          exact hv
        · rw [g_un t] at hw
          exact hgin k w hk hw⟩
      rcases g7 with ⟨b1, b2, b3⟩ | ⟨b1, l, b2⟩
      · obtain ⟨m1, mm2⟩ := more rv_0 rv_in0
        obtain ⟨e, g', ra', rd', z1, z2, z3⟩ := df_all hM hu hx hV mc htg hj hga hgm (n := n) (i := i + 1) (by omega) (g_u g i (some rv_0)) ra rd m1 mm2
        refine ⟨e, g', ra', rd', z1, ?_, ?_⟩
        · intro fr b cn top la ρ G hC ht bN hbN hb ha hf d K hd k1
          refine c_gd9 (q := 0) (s := 0) (e := nI 0) (v := rv_0) (ra' := ra) (rd' := rd) hC mc ht hbN hb ha hf him gn (fun _ ρ1 G1 a1 a2 a3 a4 a5 a6 a7 => ?_) (fun q => absurd b3 q) (fun q => absurd b3 q) (fun q => absurd b3 q)
          exact z2 fr b cn top la ρ1 G1 a1 ht bN hbN hb a6 a7 d K hd (fun ρ2 G2 y1 y2 y3 y4 y5 y6 => k1 ρ2 G2 y1 (ro_t a2 a3.1 y2) (fw_t a3 a2 y3) (FF_t a4 a2 a3.1 y4) (y5.trans a5) y6)
        · intro f bg vc li LC ci CA tr hm hvc d x1 x2 x3 x5 x7 K hd k1
          refine mod f bg vc li LC ci CA tr ra rd hm d x1 x2 x3 x5 x7 K hd (fun _ => ?_) (fun q => absurd hgi q)
          refine p_fd (e := nI 0) (v := rv_0) (ra' := ra) (rd' := rd) hM h10 mc hm hj him (by omega) (by omega) (fun q => absurd q b1) (fun _ f2 vc2 y1 y2 y3 => ?_) (fun q => absurd q b1) (fun q => absurd q b1)
          rw [e_cl_st (mc_dis mc) him] at y1
          exact z3 f2 bg vc2 li LC ci CA tr y1 (by omega) d x1 x2 x3 x5 x7 K hd (fun f3 vc3 fe n1 n2 n3 => k1 f3 vc3 fe n1 (mF_t y2 n2) (by omega))
      · have hnz := (b2 : tx_E l _ _ _ _ _ _ _)
        have hnz : ¬ mj_r (u_G u) (x i) 6 = 0 := by
          cases l with
          | zero => exact hnz.elim
          | succ l => exact hnz.2.1
        have hBs : ∀ s, e_bh B N 0 s ≤ s := fun s => by
          unfold e_bh
          by_cases q : s = N
          · rw [if_pos q]
            exact Nat.zero_le _
          · rw [if_neg q]
            exact hx.2.2.2.2.1 s
        have hV1 := pV_cl (g := g) hV (fun i hi => (mc_lt mc (i := i) hi).1) (fun i v hi hv => hgin i v hi hv)
        obtain ⟨x1', -⟩ := tx_E_ch b2
        obtain ⟨e1, v, ra1, rd1, f1, f2, -, f4⟩ := fn_all (t := T2) (sl := 0) (dep := 0) (M := M) (S := S) hM hW hBs hu.1 (fun s l v q => (hV1 s l v q).2.2) (Nat.le_refl (N + 1)) b2 (by omega) (by omega) (by omega) ra rd
        have f4 := f4 rfl
        by_cases he : e1 = nI 0
        · subst he
          obtain ⟨m1, mm2⟩ := more v (f1 rfl)
          obtain ⟨e, g', ra', rd', z1, z2, z3⟩ := df_all hM hu hx hV mc htg hj hga hgm (n := n) (i := i + 1) (by omega) (g_u g i (some v)) ra1 rd1 m1 mm2
          refine ⟨e, g', ra', rd', z1, ?_, ?_⟩
          · intro fr b cn top la ρ G hC ht bN hbN hb ha hf d K hd k1
            refine c_gd9 hC mc ht hbN hb ha hf him gn (fun q => absurd q hnz) (fun _ => ⟨by omega, f2, f1⟩) (fun _ q => absurd rfl q) (fun _ _ ρ1 G1 a1 a2 a3 a4 a5 a6 a7 => ?_)
            exact z2 fr b cn top la ρ1 G1 a1 ht bN hbN hb a6 a7 d K hd (fun ρ2 G2 y1 y2 y3 y4 y5 y6 => k1 ρ2 G2 y1 (ro_t a2 a3.1 y2) (fw_t a3 a2 y3) (FF_t a4 a2 a3.1 y4) (y5.trans a5) y6)
          · intro f bg vc li LC ci CA tr hm hvc d x1 x2 x3 x5 x7 K hd k1
            refine mod f bg vc li LC ci CA tr ra rd hm d x1 x2 x3 x5 x7 K hd (fun _ => ?_) (fun q => absurd hgi q)
            refine p_fd hM h10 mc hm hj him (by omega) (by omega) (fun _ => ⟨f4, f1⟩) (fun q => absurd b1 q) (fun _ q => absurd rfl q) (fun _ _ f2 vc2 y1 y2 y3 => ?_)
            rw [e_cl_st (mc_dis mc) him] at y1
            exact z3 f2 bg vc2 li LC ci CA tr y1 (by omega) d x1 x2 x3 x5 x7 K hd (fun f3 vc3 fe n1 n2 n3 => k1 f3 vc3 fe n1 (mF_t y2 n2) (by omega))
        · refine ⟨e1, g, ra1, rd1, hgin, ?_, ?_⟩
          · intro fr b cn top la ρ G hC ht bN hbN hb ha hf d K hd k1
            exact c_gd9 hC mc ht hbN hb ha hf him gn (fun q => absurd q hnz) (fun _ => ⟨by omega, f2, f1⟩) (fun _ _ ρ1 G1 a1 a2 a3 a4 a5 => k1 ρ1 G1 a1 a2 a3 a4 a5 (fun q => absurd q he)) (fun _ q => absurd q he)
          · intro f bg vc li LC ci CA tr hm hvc d x1 x2 x3 x5 x7 K hd k1
            refine mod f bg vc li LC ci CA tr ra rd hm d x1 x2 x3 x5 x7 K hd (fun _ => ?_) (fun q => absurd hgi q)
            refine p_fd hM h10 mc hm hj him (by omega) (by omega) (fun _ => ⟨f4, f1⟩) (fun q => absurd b1 q) (fun _ _ f2 fe y1 y2 => ?_) (fun _ q => absurd q he)
            exact p_147x hM (by rw [y1.2.2.2.2.2.2.2.1]; exact he) (k1 f2 vc fe y1 y2 (by omega))
    · -- it has its value
      have gs : ∃ v, g i = some v := by
        cases hgv : g i with
        | none => exact absurd ((hg i (Nat.le_refl _) him).mp hgv) hgi
        | some v => exact ⟨v, rfl⟩
      obtain ⟨v, gs⟩ := gs
      obtain ⟨e, g', ra', rd', z1, z2, z3⟩ := df_all hM hu hx hV mc htg hj hga hgm (n := n) (i := i + 1) (by omega) g ra rd (fun k hk hkm => hg k (by omega) hkm) hgin
      refine ⟨e, g', ra', rd', z1, ?_, ?_⟩
      · intro fr b cn top la ρ G hC ht bN hbN hb ha hf d K hd k1
        exact c_gd9s hC mc hb ha him gs (z2 fr b cn top la ρ G hC ht bN hbN hb ha hf d K hd k1)
      · intro f bg vc li LC ci CA tr hm hvc d x1 x2 x3 x5 x7 K hd k1
        exact mod f bg vc li LC ci CA tr ra rd hm d x1 x2 x3 x5 x7 K hd (fun q => absurd q hgi) (fun _ => z3 f bg vc li LC ci CA tr hm (by omega) d x1 x2 x3 x5 x7 K hd (fun f3 vc3 fe n1 n2 n3 => k1 f3 vc3 fe n1 n2 (by omega)))
end ZZI
