/-! RENDERING: the model's values: joined, filtered, combined -/
noncomputable def rv_B (p : Prop) : Bool := @decide p (Classical.propDecidable p)
theorem rv_Bt {p : Prop} (h : p) : rv_B p = true := @decide_eq_true p (Classical.propDecidable p) h
theorem rv_Bf {p : Prop} (h : ¬ p) : rv_B p = false := @decide_eq_false p (Classical.propDecidable p) h
theorem rv_BB (b : Bool) : rv_B (b = true) = b := by
  cases b with
  | true => exact rv_Bt rfl
  | false => exact rv_Bf (by decide)
/-- what a filter makes of a value: why it fails, or 0; the value -/
def rv_jn (I : Nat → Nat → rv) (v : rv) : rv := rv_T (jn I (rv_d v) (rv_l v)).1 (jn I (rv_d v) (rv_l v)).2.1 (jn I (rv_d v) (rv_l v)).2.2
def rv_fi (I : Nat → Nat → rv) (c : Nat) (v : rv) : Int32 × rv :=
  if c = 106 then (if rv_t v = 3 then (if (jn I (rv_d v) (rv_l v)).1 ≤ 300 then (nI 0, rv_jn I v) else (Int32.ofInt (-10), rv_0)) else (Int32.ofInt (-3), rv_0))
  else if c = 108 then (if 2 ≤ rv_t v then (nI 0, rv_N (nI (rv_l v))) else (Int32.ofInt (-3), rv_0))
  else if rv_t v = 2 then (if c = 117 then (nI 0, rv_T (rv_l v) (fun j => rv_u (rv_c v j)) (rv_s v)) else if c = 114 then (nI 0, rv_T (rv_l v) (rv_c v) true) else (nI 0, rv_rd v))
  else (Int32.ofInt (-3), rv_0)
/-- a result, if it is an int -/
def rv_ar (c : Nat) (x y : Int32) : Int64 := if c = 43 then x.toInt64 + y.toInt64 else if c = 45 then x.toInt64 - y.toInt64 else x.toInt64 * y.toInt64
noncomputable def rv_op (I : Nat → Nat → rv) (c : Nat) (v w : rv) : Int32 × rv :=
  if c = 38 then (nI 0, rv_N (bI (rv_B (rv_tr w))))
  else if c = 61 then (nI 0, rv_N (bI (rv_B (rv_lk I v w))))
  else if rv_t v = 1 ∧ rv_t w = 1 then (if c = 60 then (nI 0, rv_N (bI (rv_B (¬ rv_n w ≤ rv_n v)))) else if lg_cmp (rv_ar c (rv_n v) (rv_n w)) (rv_ar c (rv_n v) (rv_n w)).toInt32.toInt64 = nI 0 then (nI 0, rv_N (rv_ar c (rv_n v) (rv_n w)).toInt32) else (Int32.ofInt (-5), rv_0))
  else if rv_t v = 2 ∧ rv_t w = 2 then (if c = 43 then (if rv_l v + rv_l w ≤ 300 then (nI 0, rv_T (rv_l v + rv_l w) (rv_ap (rv_l v) (rv_c v) (rv_c w)) (rv_s v && rv_s w)) else (Int32.ofInt (-10), rv_0)) else if c = 60 then (nI 0, rv_N (bI (rv_B (rv_bf v w)))) else (Int32.ofInt (-3), rv_0))
  else (Int32.ofInt (-3), rv_0)
section MO
variable {Gm : mj_G} {D : Nat → rv} {I : Nat → Nat → rv} {f : mm_F} {d k i j : Nat} {v w : rv} {x : Int32}
theorem mv_TX (h : rv_t v = 2) : mv f k (rv_T (rv_l v) (rv_c v) (rv_s v)) = mv f k v := by
  unfold mv
  rw [show rv_t (rv_T (rv_l v) (rv_c v) (rv_s v)) = rv_t v from h.symm]
  refine propext ⟨fun ⟨h1, h2, h3, h4, h5, h6⟩ => ⟨h1, h2, h3, fun q => ?_, fun q => ?_, h6⟩, fun ⟨h1, h2, h3, h4, h5, h6⟩ => ⟨h1, h2, h3, fun q => ?_, fun q => ?_, h6⟩⟩
  all_goals omega
theorem rv_lb (h : rv_ok v) : rv_l v ≤ 300 := by
  by_cases h0 : rv_t v ≤ 1
  · rw [h.2.1 h0]; decide
  · by_cases h2 : rv_t v = 2
    · exact (h.2.2.2.1 h2).1
    · have := (h.2.2.2.2 (by have := h.1; omega)).1
      omega
/-- the digits when nothing has room any more -/
theorem p_dgF {n : Nat} {ch : Nat → Nat} {s : Bool} {K : mm_F → Prop} (hM : mm_S Gm) (hk : k < 380) (hn : n = 300) (hv : mv f k (rv_T n ch s)) (h70 : f 1714 70 = Int32.ofInt (-10)) (hK : ∀ f', mw (fun j => j = k) (fun j => j = 70) no_R f f' → f' 1714 70 = Int32.ofInt (-10) → p_w f' k → K f') : m_addsDigits Gm (d + 1) (nI k) x f K := by
  have hb' : (10 : Nat) ^ 10 = 10000000000 := by decide
  have up : ∀ (r : Nat) (f : mm_F), r ≤ 2147483648 → (∀ y, m_addsDigits_49 Gm (d + 1) (nI k) (lN r) y f K) → ∀ m i, i + m = dg_n r - 1 → m_addsDigits_27 Gm (d + 1) (nI k) (lN r) (lN (10 ^ i)) f K := fun r f hr h m => by
    obtain ⟨a1, a2, a3, a4⟩ := dg_n_ok hr
    induction m with
    | zero =>
      intro i hi
      have hb : 10 ^ i ≤ 10 ^ 10 := z_pow (by omega)
      have hp : 0 < 10 ^ i := Nat.pos_of_ne_zero (by intro q; have := Nat.pow_eq_zero.mp q; omega)
      have hrd : r / 10 ^ i ≤ r := Nat.div_le_self _ _
      refine w_m_addsDigits_27 hM ⟨fun q => ?_, ?_⟩
      · rw [pk_lEQ (by omega) (by decide)] at q; omega
      rw [show lN r / lN (10 ^ i) = lN (r / 10 ^ i) from pk_lDiv (by omega) hp (by omega), z_clt (by omega) (by decide)]
      refine z_bt ?_ (h _)
      rw [Nat.div_lt_iff_lt_mul hp]
      have : 10 * 10 ^ i = 10 ^ dg_n r := by rw [Nat.mul_comm, ← Nat.pow_succ, show i.succ = dg_n r by omega]
      rw [this]; exact a3
    | succ m ih =>
      intro i hi
      have hb : 10 ^ i ≤ 10 ^ 10 := z_pow (by omega)
      have hp : 0 < 10 ^ i := Nat.pos_of_ne_zero (by intro q; have := Nat.pow_eq_zero.mp q; omega)
      have hrd : r / 10 ^ i ≤ r := Nat.div_le_self _ _
      refine w_m_addsDigits_27 hM ⟨fun q => ?_, ?_⟩
      · rw [pk_lEQ (by omega) (by decide)] at q; omega
      rw [show lN r / lN (10 ^ i) = lN (r / 10 ^ i) from pk_lDiv (by omega) hp (by omega), z_clt (by omega) (by decide)]
      refine z_br (fun _ => h _) (fun _ => ?_)
      rw [lN_mul, ← Nat.pow_succ]
      exact ih (i + 1) (by omega)
  have s30 : p_w f k := p_ww hv hn
  have e49 : ∀ (f1 : mm_F) (y3 y5 : Int64), mw (fun j => j = k) (fun j => j = 70) no_R f f1 → f1 1714 70 = Int32.ofInt (-10) → p_w f1 k → m_addsDigits_49 Gm (d + 1) (nI k) y3 y5 f1 K := fun f1 y3 y5 F e e3 => by
    refine w_m_addsDigits_49 hM (z_br (fun _ => hK f1 F e e3) (fun _ => ?_))
    rw [e]
    exact z_bf (by decide) (hK f1 F e e3)
  have pos1 : (10 : Nat) ^ 0 = 1 := rfl
  refine w_m_addsDigits hM ?_
  by_cases hx : x < 0
  · obtain ⟨r, r1, r2, r3, r4⟩ := z_ng hx
    have hx' : ¬ nI 0 ≤ x := fun q' => by
      rw [Int32.le_iff_toInt_le] at q'
      rw [Int32.lt_iff_toInt_lt] at hx
      exact absurd hx (Int.not_lt.mpr q')
    refine z_bf hx' (z_bf hx' ?_)
    rw [r3]
    refine p_adds hM hk hv (by omega) (fun q => absurd q (by omega)) (fun q => ?_)
    have z70 : mj_u2 f 1714 70 (Int32.ofInt (-10)) 1714 70 = Int32.ofInt (-10) := z_u2s
    have := up r _ r2 (fun y => e49 _ _ y (mw_S rfl) z70 (p_w70 s30)) (dg_n r - 1) 0 (by omega)
    rw [pos1] at this
    exact this
  · obtain ⟨j, hj2, rfl⟩ := nI_of hx
    have hx' : nI 0 ≤ nI j := by rw [z_le (by decide) hj2]; exact Nat.zero_le _
    refine z_bt hx' (z_bt hx' ?_)
    rw [nI_l hj2]
    have := up j f (by omega) (fun y => e49 _ _ y mw_r h70 s30) (dg_n j - 1) 0 (by omega)
    rw [pos1] at this
    exact this
/-- characters of an item behind a text -/
theorem p_jn108 {t n : Nat} {w : rv} {ch : Nat → Nat} {y3 y4 : Int32} {K : mm_F → Prop} (hM : mm_S Gm) (hk : k < 380) (hl : t < 208) (h40 : rv_l w ≤ 40) (h26 : ∀ f1, mw (fun j => j = k) no_R no_R f f1 → f1 1726 t = nI (rv_l w)) (h27 : ∀ f1, mw (fun j => j = k) no_R no_R f f1 → ∀ j, j < rv_l w → f1 1727 (40 * t + j) = nI (rv_c w j)) (h70 : f 1714 70 = nI 0)
    (h1 : n + rv_l w ≤ 300 → ∀ f', mw (fun j => j = k) no_R no_R f f' → mv f' k (rv_T (n + rv_l w) (rv_ap n ch (rv_c w)) false) → m_joins_38 Gm (d + 1) (nI k) y3 y4 (x + nI 1) f' K) (h2 : 300 < n + rv_l w → ∀ f', mw (fun j => j = k) (fun j => j = 70) no_R f f' → f' 1714 70 = Int32.ofInt (-10) → p_w f' k → K f') (hend : ∀ f', f' 1714 70 = Int32.ofInt (-10) → K f' → m_joins_38 Gm (d + 1) (nI k) y3 y4 (x + nI 1) f' K) :
    ∀ {m q : Nat} {f1 : mm_F}, q + m = rv_l w → n + q ≤ 300 → mw (fun j => j = k) no_R no_R f f1 → mv f1 k (rv_T (n + q) (rv_ap n ch (rv_c w)) false) → m_joins_108 Gm (d + 1) (nI k) y3 y4 x (nI t) (nI q) f1 K
  | 0, q, f1, hq, hn, F, hv => by
    refine w_m_joins_108 hM (z_ixi hl (by decide) ?_)
    rw [h26 f1 F, z_le (by omega) (by omega)]
    refine z_bt (by omega) (h1 (by omega) f1 F ?_)
    rw [show rv_l w = q by omega]
    exact hv
  | m + 1, q, f1, hq, hn, F, hv => by
    refine w_m_joins_108 hM (z_ixi hl (by decide) ?_)
    rw [h26 f1 F, z_le (by omega) (by omega)]
    refine z_bf (by omega) (z_bt ((F.2.1 70 (fun q => q)).trans h70) ?_)
    rw [z_mul, z_add]
    refine z_ixi (by omega) (by decide) ?_
    rw [h27 f1 F q (by omega)]
    refine p_adds hM hk hv hn (fun g f2 F2 v2 => ?_) (fun g => ?_)
    · rw [z_add]
      refine p_jn108 (m := m) (q := q + 1) hM hk hl h40 h26 h27 h70 h1 h2 hend (by omega) (by omega) (mw_t F F2) (mq_cg v2 (fun j hj => ?_))
      by_cases e1 : j < n
      · rw [rv_ap1 (by omega)]
      · by_cases e2 : j < n + q
        · rw [rv_ap1 e2]
        · obtain rfl : j = n + q := by omega
          unfold rv_ap
          rw [if_neg (Nat.lt_irrefl _), if_neg (by omega), Nat.add_sub_cancel_left]
    · have z70 : mj_u2 f1 1714 70 (Int32.ofInt (-10)) 1714 70 = Int32.ofInt (-10) := z_u2s
      have hKK : K (mj_u2 f1 1714 70 (Int32.ofInt (-10))) := h2 (by omega) _ (mw_t (mw_m F (fun _ q => q) (fun _ q => q.elim) (fun _ q => q)) (mw_S rfl)) z70 (p_w70 (p_ww hv g))
      have hj := hend _ z70 hKK
      refine w_m_joins_108 hM (z_ixi hl (by decide) (z_br (fun _ => hj) (fun _ => ?_)))
      rw [z70]
      exact z_bf (by decide) hj
theorem p_jn38 {l n : Nat} {K : mm_F → Prop} (hM : mm_S Gm) (hk : k < 380) (hd : md f D I) (hl : l < 26) (h3 : rv_t (D l) = 3) (hln : rv_l (D l) = n) (h70 : f 1714 70 = nI 0)
    (h1 : (jn I l n).1 ≤ 300 → ∀ f', mw (fun j => j = k) no_R no_R f f' → mv f' k (rv_T (jn I l n).1 (jn I l n).2.1 (jn I l n).2.2) → K f') (h2 : 300 < (jn I l n).1 → ∀ f', mw (fun j => j = k) (fun j => j = 70) no_R f f' → f' 1714 70 = Int32.ofInt (-10) → p_w f' k → K f') :
    ∀ {m q : Nat} {f1 : mm_F}, q + m = n → (jn I l q).1 ≤ 300 → mw (fun j => j = k) no_R no_R f f1 → mv f1 k (rv_T (jn I l q).1 (jn I l q).2.1 (jn I l q).2.2) → m_joins_38 Gm (d + 2) (nI k) (nI l) (nI n) (nI q) f1 K
  | 0, q, f1, hq, hn, F, hv => by
    have l8 := ((hd l hl).1.2.2.2.2 h3).1
    have e : q = n := hq
    subst e
    refine w_m_joins_38 hM (z_bt (by rw [z_le (by omega) (by omega)]; exact Nat.le_refl _) (h1 hn f1 F hv))
  | m + 1, q, f1, hq, hn, F, hv => by
    obtain ⟨hok, -, -, -, -, h5⟩ := hd l hl
    have l8 := (hok.2.2.2.2 h3).1
    obtain ⟨-, g0⟩ := h5 h3
    obtain ⟨g1, g2, g3, g4, g5⟩ := g0 q (by omega)
    have t3 := g1.1
    have f70 : f1 1714 70 = nI 0 := (F.2.1 70 (fun q => q)).trans h70
    have dat : ∀ {S : Nat → Prop} {f2 : mm_F}, mw (fun j => j = k) S no_R f f2 → ∀ a i, 1720 ≤ a → a ≤ 1727 → f2 a i = f a i := fun F2 a i p r => F2.1 a i (by omega) (by omega) (fun q => q)
    have ih : (jn I l (q + 1)).1 ≤ 300 → ∀ f2, mw (fun j => j = k) no_R no_R f f2 → mv f2 k (rv_T (jn I l (q + 1)).1 (jn I l (q + 1)).2.1 (jn I l (q + 1)).2.2) → m_joins_38 Gm (d + 2) (nI k) (nI l) (nI n) (nI (q + 1)) f2 K := fun a f2 F2 v2 => p_jn38 hM hk hd hl h3 hln h70 h1 h2 (m := m) (q := q + 1) (by omega) a F2 v2
    have big : 300 < (jn I l (q + 1)).1 → 300 < (jn I l n).1 := fun g => by
      have := jn_le (I := I) (l := l) (m := m) (k := q + 1)
      rw [show q + 1 + m = n by omega] at this
      omega
    have hend : ∀ f2, f2 1714 70 = Int32.ofInt (-10) → K f2 → m_joins_38 Gm (d + 2) (nI k) (nI l) (nI n) (nI (q + 1)) f2 K := fun f2 e hKK => by
      refine w_m_joins_38 hM (z_br (fun _ => hKK) (fun _ => ?_))
      rw [e]
      exact z_bf (by decide) hKK
    have e1 : jn I l (q + 1) = jn_i (jn_c q (jn I l q)) (I l q) := rfl
    have i208 : 8 * l + q < 208 := by omega
    -- the item itself
    have item : ∀ (f2 : mm_F) (st : Nat × (Nat → Nat) × Bool), jn_c q (jn I l q) = st → st.1 ≤ 300 → mw (fun j => j = k) no_R no_R f f2 → mv f2 k (rv_T st.1 st.2.1 st.2.2) → mm_ix (nI (8 * l + q)) 208 (fun n6 => mm_br ((f2 1724 n6) = (nI 1)) (mm_ix (nI (8 * l + q)) 208 (fun n8 => m_addsDigits Gm (d + 1) (nI k) (f2 1725 n8) f2 (fun f9 => m_joins_38 Gm (d + 2) (nI k) (nI l) (nI n) (nI q + nI 1) f9 K))) (mm_ix (nI k) 380 (fun n7 => m_joins_108 Gm (d + 2) (nI k) (nI l) (nI n) (nI q) (nI (8 * l + q)) (nI 0) (mj_u2 f2 1731 n7 (nI 0)) K))) := fun f2 st hst hs F2 v2 => by
      rw [hst] at e1
      refine z_ixi i208 (by decide) ?_
      have k4 : f2 1724 (8 * l + q) = nI (rv_t (I l q)) := (dat F2 _ _ (by decide) (by decide)).trans g2
      rw [k4, z_eq (by omega) (by decide)]
      refine z_br (fun t1 => z_ixi i208 (by decide) ?_) (fun t1 => z_ixi hk (by decide) ?_)
      · have k5 : f2 1725 (8 * l + q) = rv_n (I l q) := (dat F2 _ _ (by decide) (by decide)).trans (g4 t1)
        rw [k5]
        have e2 : jn I l (q + 1) = (st.1 + dg_l (rv_n (I l q)), rv_ap st.1 st.2.1 (dg_c (rv_n (I l q))), st.2.2) := e1.trans (by unfold jn_i; rw [if_pos t1])
        refine p_addsDigits hM hk hs v2 ((F2.2.1 70 (fun q => q)).trans h70) (fun b f3 F3 v3 => ?_) (fun b f3 F3 e3 e5 => ?_)
        · rw [z_add]
          refine ih (by rw [e2]; exact b) f3 (mw_t F2 F3) ?_
          rw [e2]
          exact v3
        · rw [z_add]
          exact hend f3 e3 (h2 (big (by rw [e2]; exact b)) f3 (mw_t (mw_m F2 (fun _ q => q) (fun _ q => q.elim) (fun _ q => q)) F3) e3 e5)
      · have t2 : rv_t (I l q) = 2 := by omega
        have w40 : rv_l (I l q) ≤ 40 := by
          rcases g3 with g3 | g3
          · omega
          · exact g3.2.2
        obtain ⟨b1, b2⟩ := g5 t2
        have e2 : jn I l (q + 1) = (st.1 + rv_l (I l q), rv_ap st.1 st.2.1 (rv_c (I l q)), false) := e1.trans (by unfold jn_i; rw [if_neg t1])
        have F3 : mw (fun j => j = k) no_R no_R f (mj_u2 f2 1731 k (nI 0)) := mw_t F2 (mw_P (by decide) rfl)
        refine p_jn108 (f := mj_u2 f2 1731 k (nI 0)) (w := I l q) (n := st.1) (ch := st.2.1) hM hk i208 w40 (fun f4 F4 => (dat (mw_t F3 F4) _ _ (by decide) (by decide)).trans b1) (fun f4 F4 j hj => (dat (mw_t F3 F4) _ _ (by decide) (by decide)).trans (b2 j hj)) ((F3.2.1 70 (fun q => q)).trans h70) (fun b f4 F4 v4 => ?_) (fun b f4 F4 e4 e5 => ?_) (fun f4 e4 hKK => ?_) (m := rv_l (I l q)) (q := 0) (by omega) hs mw_r ?_
        · rw [z_add]
          refine ih (by rw [e2]; exact b) f4 (mw_t F3 F4) ?_
          rw [e2]
          exact v4
        · exact h2 (big (by rw [e2]; exact b)) f4 (mw_t (mw_m F3 (fun _ q => q) (fun _ q => q.elim) (fun _ q => q)) F4) e4 e5
        · rw [z_add]
          exact hend f4 e4 hKK
        · refine ⟨(z_u2n (by decide)).trans v2.1, (z_u2n (by decide)).trans v2.2.1, z_u2s, fun r => absurd r (by show ¬ 2 = 1; omega), fun r => absurd r (by show ¬ 2 = 3; omega), fun r j hj => (z_u2n (by decide)).trans ((v2.2.2.2.2.2 rfl j hj).trans ?_)⟩
          show nI (st.2.1 j) = nI (rv_ap st.1 st.2.1 (rv_c (I l q)) j)
          rw [rv_ap1 (show j < st.1 from hj)]
    refine w_m_joins_38 hM ?_
    rw [z_le (by omega) (by omega), z_le (by omega) (by decide)]
    refine z_bf (by omega) (z_bt f70 (z_br (fun g => ?_) (fun g => ?_)))
    · rw [z_mul, z_add]
      refine item f1 (jn I l q) ?_ hn F hv
      unfold jn_c
      rw [if_pos (by omega)]
    · have ec : jn_c q (jn I l q) = ((jn I l q).1 + 1, rv_ap (jn I l q).1 (jn I l q).2.1 (fun _ => 44), (jn I l q).2.2) := by
        unfold jn_c
        rw [if_neg (by omega)]
      refine p_adds hM hk hv hn (fun b f2 F2 v2 => ?_) (fun b => ?_)
      · rw [z_mul, z_add]
        exact item f2 _ ec (by show (jn I l q).1 + 1 ≤ 300; omega) (mw_t F F2) v2
      · have z70 : mj_u2 f1 1714 70 (Int32.ofInt (-10)) 1714 70 = Int32.ofInt (-10) := z_u2s
        have F2 : mw (fun j => j = k) (fun j => j = 70) no_R f (mj_u2 f1 1714 70 (Int32.ofInt (-10))) := mw_t (mw_m F (fun _ q => q) (fun _ q => q.elim) (fun _ q => q)) (mw_S rfl)
        have hbig : 300 < (jn I l n).1 := big (by
          rw [e1, ec]
          have := jn_ile (v := I l q) (st := ((jn I l q).1 + 1, rv_ap (jn I l q).1 (jn I l q).2.1 (fun _ => 44), (jn I l q).2.2))
          have h' : (jn I l q).1 + 1 ≤ (jn_i ((jn I l q).1 + 1, rv_ap (jn I l q).1 (jn I l q).2.1 (fun _ => 44), (jn I l q).2.2) (I l q)).1 := this
          omega)
        have v2 : mv (mj_u2 f1 1714 70 (Int32.ofInt (-10))) k (rv_T (jn I l q).1 (jn I l q).2.1 (jn I l q).2.2) := ⟨(z_u2n (by decide)).trans hv.1, (z_u2n (by decide)).trans hv.2.1, (z_u2n (by decide)).trans hv.2.2.1, fun r => absurd r (by show ¬ 2 = 1; omega), fun r => absurd r (by show ¬ 2 = 3; omega), fun r j hj => (z_u2n (by decide)).trans (hv.2.2.2.2.2 r j hj)⟩
        rw [z_mul, z_add]
        refine z_ixi i208 (by decide) (z_br (fun _ => z_ixi i208 (by decide) ?_) (fun _ => z_ixi hk (by decide) ?_))
        · refine p_dgF hM hk b v2 z70 (fun f3 F3 e3 e5 => ?_)
          rw [z_add]
          exact hend f3 e3 (h2 hbig f3 (mw_t F2 F3) e3 e5)
        · have z71 : mj_u2 (mj_u2 f1 1714 70 (Int32.ofInt (-10))) 1731 k (nI 0) 1714 70 = Int32.ofInt (-10) := (z_u2n (by decide)).trans z70
          have hj := hend _ z71 (h2 hbig _ (mw_t F2 (mw_P (by decide) rfl)) z71 (p_w31 (p_ww v2 b) _ (bI_b false)))
          rw [← z_add] at hj
          refine w_m_joins_108 hM (z_ixi i208 (by decide) (z_br (fun _ => hj) (fun _ => ?_)))
          rw [z71]
          exact z_bf (by decide) hj
/-- a filter -/
theorem p_filters {c : Nat} {K : mm_F → Prop} (hM : mm_S Gm) (hd : 16 ≤ d) (hk : k < 380) (hD : md f D I) (hv : mv f k v) (ov : rv_in D v) (hc : c = 117 ∨ c = 108 ∨ c = 114 ∨ c = 110 ∨ c = 106) (h70 : f 1714 70 = nI 0)
    (h1 : (rv_fi I c v).1 = nI 0 → ∀ f', mw (fun j => j = k) no_R no_R f f' → mv f' k (rv_fi I c v).2 → K f') (h2 : ¬ (rv_fi I c v).1 = nI 0 → ∀ f' n, mw (fun j => j = k) (fun j => j = 70) no_R f f' → f' 1714 70 = (rv_fi I c v).1 → n ≤ 300 → f' 1730 k = nI n → mj_b (f' 1731 k) → K f') : m_filters Gm (d + 3) (nI c) (nI k) f K := by
  have tv := ov.1.1
  have lb := rv_lb ov.1
  have n3 : ¬ Int32.ofInt (-3) = nI 0 := by decide
  have n10 : ¬ Int32.ofInt (-10) = nI 0 := by decide
  have bad : rv_fi I c v = (Int32.ofInt (-3), rv_0) → K (mj_u2 f 1714 70 (Int32.ofInt (-3))) := fun e => h2 (by rw [e]; exact n3) _ _ (mw_S rfl) (by rw [e]; exact z_u2s) lb ((z_u2n (by decide)).trans hv.2.1) (by rw [show ∀ y, mj_u2 f 1714 70 y 1731 k = f 1731 k from fun y => z_u2n (by decide), hv.2.2.1]; exact bI_b _)
  -- what is fit
  have good : (c = 106 → rv_t v = 3) → (c ≠ 106 → rv_t v = 2 ∨ (c = 108 ∧ rv_t v = 3)) → m_filters_71 Gm (d + 3) (nI c) (nI k) f K := fun a1 a2 => by
    refine w_m_filters_71 hM ?_
    rw [z_eq (by omega) (by decide), z_eq (by omega) (by decide), z_eq (by omega) (by decide), z_eq (by omega) (by decide)]
    refine z_br (fun q => ?_) (fun q => z_br (fun q1 => z_ixi hk (by decide) ?_) (fun q1 => z_br (fun q2 => z_ixi hk (by decide) ?_) (fun q2 => z_br (fun q3 => ?_) (fun q3 => ?_))))
    · have t2 : rv_t v = 2 := by omega
      have e : rv_fi I c v = (nI 0, rv_T (rv_l v) (fun j => rv_u (rv_c v j)) (rv_s v)) := by unfold rv_fi; rw [if_neg (by omega), if_neg (by omega), if_pos t2, if_pos q]
      rw [e] at h1
      refine p_up (d := d + 2) hM hk lb (fun j hj => (ov.1.2.2.2.1 t2).2 j hj) (by omega) (h1 rfl) (m := rv_l v) (q := 0) (by omega) mw_r ?_
      have hv' := hv
      rw [← mv_TX t2] at hv'
      exact mq_cg hv' (fun j hj => by rw [if_neg (Nat.not_lt_zero j)])
    · have e : rv_fi I c v = (nI 0, rv_N (nI (rv_l v))) := by unfold rv_fi; rw [if_neg (by omega), if_pos q1, if_pos (by omega)]
      rw [e] at h1
      refine p_becomes (b := false) hM hk (fun f1 F1 v1 => z_ixi hk (by decide) ?_)
      rw [hv.2.1]
      exact h1 rfl _ (mw_t F1 (mw_P (by decide) rfl)) ⟨(z_u2n (by decide)).trans v1.1, (z_u2n (by decide)).trans v1.2.1, (z_u2n (by decide)).trans v1.2.2.1, fun _ => z_u2s, fun r => absurd r (by show ¬ 1 = 3; omega), fun r => absurd r (by show ¬ 1 = 2; omega)⟩
    · have t2 : rv_t v = 2 := by omega
      have e : rv_fi I c v = (nI 0, rv_T (rv_l v) (rv_c v) true) := by unfold rv_fi; rw [if_neg (by omega), if_neg (by omega), if_pos t2, if_neg (by omega), if_pos q2]
      rw [e] at h1
      have hv' := hv
      rw [← mv_TX t2] at hv'
      exact h1 rfl _ (mw_P (by decide) rfl) ⟨(z_u2n (by decide)).trans hv'.1, (z_u2n (by decide)).trans hv'.2.1, z_u2s, fun r => absurd r (by show ¬ 2 = 1; omega), fun r => absurd r (by show ¬ 2 = 3; omega), fun r j hj => (z_u2n (by decide)).trans (hv'.2.2.2.2.2 r j hj)⟩
    · have t3 : rv_t v = 3 := a1 q3
      obtain ⟨e1, e2⟩ := ov.2 t3
      have hdl := (ov.1.2.2.2.2 t3).2
      refine w_m_joins hM (z_ixi hk (by decide) (z_ixi hk (by decide) (z_ixi hk (by decide) (z_ixi hk (by decide) (z_ixi hk (by decide) ?_)))))
      rw [hv.2.2.2.2.1 t3, hv.2.1]
      have F0 : mw (fun j => j = k) no_R no_R f (mj_u2 (mj_u2 (mj_u2 f 1728 k (nI 2)) 1730 k (nI 0)) 1731 k (nI 1)) := mw_t (mw_P (by decide) rfl) (mw_t (mw_P (by decide) rfl) (mw_P (by decide) rfl))
      have ee : rv_fi I c v = (if (jn I (rv_d v) (rv_l v)).1 ≤ 300 then (nI 0, rv_jn I v) else (Int32.ofInt (-10), rv_0)) := by unfold rv_fi; rw [if_pos q3, if_pos t3]
      refine p_jn38 (f := mj_u2 (mj_u2 (mj_u2 f 1728 k (nI 2)) 1730 k (nI 0)) 1731 k (nI 1)) (D := D) (I := I) (n := rv_l v) (d := d) hM hk (mq_md hD F0 (fun _ q => q.elim)) hdl e1 e2 ((F0.2.1 70 (fun q => q)).trans h70) (fun b f1 F1 v1 => ?_) (fun b f1 F1 e3 e5 => ?_) (m := rv_l v) (q := 0) (by omega) (Nat.zero_le _) mw_r ⟨(z_u2n (by decide)).trans ((z_u2n (by decide)).trans z_u2s), (z_u2n (by decide)).trans z_u2s, z_u2s, fun r => absurd r (by show ¬ 2 = 1; omega), fun r => absurd r (by show ¬ 2 = 3; omega), fun r j hj => absurd hj (Nat.not_lt_zero j)⟩
      · rw [if_pos b] at ee
        rw [ee] at h1
        exact h1 rfl f1 (mw_t F0 F1) v1
      · rw [if_neg (by omega)] at ee
        rw [ee] at h2
        exact h2 n10 f1 300 (mw_t (mw_m F0 (fun _ q => q) (fun _ q => q.elim) (fun _ q => q)) F1) e3 (Nat.le_refl _) e5.1 e5.2
    · have t2 : rv_t v = 2 := by omega
      have e : rv_fi I c v = (nI 0, rv_rd v) := by unfold rv_fi; rw [if_neg (by omega), if_neg (by omega), if_pos t2, if_neg (by omega), if_neg (by omega)]
      rw [e] at h1
      exact p_reads hM hk (by omega) hv ov.1 t2 (h1 rfl)
  -- the kinds
  have go : ∀ t l : Nat, t = (if rv_t v = 2 then 1 else 0) → l = (if rv_t v = 3 then 1 else 0) → m_filters_31 Gm (d + 3) (nI c) (nI k) (nI t) (nI l) f K := fun t l ht hl => by
    have ht1 : t ≤ 1 := by rw [ht]; by_cases q : rv_t v = 2; rw [if_pos q]; exact Nat.le_refl 1; rw [if_neg q]; exact Nat.zero_le 1
    have hl1 : l ≤ 1 := by rw [hl]; by_cases q : rv_t v = 3; rw [if_pos q]; exact Nat.le_refl 1; rw [if_neg q]; exact Nat.zero_le 1
    have t2 : t = 0 → rv_t v ≠ 2 := fun q r => by rw [if_pos r] at ht; omega
    have l2 : l = 0 → rv_t v ≠ 3 := fun q r => by rw [if_pos r] at hl; omega
    have t3 : ¬ t = 0 → rv_t v = 2 := fun q => Classical.byContradiction (fun r => q (by rw [if_neg r] at ht; exact ht))
    have l3 : ¬ l = 0 → rv_t v = 3 := fun q => Classical.byContradiction (fun r => q (by rw [if_neg r] at hl; exact hl))
    refine w_m_filters_31 hM ?_
    rw [z_eq (by omega) (by decide), z_eq (by omega) (by decide), z_eq (by omega) (by decide), z_eq (by omega) (by decide)]
    refine z_br (fun q => z_br (fun q1 => bad ?_) (fun q1 => good (fun _ => l3 q1) (fun r => absurd q r))) (fun q => z_br (fun q1 => z_br (fun q2 => z_br (fun q3 => bad ?_) (fun q3 => good (fun r => absurd r q) (fun _ => Or.inr ⟨q2, l3 q3⟩))) (fun q2 => bad ?_)) (fun q1 => good (fun r => absurd r q) (fun _ => Or.inl (t3 q1))))
    · unfold rv_fi; rw [if_pos q, if_neg (l2 q1)]
    · have := t2 q1
      have := l2 q3
      unfold rv_fi; rw [if_neg q, if_pos q2, if_neg (by omega)]
    · unfold rv_fi; rw [if_neg q, if_neg q2, if_neg (t2 q1)]
  refine w_m_filters hM (z_ixi hk (by decide) ?_)
  rw [hv.1, z_eq (by omega) (by decide)]
  refine z_br (fun q => z_ixi hk (by decide) ?_) (fun q => z_ixi hk (by decide) ?_)
  · rw [hv.1, z_eq (by omega) (by decide)]
    refine z_br (fun q1 => absurd q1 (by omega)) (fun q1 => go 1 0 (by rw [if_pos q]) (by rw [if_neg q1]))
  · rw [hv.1, z_eq (by omega) (by decide)]
    refine z_br (fun q1 => go 0 1 (by rw [if_neg q]) (by rw [if_pos q1])) (fun q1 => go 0 0 (by rw [if_neg q]) (by rw [if_neg q1]))
theorem p_areBoth {t : Nat} {K : Bool → mm_F → Prop} (hM : mm_S Gm) (hi : i < 380) (hj : j < 380) (ov : rv_ok v) (ow : rv_ok w) (hv : mv f i v) (hw : mv f j w) (ht : t ≤ 3) (h1 : rv_t v = t ∧ rv_t w = t → K true f) (h2 : ¬ (rv_t v = t ∧ rv_t w = t) → K false f) : m_areBoth Gm d (nI i) (nI j) (nI t) f K := by
  have tv := ov.1
  have tw := ow.1
  refine w_m_areBoth hM (z_ixi hi (by decide) ?_)
  rw [hv.1, z_eq (by omega) (by omega)]
  refine z_br (fun q => z_ixi hj (by decide) ?_) (fun q => h2 (fun r => q r.1))
  rw [hw.1, z_eq (by omega) (by omega)]
  exact z_br (fun q1 => h1 ⟨q, q1⟩) (fun q1 => h2 (fun r => q1 r.2))
theorem p_cb32 {K : mm_F → Prop} (hM : mm_S Gm) (hi : i < 380) (hj : j < 380) (hij : i ≠ j) (ov : rv_ok v) (ow : rv_ok w) (hv : mv f i v) (hw : mv f j w) (tv : rv_t v = 2) (tw : rv_t w = 2) (h70 : f 1714 70 = nI 0)
    (h1 : rv_l v + rv_l w ≤ 300 → ∀ f', mw (fun q => q = i) no_R no_R f f' → mv f' i (rv_T (rv_l v + rv_l w) (rv_ap (rv_l v) (rv_c v) (rv_c w)) (rv_s v && rv_s w)) → K f') (h2 : 300 < rv_l v + rv_l w → ∀ f', mw (fun q => q = i) (fun q => q = 70) no_R f f' → f' 1714 70 = Int32.ofInt (-10) → p_w f' i → K f') :
    ∀ {m q : Nat} {f1 : mm_F}, q + m = rv_l w → rv_l v + q ≤ 300 → mw (fun q => q = i) no_R no_R f f1 → mv f1 i (rv_T (rv_l v + q) (rv_ap (rv_l v) (rv_c v) (rv_c w)) (rv_s v)) → m_combines_32 Gm (d + 1) (nI i) (nI j) (nI q) f1 K
  | m, q, f1, hq, hn, F, hv1 => by
    have lw := rv_lb ow
    have hwj : mv f1 j w := mq_st hw F (fun e => hij e.symm) ow
    -- the safety at the end
    have fin : q = rv_l w → mm_ix (nI i) 380 (fun n21 => mm_br ((f1 1731 n21) = (nI 0)) (mm_ix (nI i) 380 (fun n22 => K (mj_u2 f1 1731 n22 (nI 0)))) (mm_ix (nI j) 380 (fun n23 => mm_br ((f1 1731 n23) = (nI 0)) (mm_ix (nI i) 380 (fun n24 => K (mj_u2 f1 1731 n24 (nI 0)))) (mm_ix (nI i) 380 (fun n25 => K (mj_u2 f1 1731 n25 (nI 1))))))) := fun e => by
      have res : ∀ b, (rv_s v && rv_s w) = b → K (mj_u2 f1 1731 i (bI b)) := fun b hb => by
        refine h1 (by omega) _ (mw_t F (mw_P (by decide) rfl)) ⟨(z_u2n (by decide)).trans hv1.1, (z_u2n (by decide)).trans (hv1.2.1.trans (by rw [e]; rfl)), z_u2s.trans (by rw [← hb]; rfl), fun r => absurd r (by show ¬ 2 = 1; omega), fun r => absurd r (by show ¬ 2 = 3; omega), fun r t ht => (z_u2n (by decide)).trans (hv1.2.2.2.2.2 r t (by show t < rv_l v + q; rw [e]; exact ht))⟩
      have s1 : f1 1731 i = bI (rv_s v) := hv1.2.2.1
      refine z_ixi hi (by decide) ?_
      rw [s1]
      cases hs : rv_s v with
      | false =>
        refine z_bt rfl (z_ixi hi (by decide) (res false ?_))
        rw [hs]; rfl
      | true =>
        refine z_bf (by decide) (z_ixi hj (by decide) ?_)
        rw [hwj.2.2.1]
        cases hs2 : rv_s w with
        | false =>
          refine z_bt rfl (z_ixi hi (by decide) (res false ?_))
          rw [hs, hs2]; rfl
        | true =>
          refine z_bf (by decide) (z_ixi hi (by decide) (res true ?_))
          rw [hs, hs2]; rfl
    refine w_m_combines_32 hM (z_ixi hj (by decide) ?_)
    rw [hwj.2.1, z_le (by omega) (by omega)]
    match m, hq with
    | 0, hq => exact z_bt (by omega) (fin (by omega))
    | m + 1, hq =>
      refine z_bf (by omega) (z_bt ((F.2.1 70 (fun q => q)).trans h70) ?_)
      rw [z_mul, z_add]
      refine z_ixi (by omega) (by decide) ?_
      rw [hwj.2.2.2.2.2 tw q (by omega)]
      refine p_adds hM hi hv1 hn (fun g f2 F2 v2 => ?_) (fun g => ?_)
      · rw [z_add]
        refine p_cb32 (m := m) (q := q + 1) hM hi hj hij ov ow hv hw tv tw h70 h1 h2 (by omega) (by omega) (mw_t F F2) (mq_cg v2 (fun t ht => ?_))
        by_cases e1 : t < rv_l v
        · rw [rv_ap1 (by omega)]
        · by_cases e2 : t < rv_l v + q
          · rw [rv_ap1 e2]
          · obtain rfl : t = rv_l v + q := by omega
            unfold rv_ap
            rw [if_neg (Nat.lt_irrefl _), if_neg (by omega), Nat.add_sub_cancel_left]
      · have z70 : mj_u2 f1 1714 70 (Int32.ofInt (-10)) 1714 70 = Int32.ofInt (-10) := z_u2s
        have F2 : mw (fun q => q = i) (fun q => q = 70) no_R f (mj_u2 f1 1714 70 (Int32.ofInt (-10))) := mw_t (mw_m F (fun _ q => q) (fun _ q => q.elim) (fun _ q => q)) (mw_S rfl)
        have res : ∀ y, mj_b y → K (mj_u2 (mj_u2 f1 1714 70 (Int32.ofInt (-10))) 1731 i y) := fun y hy => h2 (by omega) _ (mw_t F2 (mw_P (by decide) rfl)) ((z_u2n (by decide)).trans z70) (p_w31 (p_w70 (p_ww hv1 g)) _ hy)
        have fin2 : mm_ix (nI i) 380 (fun n21 => mm_br (((mj_u2 f1 1714 70 (Int32.ofInt (-10))) 1731 n21) = (nI 0)) (mm_ix (nI i) 380 (fun n22 => K (mj_u2 (mj_u2 f1 1714 70 (Int32.ofInt (-10))) 1731 n22 (nI 0)))) (mm_ix (nI j) 380 (fun n23 => mm_br (((mj_u2 f1 1714 70 (Int32.ofInt (-10))) 1731 n23) = (nI 0)) (mm_ix (nI i) 380 (fun n24 => K (mj_u2 (mj_u2 f1 1714 70 (Int32.ofInt (-10))) 1731 n24 (nI 0)))) (mm_ix (nI i) 380 (fun n25 => K (mj_u2 (mj_u2 f1 1714 70 (Int32.ofInt (-10))) 1731 n25 (nI 1))))))) :=
          z_ixi hi (by decide) (z_br (fun _ => z_ixi hi (by decide) (res _ (bI_b false))) (fun _ => z_ixi hj (by decide) (z_br (fun _ => z_ixi hi (by decide) (res _ (bI_b false))) (fun _ => z_ixi hi (by decide) (res _ (bI_b true))))))
        refine w_m_combines_32 hM (z_ixi hj (by decide) (z_br (fun _ => fin2) (fun _ => ?_)))
        rw [z70]
        exact z_bf (by decide) fin2
/-- an operator: what comes of it lies where the left one lay -/
theorem p_combines {c : Nat} {K : mm_F → Prop} (hM : mm_S Gm) (hi : i < 380) (hj : j < 380) (hij : i ≠ j) (hD : md f D I) (ov : rv_in D v) (ow : rv_in D w) (hv : mv f i v) (hw : mv f j w) (hc : c = 43 ∨ c = 45 ∨ c = 42 ∨ c = 60 ∨ c = 61 ∨ c = 38) (h70 : f 1714 70 = nI 0)
    (h1 : (rv_op I c v w).1 = nI 0 → ∀ f', mw (fun q => q = i) no_R no_R f f' → mv f' i (rv_op I c v w).2 → K f') (h2 : ¬ (rv_op I c v w).1 = nI 0 → ∀ f' n, mw (fun q => q = i) (fun q => q = 70) no_R f f' → f' 1714 70 = (rv_op I c v w).1 → n ≤ 300 → f' 1730 i = nI n → mj_b (f' 1731 i) → K f') : m_combines Gm (d + 2) (nI c) (nI i) (nI j) f K := by
  have tv := ov.1.1
  have tw := ow.1.1
  have n3 : ¬ Int32.ofInt (-3) = nI 0 := by decide
  have n5 : ¬ Int32.ofInt (-5) = nI 0 := by decide
  have n10 : ¬ Int32.ofInt (-10) = nI 0 := by decide
  have bad : rv_op I c v w = (Int32.ofInt (-3), rv_0) → K (mj_u2 f 1714 70 (Int32.ofInt (-3))) := fun e => h2 (by rw [e]; exact n3) _ _ (mw_S rfl) (by rw [e]; exact z_u2s) (rv_lb ov.1) ((z_u2n (by decide)).trans hv.2.1) (by rw [show ∀ y, mj_u2 f 1714 70 y 1731 i = f 1731 i from fun y => z_u2n (by decide), hv.2.2.1]; exact bI_b _)
  have bool : ∀ (p : Prop) b, rv_op I c v w = (nI 0, rv_N (bI (rv_B p))) → rv_B p = b → m_becomes Gm (d + 1) (nI i) (bI b) f K := fun p b e hb => by
    rw [e, hb] at h1
    exact p_becomes hM hi (h1 rfl)
  -- numbers, and < of texts
  have nums : c ≠ 38 → c ≠ 61 → (rv_t v = 1 ∧ rv_t w = 1) ∨ (c = 60 ∧ rv_t v = 2 ∧ rv_t w = 2) → m_combines_185 Gm (d + 2) (nI c) (nI i) (nI j) f K := fun a1 a2 a3 => by
    refine w_m_combines_185 hM ?_
    rw [z_eq (by omega) (by decide), z_eq (by omega) (by decide), z_eq (by omega) (by decide)]
    refine z_br (fun q => ?_) (fun q => z_ixi hi (by decide) (z_ixi hj (by decide) ?_))
    · rcases a3 with a3 | a3
      · have e : rv_op I c v w = (nI 0, rv_N (bI (rv_B (¬ rv_n w ≤ rv_n v)))) := by unfold rv_op; rw [if_neg a1, if_neg a2, if_pos a3, if_pos q]
        exact p_isLess hM hi hj ov.1 ow.1 hv hw (Or.inl a3) (fun r => bool _ true e (rv_Bt (by rcases r with r | r; exact r.2; omega))) (fun r => bool _ false e (rv_Bf (fun r' => r (Or.inl ⟨a3.1, r'⟩))))
      · have e : rv_op I c v w = (nI 0, rv_N (bI (rv_B (rv_bf v w)))) := by unfold rv_op; rw [if_neg a1, if_neg a2, if_neg (by omega), if_pos a3.2, if_neg (by omega), if_pos q]
        exact p_isLess hM hi hj ov.1 ow.1 hv hw (Or.inr a3.2) (fun r => bool _ true e (rv_Bt (by rcases r with r | r; omega; exact r.2))) (fun r => bool _ false e (rv_Bf (fun r' => r (Or.inr ⟨a3.2.1, r'⟩))))
    · have a4 : rv_t v = 1 ∧ rv_t w = 1 := by omega
      have hvn : f 1729 i = rv_n v := hv.2.2.2.1 a4.1
      have hwn : f 1729 j = rv_n w := hw.2.2.2.1 a4.2
      have hvN : mv f i (rv_N (rv_n v)) := ⟨hv.1.trans (by rw [a4.1]; rfl), hv.2.1.trans (by rw [ov.1.2.1 (by omega)]; rfl), hv.2.2.1.trans (by rw [ov.1.2.2.1 (by omega)]; rfl), fun _ => hvn, fun r => absurd r (by show ¬ 1 = 3; omega), fun r => absurd r (by show ¬ 1 = 2; omega)⟩
      rw [hvn, hwn]
      have go : ∀ y, y = rv_ar c (rv_n v) (rv_n w) → m_isInt Gm (d + 1) (nI i) y f K := fun y hy => by
        have e : rv_op I c v w = (if lg_cmp (rv_ar c (rv_n v) (rv_n w)) (rv_ar c (rv_n v) (rv_n w)).toInt32.toInt64 = nI 0 then (nI 0, rv_N (rv_ar c (rv_n v) (rv_n w)).toInt32) else (Int32.ofInt (-5), rv_0)) := by unfold rv_op; rw [if_neg a1, if_neg a2, if_pos a4, if_neg q]
        rw [← hy] at e
        refine p_isInt hM hi hvN (fun g f1 F1 v1 => ?_) (fun g => ?_)
        · rw [if_pos g] at e
          rw [e] at h1
          exact h1 rfl f1 F1 v1
        · rw [if_neg g] at e
          rw [e] at h2
          exact h2 n5 _ _ (mw_S rfl) z_u2s (rv_lb ov.1) ((z_u2n (by decide)).trans hv.2.1) (by rw [show ∀ y, mj_u2 f 1714 70 y 1731 i = f 1731 i from fun y => z_u2n (by decide), hv.2.2.1]; exact bI_b _)
      refine z_br (fun r => go _ ?_) (fun r => z_br (fun r1 => go _ ?_) (fun r1 => go _ ?_))
      · unfold rv_ar; rw [if_pos r]
      · unfold rv_ar; rw [if_neg r, if_pos r1]
      · unfold rv_ar; rw [if_neg r, if_neg r1]
  -- all but texts joined
  have rest : ∀ b1 b2 : Bool, (b1 = true ↔ rv_t v = 1 ∧ rv_t w = 1) → (b2 = true ↔ rv_t v = 2 ∧ rv_t w = 2) → ¬ (c = 43 ∧ b2 = true) → m_combines_106 Gm (d + 2) (nI c) (nI i) (nI j) (bI b1) (bI b2) f K := fun b1 b2 hb1 hb2 hnj => by
    have e0 : ∀ b : Bool, (bI b = nI 0) = (b = false) := fun b => by cases b <;> exact propext (by decide)
    refine w_m_combines_106 hM ?_
    rw [z_eq (by omega) (by decide), z_eq (by omega) (by decide), z_eq (by omega) (by decide), z_eq (by omega) (by decide), e0, e0]
    refine z_br (fun q => ?_) (fun q => z_br (fun q1 => ?_) (fun q1 => z_br (fun q2 => absurd q2 (by omega)) (fun q2 => z_br (fun q3 => z_br (fun q4 => z_br (fun q5 => bad ?_) (fun q5 => nums q1 q (Or.inr ⟨q4, hb2.mp (by cases b2; exact absurd rfl q5; rfl)⟩))) (fun q4 => bad ?_)) (fun q3 => nums q1 q (Or.inl (hb1.mp (by cases b1; exact absurd rfl q3; rfl)))))))
    · have e : rv_op I c v w = (nI 0, rv_N (bI (rv_B (rv_lk I v w)))) := by unfold rv_op; rw [if_neg (by omega), if_pos q]
      exact p_areAlike hM hD hi hj ov ow hv hw (fun r => bool _ true e (rv_Bt r)) (fun r => bool _ false e (rv_Bf r))
    · have e : rv_op I c v w = (nI 0, rv_N (bI (rv_B (rv_tr w)))) := by unfold rv_op; rw [if_pos q1]
      exact p_isTrue hM hj hw ow.1 (fun r => bool _ true e (rv_Bt r)) (fun r => bool _ false e (rv_Bf r))
    · have x1 : ¬ (rv_t v = 1 ∧ rv_t w = 1) := fun r => by rw [hb1.mpr r] at q3; exact absurd q3 (by decide)
      have x2 : ¬ (rv_t v = 2 ∧ rv_t w = 2) := fun r => by rw [hb2.mpr r] at q5; exact absurd q5 (by decide)
      unfold rv_op; rw [if_neg q1, if_neg q, if_neg x1, if_neg x2]
    · have x1 : ¬ (rv_t v = 1 ∧ rv_t w = 1) := fun r => by rw [hb1.mpr r] at q3; exact absurd q3 (by decide)
      by_cases x2 : rv_t v = 2 ∧ rv_t w = 2
      · unfold rv_op; rw [if_neg q1, if_neg q, if_neg x1, if_pos x2, if_neg (fun r => hnj ⟨r, hb2.mpr x2⟩), if_neg q4]
      · unfold rv_op; rw [if_neg q1, if_neg q, if_neg x1, if_neg x2]
  have tt : (true = true) = True := propext ⟨fun _ => trivial, fun _ => rfl⟩
  -- both kinds told
  have texts : ∀ b1 : Bool, (b1 = true ↔ rv_t v = 1 ∧ rv_t w = 1) → m_areBoth Gm (d + 1) (nI i) (nI j) (nI 2) f (fun v4 f3 => mm_br (nI c = (nI 43)) (mm_br (v4 = true) (m_combines_32 Gm (d + 2) (nI i) (nI j) (nI 0) f3 K) (m_combines_106 Gm (d + 2) (nI c) (nI i) (nI j) (bI b1) (bI v4) f3 K)) (m_combines_106 Gm (d + 2) (nI c) (nI i) (nI j) (bI b1) (bI v4) f3 K)) := fun b1 hb1 => by
    refine p_areBoth hM hi hj ov.1 ow.1 hv hw (by decide) (fun r => ?_) (fun r => ?_)
    · rw [z_eq (by omega) (by decide)]
      refine z_br (fun q => z_bt rfl ?_) (fun q => rest b1 true hb1 ⟨fun _ => r, fun _ => rfl⟩ (fun q' => q q'.1))
      have e : rv_op I c v w = (if rv_l v + rv_l w ≤ 300 then (nI 0, rv_T (rv_l v + rv_l w) (rv_ap (rv_l v) (rv_c v) (rv_c w)) (rv_s v && rv_s w)) else (Int32.ofInt (-10), rv_0)) := by unfold rv_op; rw [if_neg (by omega), if_neg (by omega), if_neg (by omega), if_pos r, if_pos q]
      have hv' := hv
      rw [← mv_TX r.1] at hv'
      refine p_cb32 hM hi hj hij ov.1 ow.1 hv hw r.1 r.2 h70 (fun g f1 F1 v1 => ?_) (fun g f1 F1 e1 e5 => ?_) (m := rv_l w) (q := 0) (by omega) (rv_lb ov.1) mw_r (mq_cg hv' (fun t ht => (rv_ap1 ht).symm))
      · rw [if_pos g] at e
        rw [e] at h1
        exact h1 rfl f1 F1 v1
      · rw [if_neg (by omega)] at e
        rw [e] at h2
        exact h2 n10 f1 300 F1 e1 (Nat.le_refl _) e5.1 e5.2
    · refine z_br (fun q => z_bf (by decide) (rest b1 false hb1 ⟨fun q => absurd q (by decide), fun q => absurd q r⟩ (fun q' => absurd q'.2 (by decide)))) (fun q => rest b1 false hb1 ⟨fun q => absurd q (by decide), fun q => absurd q r⟩ (fun q' => absurd q'.2 (by decide)))
  refine w_m_combines hM ?_
  exact p_areBoth hM hi hj ov.1 ow.1 hv hw (by decide) (fun r => texts true ⟨fun _ => r, fun _ => rfl⟩) (fun r => texts false ⟨fun q => absurd q (by decide), fun q => absurd q r⟩)
end MO
