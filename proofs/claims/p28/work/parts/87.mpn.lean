/-! RENDERING: the model's values: alike, less, filters -/
section MN
variable {Gm : mj_G} {D : Nat → rv} {I : Nat → Nat → rv} {f : mm_F} {d k i j : Nat} {v w : rv} {x : Int32}
theorem p_al87t {K : Bool → mm_F → Prop} (hM : mm_S Gm) (hi : i < 380) (hj : j < 380) (ov : rv_ok v) (ow : rv_ok w) (hv : mv f i v) (hw : mv f j w) (tv : rv_t v = 2) (tw : rv_t w = 2) (hl : rv_l v = rv_l w) (h1 : (∀ j, j < rv_l v → rv_c v j = rv_c w j) → K true f) (h2 : ¬ (∀ j, j < rv_l v → rv_c v j = rv_c w j) → K false f) : ∀ {m q : Nat}, q + m = rv_l v → (∀ j, j < q → rv_c v j = rv_c w j) → m_areAlike_87 Gm (d + 1) (nI i) (nI j) (nI 1) (nI q) f K
  | 0, q, hq, hc => by
    have hn := (ov.2.2.2.1 tv).1
    refine w_m_areAlike_87 hM (z_ixi hi (by decide) ?_)
    rw [hv.2.1, z_le (by omega) (by omega)]
    exact z_bt (by omega) (z_ex (b := true) (h1 (fun j hj => hc j (by omega))))
  | m + 1, q, hq, hc => by
    obtain ⟨hn, c1⟩ := ov.2.2.2.1 tv
    have c2 := (ow.2.2.2.1 tw).2
    have x1 := c1 q (by omega)
    have x2 := c2 q (by omega)
    refine w_m_areAlike_87 hM (z_ixi hi (by decide) ?_)
    rw [hv.2.1, z_le (by omega) (by omega)]
    refine z_bf (by omega) (z_bf (by decide) (z_ixi hi (by decide) ?_))
    rw [hv.1, tv]
    refine z_bf (by decide) ?_
    rw [z_mul, z_add, z_mul, z_add, z_add]
    refine z_ixi (by omega) (by decide) (z_ixi (by omega) (by decide) ?_)
    rw [hv.2.2.2.2.2 tv q (by omega), hw.2.2.2.2.2 tw q (by omega), z_eq (by omega) (by omega)]
    refine z_br (fun g => p_al87t hM hi hj ov ow hv hw tv tw hl h1 h2 (m := m) (q := q + 1) (by omega) (fun j hj2 => ?_)) (fun g => ?_)
    · by_cases e : j = q
      · rw [e]; exact g
      · exact hc j (by omega)
    · refine w_m_areAlike_87 hM (z_ixi hi (by decide) ?_)
      have fin : bI_ex (nI 0) (fun b => K b f) := z_ex (b := false) (h2 (fun q' => g (q' q (by omega))))
      exact z_br (fun _ => fin) (fun _ => z_bt rfl fin)
theorem p_al87l {K : Bool → mm_F → Prop} (hM : mm_S Gm) (hd : md f D I) (hi : i < 380) (hj : j < 380) (ov : rv_in D v) (ow : rv_in D w) (hv : mv f i v) (hw : mv f j w) (tv : rv_t v = 3) (tw : rv_t w = 3) (hl : rv_l v = rv_l w) (h1 : (∀ k, k < rv_l v → rv_pl (I (rv_d v) k) (I (rv_d w) k)) → K true f) (h2 : ¬ (∀ k, k < rv_l v → rv_pl (I (rv_d v) k) (I (rv_d w) k)) → K false f) : ∀ {m q : Nat}, q + m = rv_l v → (∀ k, k < q → rv_pl (I (rv_d v) k) (I (rv_d w) k)) → m_areAlike_87 Gm (d + 1) (nI i) (nI j) (nI 1) (nI q) f K
  | 0, q, hq, hc => by
    have hn := (ov.1.2.2.2.2 tv).1
    refine w_m_areAlike_87 hM (z_ixi hi (by decide) ?_)
    rw [hv.2.1, z_le (by omega) (by omega)]
    exact z_bt (by omega) (z_ex (b := true) (h1 (fun j hj => hc j (by omega))))
  | m + 1, q, hq, hc => by
    obtain ⟨hn, hdv⟩ := ov.1.2.2.2.2 tv
    have hdw := (ow.1.2.2.2.2 tw).2
    obtain ⟨e1, e2⟩ := ov.2 tv
    obtain ⟨e1', e2'⟩ := ow.2 tw
    obtain ⟨-, -, -, -, -, g⟩ := hd _ hdv
    obtain ⟨-, -, -, -, -, g'⟩ := hd _ hdw
    obtain ⟨p1, p2, p3, p4, p5⟩ := (g e1).2 q (by omega)
    obtain ⟨p1', p2', p3', p4', p5'⟩ := (g' e1').2 q (by omega)
    refine w_m_areAlike_87 hM (z_ixi hi (by decide) ?_)
    rw [hv.2.1, z_le (by omega) (by omega)]
    refine z_bf (by omega) (z_bf (by decide) (z_ixi hi (by decide) ?_))
    rw [hv.1, tv]
    refine z_bt rfl (z_ixi hi (by decide) (z_ixi hj (by decide) ?_))
    rw [hv.2.2.2.2.1 tv, hw.2.2.2.2.1 tw, z_mul, z_add, z_mul, z_add]
    refine p_areAlikeItems hM (by omega) (by omega) p1 p1' (by omega) (by omega) p2 p2' p4 p4' p5 p5' (fun hp => ?_) (fun hp => ?_)
    · rw [z_add]
      refine p_al87l hM hd hi hj ov ow hv hw tv tw hl h1 h2 (m := m) (q := q + 1) (by omega) (fun k hk => ?_)
      by_cases e : k = q
      · rw [e]; exact hp
      · exact hc k (by omega)
    · refine w_m_areAlike_87 hM (z_ixi hi (by decide) ?_)
      have fin : bI_ex (bI false) (fun b => K b f) := z_ex (b := false) (h2 (fun q' => hp (q' q (by omega))))
      exact z_br (fun _ => fin) (fun _ => z_bt rfl fin)
theorem p_areAlike {K : Bool → mm_F → Prop} (hM : mm_S Gm) (hd : md f D I) (hi : i < 380) (hj : j < 380) (ov : rv_in D v) (ow : rv_in D w) (hv : mv f i v) (hw : mv f j w) (h1 : rv_lk I v w → K true f) (h2 : ¬ rv_lk I v w → K false f) : m_areAlike Gm (d + 1) (nI i) (nI j) f K := by
  have tv := ov.1.1
  have tw := ow.1.1
  unfold rv_lk rv_pl at h1 h2
  have bl : ∀ v, rv_ok v → rv_l v ≤ 300 := fun v o => by
    by_cases h0 : rv_t v ≤ 1
    · rw [o.2.1 h0]; decide
    · by_cases h2 : rv_t v = 2
      · exact (o.2.2.2.1 h2).1
      · have := (o.2.2.2.2 (by have := o.1; omega)).1
        omega
  have b1 := bl v ov.1
  have b2 := bl w ow.1
  have no : ¬ (rv_lk I v w) → m_areAlike_35 Gm (d + 1) (nI i) (nI j) (nI 0) f K := fun h => w_m_areAlike_35 hM (z_bt rfl (z_bt rfl (h2 h)))
  refine w_m_areAlike hM (z_ixi hi (by decide) (z_ixi hj (by decide) ?_))
  rw [hv.1, hw.1, z_eq (by omega) (by omega)]
  refine z_br (fun q => z_ixi hi (by decide) (z_ixi hj (by decide) ?_)) (fun q => no (fun q' => q q'.1.1))
  rw [hv.2.1, hw.2.1, z_eq (by omega) (by omega)]
  refine z_br (fun hl => ?_) (fun hl => no (fun q' => ?_))
  · refine w_m_areAlike_35 hM (z_bf (by decide) (z_ixi hi (by decide) ?_))
    rw [hv.1, z_le (by decide) (by omega), z_eq (by omega) (by decide)]
    refine z_br (fun g => ?_) (fun g => z_bf (by decide) (z_ixi hi (by decide) ?_))
    · by_cases t2 : rv_t v = 2
      · exact p_al87t hM hi hj ov.1 ow.1 hv hw t2 (by omega) hl (fun r => h1 ⟨⟨q, fun _ => by omega, fun _ => ⟨hl, r⟩⟩, fun _ => by omega⟩) (fun r => h2 (fun q' => r (q'.1.2.2 t2).2)) (m := rv_l v) (q := 0) (by omega) (fun j hj => absurd hj (by omega))
      · have t3 : rv_t v = 3 := by omega
        exact p_al87l hM hd hi hj ov ow hv hw t3 (by omega) hl (fun r => h1 ⟨⟨q, fun _ => by omega, fun _ => by omega⟩, fun _ => ⟨hl, r⟩⟩) (fun r => h2 (fun q' => r (q'.2 t3).2)) (m := rv_l v) (q := 0) (by omega) (fun j hj => absurd hj (by omega))
    · rw [hv.1, z_eq (by omega) (by decide)]
      refine z_br (fun g0 => h1 ⟨⟨q, fun _ => by omega, fun _ => by omega⟩, fun _ => by omega⟩) (fun g0 => z_ixi hi (by decide) (z_ixi hj (by decide) ?_))
      rw [hv.2.2.2.1 (by omega), hw.2.2.2.1 (by omega)]
      exact z_br (fun e => h1 ⟨⟨q, fun _ => e, fun _ => by omega⟩, fun _ => by omega⟩) (fun e => h2 (fun q' => e (q'.1.2.1 (by omega))))
  · by_cases t1 : rv_t v ≤ 1
    · exact hl (by rw [ov.1.2.1 t1, ow.1.2.1 (by omega)])
    · by_cases t2 : rv_t v = 2
      · exact hl (q'.1.2.2 t2).1
      · exact hl (q'.2 (by omega)).1
theorem p_less33 {K : Bool → mm_F → Prop} (hM : mm_S Gm) (hi : i < 380) (hj : j < 380) (ov : rv_ok v) (ow : rv_ok w) (hv : mv f i v) (hw : mv f j w) (tv : rv_t v = 2) (tw : rv_t w = 2) {M : Nat} (hM2 : M = min (rv_l v) (rv_l w))
    (h1 : ∀ p, p < rv_l w → (rv_l v ≤ p ∨ rv_c v p < rv_c w p) → p = rv_fd (rv_c v) (rv_c w) M 0 → K true f) (h2 : ∀ p, ¬ (p < rv_l w ∧ (rv_l v ≤ p ∨ rv_c v p < rv_c w p)) → p = rv_fd (rv_c v) (rv_c w) M 0 → K false f) : ∀ {m q : Nat}, q + m = M → rv_fd (rv_c v) (rv_c w) M 0 = rv_fd (rv_c v) (rv_c w) m q → m_isLess_33 Gm d (nI i) (nI j) (nI q) f K
  | m, q, hq, he => by
    obtain ⟨hn, c1⟩ := ov.2.2.2.1 tv
    obtain ⟨hn', c2⟩ := ow.2.2.2.1 tw
    have hm1 := Nat.min_le_left (rv_l v) (rv_l w)
    have hm2 := Nat.min_le_right (rv_l v) (rv_l w)
    -- the end at q
    have fin : q = rv_fd (rv_c v) (rv_c w) M 0 → mm_ix (nI j) 380 (fun n7 => mm_br ((f 1730 n7) ≤ nI q) (K false f) (mm_ix (nI i) 380 (fun n8 => mm_br (nI q = (f 1730 n8)) (K true f) (mm_ix (((nI 300) * nI i) + nI q) 114000 (fun n9 => mm_ix (((nI 300) * nI j) + nI q) 114000 (fun n10 => mm_br ((f 1732 n10) ≤ (f 1732 n9)) (K false f) (K true f))))))) := fun hf => by
      refine z_ixi hj (by decide) ?_
      rw [hw.2.1, z_le (by omega) (by omega)]
      refine z_br (fun g => h2 q (by omega) hf) (fun g => z_ixi hi (by decide) ?_)
      rw [hv.2.1, z_eq (by omega) (by omega)]
      refine z_br (fun g1 => h1 q (by omega) (by omega) hf) (fun g1 => ?_)
      rw [z_mul, z_add, z_mul, z_add]
      have hqv : q < rv_l v := by
        by_cases hqv : q < rv_l v
        · exact hqv
        · have : M ≤ q := by omega
          omega
      have x1 := c1 q hqv
      have x2 := c2 q (by omega)
      refine z_ixi (by omega) (by decide) (z_ixi (by omega) (by decide) ?_)
      rw [hv.2.2.2.2.2 tv q hqv, hw.2.2.2.2.2 tw q (by omega), z_le (by omega) (by omega)]
      exact z_br (fun g2 => h2 q (by omega) hf) (fun g2 => h1 q (by omega) (by omega) hf)
    refine w_m_isLess_33 hM (z_ixi hi (by decide) ?_)
    rw [hv.2.1, z_le (by omega) (by omega)]
    match m, hq, he with
    | 0, hq, he =>
      have hf : q = rv_fd (rv_c v) (rv_c w) M 0 := he.symm
      refine z_br (fun _ => fin hf) (fun g => z_ixi hj (by decide) ?_)
      rw [hw.2.1, z_le (by omega) (by omega)]
      have hlw : rv_l w ≤ q := by
        by_cases hlw : rv_l w ≤ q
        · exact hlw
        · have : min (rv_l v) (rv_l w) = q := by omega
          rw [Nat.min_def] at this
          by_cases h3 : rv_l v ≤ rv_l w
          · rw [if_pos h3] at this; omega
          · rw [if_neg h3] at this; omega
      refine z_bt hlw ?_
      exact fin hf
    | m + 1, hq, he =>
      have x1 := c1 q (by omega)
      have x2 := c2 q (by omega)
      have e : rv_fd (rv_c v) (rv_c w) (m + 1) q = if rv_c v q = rv_c w q then rv_fd (rv_c v) (rv_c w) m (q + 1) else q := rfl
      rw [e] at he
      refine z_bf (by omega) (z_ixi hj (by decide) ?_)
      rw [hw.2.1, z_le (by omega) (by omega)]
      refine z_bf (by omega) ?_
      rw [z_mul, z_add, z_mul, z_add, z_add]
      refine z_ixi (by omega) (by decide) (z_ixi (by omega) (by decide) ?_)
      rw [hv.2.2.2.2.2 tv q (by omega), hw.2.2.2.2.2 tw q (by omega), z_eq (by omega) (by omega)]
      refine z_br (fun g => ?_) (fun g => ?_)
      · rw [if_pos g] at he
        exact p_less33 hM hi hj ov ow hv hw tv tw hM2 h1 h2 (m := m) (q := q + 1) (by omega) he
      · rw [if_neg g] at he
        have h := fin he.symm
        rw [z_mul, z_add, z_mul, z_add] at h
        exact h
theorem p_isLess {K : Bool → mm_F → Prop} (hM : mm_S Gm) (hi : i < 380) (hj : j < 380) (ov : rv_ok v) (ow : rv_ok w) (hv : mv f i v) (hw : mv f j w) (ht : (rv_t v = 1 ∧ rv_t w = 1) ∨ (rv_t v = 2 ∧ rv_t w = 2)) (h1 : (rv_t v = 1 ∧ ¬ rv_n w ≤ rv_n v) ∨ (rv_t v = 2 ∧ rv_bf v w) → K true f) (h2 : ¬ ((rv_t v = 1 ∧ ¬ rv_n w ≤ rv_n v) ∨ (rv_t v = 2 ∧ rv_bf v w)) → K false f) : m_isLess Gm d (nI i) (nI j) f K := by
  have tv := ov.1
  refine w_m_isLess hM (z_ixi hi (by decide) ?_)
  rw [hv.1, z_eq (by omega) (by decide)]
  refine z_br (fun q => z_ixi hi (by decide) (z_ixi hj (by decide) ?_)) (fun q => ?_)
  · rw [hv.2.2.2.1 q, hw.2.2.2.1 (by omega)]
    exact z_br (fun g => h2 (fun q' => by rcases q' with q' | q'; exact q'.2 g; omega)) (fun g => h1 (Or.inl ⟨q, g⟩))
  · have t2 : rv_t v = 2 ∧ rv_t w = 2 := by omega
    unfold rv_bf at h1 h2
    refine p_less33 hM hi hj ov ow hv hw t2.1 t2.2 (M := min (rv_l v) (rv_l w)) rfl (fun p g1 g2 g3 => h1 (Or.inr ⟨t2.1, by rw [← g3]; exact ⟨g1, g2⟩⟩)) (fun p g1 g2 => h2 (fun q' => by
      rcases q' with q' | q'
      · omega
      · rw [← g2] at q'
        exact g1 q'.2)) (m := min (rv_l v) (rv_l w)) (q := 0) (by omega) rfl
/-- a result in a number's place -/
theorem p_isInt {y : Int64} {z : Int32} {K : mm_F → Prop} (hM : mm_S Gm) (hk : k < 380) (hv : mv f k (rv_N z)) (h1 : lg_cmp y y.toInt32.toInt64 = nI 0 → ∀ f', mw (fun q => q = k) no_R no_R f f' → mv f' k (rv_N y.toInt32) → K f') (h2 : ¬ lg_cmp y y.toInt32.toInt64 = nI 0 → K (mj_u2 f 1714 70 (Int32.ofInt (-5)))) : m_isInt Gm d (nI k) y f K := by
  refine w_m_isInt hM (z_br (fun q => z_ixi hk (by decide) (z_ixi hk (by decide) ?_)) h2)
  exact h1 q _ (mw_t (mw_P (by decide) rfl) (mw_P (by decide) rfl)) ⟨(z_u2n (by decide)).trans z_u2s, (z_u2n (by decide)).trans ((z_u2n (by decide)).trans hv.2.1), (z_u2n (by decide)).trans ((z_u2n (by decide)).trans hv.2.2.1), fun _ => z_u2s, fun r => absurd r (by show ¬ 1 = 3; omega), fun r => absurd r (by show ¬ 1 = 2; omega)⟩
/-- small letters as large ones -/
theorem p_up {n : Nat} {ch : Nat → Nat} {s : Bool} {K : mm_F → Prop} (hM : mm_S Gm) (hk : k < 380) (hn : n ≤ 300) (hb : ∀ j, j < n → 32 ≤ ch j ∧ ch j ≤ 126) (hd : 16 ≤ d) (hK : ∀ f', mw (fun q => q = k) no_R no_R f f' → mv f' k (rv_T n (fun j => rv_u (ch j)) s) → K f') : ∀ {m q : Nat} {f1 : mm_F}, q + m = n → mw (fun q => q = k) no_R no_R f f1 → mv f1 k (rv_T n (fun j => if j < q then rv_u (ch j) else ch j) s) → m_filters_80 Gm (d + 1) (nI k) (nI q) f1 K
  | 0, q, f1, hq, F, hv => by
    have e : f1 1730 k = nI n := hv.2.1
    refine w_m_filters_80 hM (by omega) (z_ixi hk (by decide) ?_)
    rw [e, z_le (by omega) (by omega)]
    exact z_bt (by omega) (hK f1 F (mq_cg hv (fun j hj => if_pos (by omega))))
  | m + 1, q, f1, hq, F, hv => by
    have e : f1 1730 k = nI n := hv.2.1
    have ec : f1 1732 (300 * k + q) = nI (ch q) := (hv.2.2.2.2.2 rfl q (by show q < n; omega)).trans (by show nI (if q < q then _ else ch q) = _; rw [if_neg (Nat.lt_irrefl q)])
    have hc := hb q (by omega)
    refine w_m_filters_80 hM (by omega) (z_ixi hk (by decide) ?_)
    rw [e, z_le (by omega) (by omega)]
    refine z_bf (by omega) ?_
    rw [z_mul, z_add, z_add]
    have nx : ∀ y, y = nI (rv_u (ch q)) → m_filters_80 Gm (d + 1) (nI k) (nI (q + 1)) (mj_u2 f1 1732 (300 * k + q) y) K := fun y hy => by
      refine p_up hM hk hn hb hd hK (m := m) (q := q + 1) (by omega) (mw_t F (mw_C (show (300 * k + q) / 300 = k by omega))) ⟨(z_u2n (by decide)).trans hv.1, (z_u2n (by decide)).trans hv.2.1, (z_u2n (by decide)).trans hv.2.2.1, fun r => absurd r (by show ¬ 2 = 1; omega), fun r => absurd r (by show ¬ 2 = 3; omega), fun _ j hj => ?_⟩
      show mj_u2 f1 1732 (300 * k + q) y 1732 (300 * k + j) = nI (if j < q + 1 then rv_u (ch j) else ch j)
      by_cases hjq : j = q
      · rw [hjq, z_u2s, if_pos (Nat.lt_succ_self q)]
        exact hy
      · rw [z_u2m (by omega)]
        refine (hv.2.2.2.2.2 rfl j hj).trans ?_
        show nI (if j < q then rv_u (ch j) else ch j) = _
        by_cases hj2 : j < q
        · rw [if_pos hj2, if_pos (by omega)]
        · rw [if_neg hj2, if_neg (by omega)]
    refine z_ixi (by omega) (by decide) ?_
    rw [ec, z_13005 (by omega)]
    refine z_br (fun g => z_ixi (by omega) (by decide) (nx _ ?_)) (fun g => z_ixi (by omega) (by decide) (nx _ ?_))
    · unfold tx_L at g
      unfold rv_u
      rw [if_pos g, z_sub (by omega)]
    · unfold tx_L at g
      unfold rv_u
      rw [if_neg g]
/-- a text as a number -/
theorem p_rd51 {fr : Nat} {K : mm_F → Prop} (hM : mm_S Gm) (hk : k < 380) (hd : 16 ≤ d) (hv : mv f k v) (ov : rv_ok v) (tv : rv_t v = 2) (hK : ∀ b y, (b, y) = rv_rn v → m_reads_106 Gm (d + 1) (nI k) (nI fr) (bI b) y f K) : ∀ {m q : Nat} {acc : Int32}, q + m = rv_l v → rn_f (rv_c v) m q acc = rv_rn v → m_reads_51 Gm (d + 1) (nI k) (nI fr) (nI 1) acc (nI q) f K
  | 0, q, acc, hq, he => by
    have hn := (ov.2.2.2.1 tv).1
    refine w_m_reads_51 hM (by omega) (z_ixi hk (by decide) ?_)
    rw [hv.2.1, z_le (by omega) (by omega)]
    exact z_bt (by omega) (hK true acc he)
  | m + 1, q, acc, hq, he => by
    obtain ⟨hn, hc⟩ := ov.2.2.2.1 tv
    have x1 := hc q (by omega)
    have e : rn_f (rv_c v) (m + 1) q acc = if 48 ≤ rv_c v q ∧ rv_c v q ≤ 57 then rn_f (rv_c v) m (q + 1) (nI 10 * acc + nI (rv_c v q) - nI 48) else (false, nI 10 * acc + nI (rv_c v q) - nI 48) := rfl
    rw [e] at he
    refine w_m_reads_51 hM (by omega) (z_ixi hk (by decide) ?_)
    rw [hv.2.1, z_le (by omega) (by omega)]
    refine z_bf (by omega) (z_bf (by decide) ?_)
    rw [z_mul, z_add, z_add]
    refine z_ixi (by omega) (by decide) ?_
    rw [hv.2.2.2.2.2 tv q (by omega)]
    by_cases hD : 48 ≤ rv_c v q ∧ rv_c v q ≤ 57
    · rw [if_pos hD] at he
      have hb : qb (q_13004 (nI (rv_c v q))) = true := by rw [z_13004 (by omega)]; exact hD
      rw [hb]
      exact p_rd51 hM hk hd hv ov tv hK (m := m) (q := q + 1) (by omega) he
    · rw [if_neg hD] at he
      have hb : qb (q_13004 (nI (rv_c v q))) = false := Bool.eq_false_iff.mpr (fun g => hD (by rw [z_13004 (by omega)] at g; exact g))
      rw [hb]
      refine w_m_reads_51 hM (by omega) (z_ixi hk (by decide) ?_)
      exact z_br (fun _ => hK false _ he) (fun _ => z_bt rfl (hK false _ he))
theorem p_reads {K : mm_F → Prop} (hM : mm_S Gm) (hk : k < 380) (hd : 16 ≤ d) (hv : mv f k v) (ov : rv_ok v) (tv : rv_t v = 2) (hK : ∀ f', mw (fun q => q = k) no_R no_R f f' → mv f' k (rv_rd v) → K f') : m_reads Gm (d + 1) (nI k) f K := by
  obtain ⟨hn, hc⟩ := ov.2.2.2.1 tv
  -- the end
  have fin : ∀ b y, (b, y) = rv_rn v → m_reads_106 Gm (d + 1) (nI k) (nI (rv_fr v)) (bI b) y f K := fun b y he => by
    have e1 : (rv_rn v).1 = b := by rw [← he]
    have e2 : (rv_rn v).2 = y := by rw [← he]
    have hfl := rv_frl (v := v)
    unfold rv_rd at hK
    rw [e1, e2] at hK
    refine w_m_reads_106 hM ?_
    rw [z_eq (by omega) (by decide)]
    have st : ∀ (t : Nat) (z : Int32), mw (fun q => q = k) no_R no_R f (mj_u2 (mj_u2 (mj_u2 (mj_u2 f 1728 k (nI t)) 1729 k z) 1730 k (nI 0)) 1731 k (nI 1)) ∧ (t = 0 → mv (mj_u2 (mj_u2 (mj_u2 (mj_u2 f 1728 k (nI t)) 1729 k z) 1730 k (nI 0)) 1731 k (nI 1)) k rv_0) ∧ (t = 1 → mv (mj_u2 (mj_u2 (mj_u2 (mj_u2 f 1728 k (nI t)) 1729 k z) 1730 k (nI 0)) 1731 k (nI 1)) k (rv_N z)) := fun t z => by
      have g8 : (mj_u2 (mj_u2 (mj_u2 (mj_u2 f 1728 k (nI t)) 1729 k z) 1730 k (nI 0)) 1731 k (nI 1)) 1728 k = nI t := (z_u2n (by decide)).trans ((z_u2n (by decide)).trans ((z_u2n (by decide)).trans z_u2s))
      have g9 : (mj_u2 (mj_u2 (mj_u2 (mj_u2 f 1728 k (nI t)) 1729 k z) 1730 k (nI 0)) 1731 k (nI 1)) 1729 k = z := (z_u2n (by decide)).trans ((z_u2n (by decide)).trans z_u2s)
      have g0 : (mj_u2 (mj_u2 (mj_u2 (mj_u2 f 1728 k (nI t)) 1729 k z) 1730 k (nI 0)) 1731 k (nI 1)) 1730 k = nI 0 := (z_u2n (by decide)).trans z_u2s
      refine ⟨mw_t (mw_P (by decide) rfl) (mw_t (mw_P (by decide) rfl) (mw_t (mw_P (by decide) rfl) (mw_P (by decide) rfl))), fun q => ⟨g8.trans (by rw [q]; rfl), g0, z_u2s, fun r => absurd r (by show ¬ 0 = 1; omega), fun r => absurd r (by show ¬ 0 = 3; omega), fun r => absurd r (by show ¬ 0 = 2; omega)⟩, fun q => ⟨g8.trans (by rw [q]; rfl), g0, z_u2s, fun _ => g9, fun r => absurd r (by show ¬ 1 = 3; omega), fun r => absurd r (by show ¬ 1 = 2; omega)⟩⟩
    cases b with
    | false =>
      rw [if_neg (by decide)] at hK
      refine z_bt rfl (z_ixi hk (by decide) (z_br (fun g => z_ixi hk (by decide) (z_ixi hk (by decide) (z_ixi hk (by decide) ?_))) (fun g => z_ixi hk (by decide) (z_ixi hk (by decide) (z_ixi hk (by decide) ?_)))))
      · obtain ⟨F, s0, -⟩ := st 0 (-y)
        exact hK _ F (s0 rfl)
      · obtain ⟨F, s0, -⟩ := st 0 y
        exact hK _ F (s0 rfl)
    | true =>
      rw [if_pos rfl] at hK
      refine z_bf (by decide) (z_ixi hk (by decide) (z_br (fun g => z_ixi hk (by decide) (z_ixi hk (by decide) (z_ixi hk (by decide) ?_))) (fun g => z_ixi hk (by decide) (z_ixi hk (by decide) (z_ixi hk (by decide) ?_)))))
      · obtain ⟨F, -, s1⟩ := st 1 (-y)
        rw [if_pos g] at hK
        exact hK _ F (s1 rfl)
      · obtain ⟨F, -, s1⟩ := st 1 y
        rw [if_neg g] at hK
        exact hK _ F (s1 rfl)
  have q03 : ∀ a, a ≤ 300 → (qb (q_13003 (nI a) (nI 1) (nI 9)) = true) = (1 ≤ a ∧ a ≤ 9) := fun a ha => by
    have h : ((List.range 301).all fun a => qb (q_13003 (nI a) (nI 1) (nI 9)) == decide (1 ≤ a ∧ a ≤ 9)) = true := by decide +kernel
    rw [eq_of_beq (List.all_eq_true.mp h a (List.mem_range.mpr (by omega)))]
    exact propext decide_eq_true_iff
  -- from the first character on
  have go : ∀ fr, fr = rv_fr v → m_reads_51 Gm (d + 1) (nI k) (nI fr) (bI (qb (q_13003 (nI (rv_l v - fr)) (nI 1) (nI 9)))) (nI 0) (nI fr) f K := fun fr hfr => by
    have hfl := rv_frl (v := v)
    by_cases h9 : 1 ≤ rv_l v - fr ∧ rv_l v - fr ≤ 9
    · have hb : qb (q_13003 (nI (rv_l v - fr)) (nI 1) (nI 9)) = true := by rw [q03 _ (by omega)]; exact h9
      rw [hb]
      refine p_rd51 (fr := fr) hM hk hd hv ov tv (fun b y he => by rw [hfr]; exact fin b y he) (m := rv_l v - fr) (q := fr) (by omega) ?_
      unfold rv_rn
      rw [← hfr, if_pos h9]
    · have hb : qb (q_13003 (nI (rv_l v - fr)) (nI 1) (nI 9)) = false := Bool.eq_false_iff.mpr (fun g => h9 (by rw [q03 _ (by omega)] at g; exact g))
      rw [hb]
      have he : (false, nI 0) = rv_rn v := by
        unfold rv_rn
        rw [← hfr, if_neg h9]
      have hfin := fin false (nI 0) he
      rw [← hfr] at hfin
      refine w_m_reads_51 hM (by omega) (z_ixi hk (by decide) (z_br (fun _ => hfin) (fun _ => z_bt rfl hfin)))
  refine w_m_reads hM (by omega) (z_ixi hk (by decide) ?_)
  rw [hv.2.1, z_le (by omega) (by decide)]
  refine z_br (fun g => z_ixi hk (by decide) ?_) (fun g => ?_)
  · have hf0 : rv_fr v = 0 := by unfold rv_fr; rw [if_neg (fun q => q.1 (by omega))]
    have h := go 0 hf0.symm
    rw [hv.2.1, z_sub (by omega)]
    exact h
  · rw [z_mul]
    refine z_ixi (by omega) (by decide) ?_
    rw [show f 1732 (300 * k) = nI (rv_c v 0) from hv.2.2.2.2.2 tv 0 (by omega), z_eq (by have := hc 0 (by omega); omega) (by decide)]
    refine z_br (fun g1 => z_ixi hk (by decide) ?_) (fun g1 => z_ixi hk (by decide) ?_)
    · have hf1 : rv_fr v = 1 := by unfold rv_fr; rw [if_pos ⟨by omega, g1⟩]
      have h := go 1 hf1.symm
      rw [hv.2.1, z_sub (by omega)]
      exact h
    · have hf0 : rv_fr v = 0 := by unfold rv_fr; rw [if_neg (fun q => g1 q.2)]
      have h := go 0 hf0.symm
      rw [hv.2.1, z_sub (by omega)]
      exact h
end MN
