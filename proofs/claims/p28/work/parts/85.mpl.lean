/-! RENDERING: the model's values at places -/
/-- one row of characters behind another -/
def rv_ap (n : Nat) (c e : Nat → Nat) : Nat → Nat := fun j => if j < n then c j else e (j - n)
theorem rv_ap1 {n j : Nat} {c e : Nat → Nat} (h : j < n) : rv_ap n c e j = c j := if_pos h
theorem rv_ap2 {n j : Nat} {c e : Nat → Nat} : rv_ap n c e (n + j) = e j := by
  unfold rv_ap
  rw [if_neg (by omega), Nat.add_sub_cancel_left]
/-- the data, as the model has it -/
def md (f : mm_F) (D : Nat → rv) (I : Nat → Nat → rv) : Prop := ∀ l, l < 26 → rv_ok (D l) ∧ f 1720 l = nI (rv_t (D l)) ∧ (rv_t (D l) = 1 → f 1721 l = rv_n (D l)) ∧ (2 ≤ rv_t (D l) → f 1722 l = nI (rv_l (D l))) ∧ (rv_t (D l) = 2 → rv_s (D l) = false ∧ rv_l (D l) ≤ 40 ∧ ∀ j, j < rv_l (D l) → f 1723 (40 * l + j) = nI (rv_c (D l) j)) ∧
  (rv_t (D l) = 3 → rv_d (D l) = l ∧ ∀ k, k < rv_l (D l) → rv_ok (I l k) ∧ f 1724 (8 * l + k) = nI (rv_t (I l k)) ∧ (rv_t (I l k) = 1 ∨ (rv_t (I l k) = 2 ∧ rv_s (I l k) = false ∧ rv_l (I l k) ≤ 40)) ∧ (rv_t (I l k) = 1 → f 1725 (8 * l + k) = rv_n (I l k)) ∧ (rv_t (I l k) = 2 → f 1726 (8 * l + k) = nI (rv_l (I l k)) ∧ ∀ j, j < rv_l (I l k) → f 1727 (40 * (8 * l + k) + j) = nI (rv_c (I l k) j)))
section MP
variable {Gm : mj_G} {D : Nat → rv} {I : Nat → Nat → rv} {f : mm_F} {d k i : Nat} {v w : rv} {x : Int32}
theorem mq_cg {n : Nat} {c e : Nat → Nat} {s : Bool} (h : mv f k (rv_T n c s)) (he : ∀ j, j < n → c j = e j) : mv f k (rv_T n e s) := ⟨h.1, h.2.1, h.2.2.1, h.2.2.2.1, h.2.2.2.2.1, fun q j hj => (h.2.2.2.2.2 q j hj).trans (by show nI (c j) = nI (e j); rw [he j hj])⟩
theorem mq_md {P S R : Nat → Prop} {f' : mm_F} (h : md f D I) (hF : mw P S R f f') (hR : ∀ a, R a → ¬ (1720 ≤ a ∧ a ≤ 1727)) : md f' D I := fun l hl => by
  have e : ∀ a i, 1720 ≤ a → a ≤ 1727 → f' a i = f a i := fun a i p q => hF.1 a i (by omega) (by omega) (fun r => hR a r ⟨p, q⟩)
  obtain ⟨h0, h1, h2, h3, h4, h5⟩ := h l hl
  refine ⟨h0, (e _ _ (by decide) (by decide)).trans h1, fun q => (e _ _ (by decide) (by decide)).trans (h2 q), fun q => (e _ _ (by decide) (by decide)).trans (h3 q), fun q => ⟨(h4 q).1, (h4 q).2.1, fun j hj => (e _ _ (by decide) (by decide)).trans ((h4 q).2.2 j hj)⟩, fun q => ⟨(h5 q).1, fun k hk => ?_⟩⟩
  obtain ⟨g1, g2, g3, g4, g5⟩ := (h5 q).2 k hk
  exact ⟨g1, (e _ _ (by decide) (by decide)).trans g2, g3, fun r => (e _ _ (by decide) (by decide)).trans (g4 r), fun r => ⟨(e _ _ (by decide) (by decide)).trans (g5 r).1, fun j hj => (e _ _ (by decide) (by decide)).trans ((g5 r).2 j hj)⟩⟩
/-- a place is taken -/
theorem p_takesPlace {fr t : Nat} {K : Int32 → mm_F → Prop} (hM : mm_S Gm) (h21 : f 1714 21 = nI fr) (hfr : fr < 380) (hK : ∀ f', mw (fun j => j = fr) (fun j => j = 21) no_R f f' → f' 1714 21 = nI (fr + 1) → f' 1728 fr = nI t → f' 1729 fr = nI 0 → f' 1730 fr = nI 0 → f' 1731 fr = nI 1 → K (nI fr) f') : m_takesPlace Gm d (nI t) f K := by
  refine w_m_takesPlace hM ?_
  rw [h21]
  refine z_ixi hfr (by decide) ?_
  rw [show (mj_u2 f 1728 fr (nI t)) 1714 21 = nI fr from (z_u2n (by decide)).trans h21]
  refine z_ixi hfr (by decide) ?_
  rw [show (mj_u2 (mj_u2 f 1728 fr (nI t)) 1729 fr (nI 0)) 1714 21 = nI fr from (z_u2n (by decide)).trans ((z_u2n (by decide)).trans h21)]
  refine z_ixi hfr (by decide) ?_
  rw [show (mj_u2 (mj_u2 (mj_u2 f 1728 fr (nI t)) 1729 fr (nI 0)) 1730 fr (nI 0)) 1714 21 = nI fr from (z_u2n (by decide)).trans ((z_u2n (by decide)).trans ((z_u2n (by decide)).trans h21))]
  refine z_ixi hfr (by decide) ?_
  rw [show (mj_u2 (mj_u2 (mj_u2 (mj_u2 f 1728 fr (nI t)) 1729 fr (nI 0)) 1730 fr (nI 0)) 1731 fr (nI 1)) 1714 21 = nI fr from (z_u2n (by decide)).trans ((z_u2n (by decide)).trans ((z_u2n (by decide)).trans ((z_u2n (by decide)).trans h21))), z_add, z_u2s, z_sub (by omega), Nat.add_sub_cancel]
  refine hK _ (mw_t (mw_P (by decide) rfl) (mw_t (mw_P (by decide) rfl) (mw_t (mw_P (by decide) rfl) (mw_t (mw_P (by decide) rfl) (mw_S rfl))))) z_u2s ?_ ?_ ?_ ?_
  · exact (z_u2n (by decide)).trans ((z_u2n (by decide)).trans ((z_u2n (by decide)).trans ((z_u2n (by decide)).trans z_u2s)))
  · exact (z_u2n (by decide)).trans ((z_u2n (by decide)).trans ((z_u2n (by decide)).trans z_u2s))
  · exact (z_u2n (by decide)).trans ((z_u2n (by decide)).trans z_u2s)
  · exact (z_u2n (by decide)).trans z_u2s
/-- a character behind a text -/
theorem p_adds {c n : Nat} {ch : Nat → Nat} {s : Bool} {K : mm_F → Prop} (hM : mm_S Gm) (hk : k < 380) (hv : mv f k (rv_T n ch s)) (hn : n ≤ 300) (h1 : n < 300 → ∀ f', mw (fun j => j = k) no_R no_R f f' → mv f' k (rv_T (n + 1) (rv_ap n ch (fun _ => c)) s) → K f') (h2 : n = 300 → K (mj_u2 f 1714 70 (Int32.ofInt (-10)))) : m_adds Gm d (nI k) (nI c) f K := by
  have e : f 1730 k = nI n := hv.2.1
  refine w_m_adds hM (z_ixi hk (by decide) ?_)
  rw [e, z_eq (by omega) (by decide)]
  refine z_br h2 (fun q => z_ixi hk (by decide) ?_)
  rw [z_mul, e, z_add]
  refine z_ixi (by omega) (by decide) (z_ixi hk (by decide) (z_ixi hk (by decide) ?_))
  rw [show (mj_u2 f 1732 (300 * k + n) (nI c)) 1730 k = nI n from (z_u2n (by decide)).trans e, z_add]
  refine h1 (by omega) _ (mw_t (mw_C (show (300 * k + n) / 300 = k by omega)) (mw_P (by decide) rfl)) ⟨?_, z_u2s, ?_, fun q => absurd q (by show ¬ 2 = 1; omega), fun q => absurd q (by show ¬ 2 = 3; omega), fun _ j hj => ?_⟩
  · exact (z_u2n (by decide)).trans ((z_u2n (by decide)).trans hv.1)
  · exact (z_u2n (by decide)).trans ((z_u2n (by decide)).trans hv.2.2.1)
  · have hj' : j < n + 1 := hj
    refine (z_u2n (by decide)).trans ?_
    show mj_u2 f 1732 (300 * k + n) (nI c) 1732 (300 * k + j) = nI (rv_ap n ch (fun _ => c) j)
    by_cases hjn : j = n
    · rw [hjn, z_u2s]
      unfold rv_ap
      rw [if_neg (Nat.lt_irrefl n)]
    · rw [rv_ap1 (by omega)]
      exact (z_u2m (by omega)).trans (hv.2.2.2.2.2 rfl j (by show j < n; omega))
/-- a text that is full -/
def p_w (f : mm_F) (k : Nat) : Prop := f 1730 k = nI 300 ∧ mj_b (f 1731 k)
theorem p_ww {n : Nat} {c : Nat → Nat} {s : Bool} (h : mv f k (rv_T n c s)) (hn : n = 300) : p_w f k := ⟨h.2.1.trans (by show nI n = _; rw [hn]), by rw [h.2.2.1]; exact bI_b _⟩
theorem p_w70 {y : Int32} (h : p_w f k) : p_w (mj_u2 f 1714 70 y) k := ⟨(z_u2n (by decide)).trans h.1, by rw [show mj_u2 f 1714 70 y 1731 k = f 1731 k from z_u2n (by decide)]; exact h.2⟩
theorem p_w31 (h : p_w f k) (y : Int32) (hy : mj_b y) : p_w (mj_u2 f 1731 k y) k := ⟨(z_u2n (by decide)).trans h.1, by rw [z_u2s]; exact hy⟩
theorem p_dig49 {r : Nat} {s : Bool} {K : mm_F → Prop} (hM : mm_S Gm) (hk : k < 380) (hr : r ≤ 2147483648) : ∀ {m n : Nat} {ch : Nat → Nat} {f : mm_F}, m ≤ 10 → n ≤ 300 → mv f k (rv_T n ch s) → f 1714 70 = nI 0 →
    (n + m ≤ 300 → ∀ f', mw (fun j => j = k) no_R no_R f f' → mv f' k (rv_T (n + m) (rv_ap n ch (fun j => 48 + r / 10 ^ (m - 1 - j) % 10)) s) → K f') → (300 < n + m → ∀ f', mw (fun j => j = k) (fun j => j = 70) no_R f f' → f' 1714 70 = Int32.ofInt (-10) → p_w f' k → K f') → m_addsDigits_49 Gm (d + 1) (nI k) (lN r) (if m = 0 then lN 0 else lN (10 ^ (m - 1))) f K
  | 0, n, ch, f, hm, hn, hv, h70, h1, h2 => by
    rw [if_pos rfl]
    exact w_m_addsDigits_49 hM (z_bt (by rw [z_cle (by decide) (by decide)]; exact Nat.le_refl _) (h1 hn f mw_r (mq_cg hv (fun j hj => (rv_ap1 hj).symm))))
  | m + 1, n, ch, f, hm, hn, hv, h70, h1, h2 => by
    have hb : 10 ^ m ≤ 10 ^ 10 := z_pow (by omega)
    have hb' : (10 : Nat) ^ 10 = 10000000000 := by decide
    have hp : 0 < 10 ^ m := Nat.pos_of_ne_zero (by intro q; have := Nat.pow_eq_zero.mp q; omega)
    rw [if_neg (by omega), show m + 1 - 1 = m from rfl]
    have hnz : ¬ lN (10 ^ m) = lN 0 := fun q => by
      rw [pk_lEQ (by omega) (by decide)] at q
      omega
    have hrd : r / 10 ^ m ≤ r := Nat.div_le_self _ _
    refine w_m_addsDigits_49 hM (z_bf (by rw [z_cle (by omega) (by decide)]; omega) (z_bt h70 ⟨hnz, ?_⟩))
    rw [show lN r / lN (10 ^ m) = lN (r / 10 ^ m) from pk_lDiv (by omega) hp (by omega), z_dig (by omega), show lN (10 ^ m) / lN 10 = (if m = 0 then lN 0 else lN (10 ^ (m - 1))) from by
      rw [z_d10 (by omega)]
      cases m with
      | zero => rfl
      | succ m => rw [if_neg (by omega), Nat.pow_succ, Nat.mul_div_cancel _ (by decide)]; rfl]
    refine p_adds hM hk hv hn (fun q f1 F1 v1 => ?_) (fun q => ?_)
    · refine p_dig49 hM hk hr (m := m) (n := n + 1) (by omega) (by omega) v1 ((F1.2.1 70 (fun q => q)).trans h70) (fun q2 f2 F2 v2 => h1 (by omega) f2 (mw_t F1 F2) ?_) (fun q2 f2 F2 e2 e3 => h2 (by omega) f2 (mw_t (mw_m F1 (fun _ q => q) (fun _ q => q.elim) (fun _ q => q)) F2) e2 e3)
      rw [show n + (m + 1) = n + 1 + m by omega]
      refine mq_cg v2 (fun j hj => ?_)
      by_cases hj1 : j < n
      · rw [rv_ap1 (by omega), rv_ap1 hj1, rv_ap1 hj1]
      · by_cases hj2 : j = n
        · subst hj2
          rw [rv_ap1 (by omega)]
          unfold rv_ap
          rw [if_neg (Nat.lt_irrefl _), if_neg (Nat.lt_irrefl _), Nat.sub_self]
          rfl
        · obtain ⟨i, rfl⟩ : ∃ i, j = n + 1 + i := ⟨j - (n + 1), by omega⟩
          rw [rv_ap2, show n + 1 + i = n + (1 + i) by omega, rv_ap2, show m + 1 - 1 - (1 + i) = m - 1 - i by omega]
    · have z70 : mj_u2 f 1714 70 (Int32.ofInt (-10)) 1714 70 = Int32.ofInt (-10) := z_u2s
      have go : m_addsDigits_49 Gm (d + 1) (nI k) (lN r) (if m = 0 then lN 0 else lN (10 ^ (m - 1))) (mj_u2 f 1714 70 (Int32.ofInt (-10))) K := by
        refine w_m_addsDigits_49 hM ?_
        rw [z70]
        have hKK := h2 (by omega) _ (mw_S rfl) z70 (p_w70 (p_ww hv (by omega)))
        exact z_br (fun _ => hKK) (fun _ => z_bf (by decide) hKK)
      exact go
/-- digits behind a text -/
theorem p_addsDigits {n : Nat} {ch : Nat → Nat} {s : Bool} {K : mm_F → Prop} (hM : mm_S Gm) (hk : k < 380) (hn : n ≤ 300) (hv : mv f k (rv_T n ch s)) (h70 : f 1714 70 = nI 0) (h1 : n + dg_l x ≤ 300 → ∀ f', mw (fun j => j = k) no_R no_R f f' → mv f' k (rv_T (n + dg_l x) (rv_ap n ch (dg_c x)) s) → K f')
    (h2 : 300 < n + dg_l x → ∀ f', mw (fun j => j = k) (fun j => j = 70) no_R f f' → f' 1714 70 = Int32.ofInt (-10) → p_w f' k → K f') : m_addsDigits Gm (d + 1) (nI k) x f K := by
  have hb' : (10 : Nat) ^ 10 = 10000000000 := by decide
  -- up to the first power
  have up : ∀ (r : Nat) (f : mm_F), r ≤ 2147483648 → m_addsDigits_49 Gm (d + 1) (nI k) (lN r) (lN (10 ^ (dg_n r - 1))) f K → ∀ m i, i + m = dg_n r - 1 → m_addsDigits_27 Gm (d + 1) (nI k) (lN r) (lN (10 ^ i)) f K := fun r f hr h m => by
    obtain ⟨a1, a2, a3, a4⟩ := dg_n_ok hr
    induction m with
    | zero =>
      intro i hi
      have hb : 10 ^ i ≤ 10 ^ 10 := z_pow (by omega)
      have hp : 0 < 10 ^ i := Nat.pos_of_ne_zero (by intro q; have := Nat.pow_eq_zero.mp q; omega)
      have hrd : r / 10 ^ i ≤ r := Nat.div_le_self _ _
      refine w_m_addsDigits_27 hM ⟨fun q => ?_, ?_⟩
      · rw [pk_lEQ (by omega) (by decide)] at q; omega
      rw [show lN r / lN (10 ^ i) = lN (r / 10 ^ i) from pk_lDiv (by omega) hp (by omega), z_clt (by omega) (by decide)]
      refine z_bt ?_ (by rw [show i = dg_n r - 1 from hi]; exact h)
      rw [Nat.div_lt_iff_lt_mul hp]
      have : 10 * 10 ^ i = 10 ^ dg_n r := by rw [Nat.mul_comm, ← Nat.pow_succ, show i.succ = dg_n r by omega]
      rw [this]; exact a3
    | succ m ih =>
      intro i hi
      have hb : 10 ^ i ≤ 10 ^ 10 := z_pow (by omega)
      have hp : 0 < 10 ^ i := Nat.pos_of_ne_zero (by intro q; have := Nat.pow_eq_zero.mp q; omega)
      have hrd : r / 10 ^ i ≤ r := Nat.div_le_self _ _
      refine w_m_addsDigits_27 hM ⟨fun q => ?_, ?_⟩
      · rw [pk_lEQ (by omega) (by decide)] at q; omega
      rw [show lN r / lN (10 ^ i) = lN (r / 10 ^ i) from pk_lDiv (by omega) hp (by omega), z_clt (by omega) (by decide)]
      refine z_bf (fun q => ?_) ?_
      · rw [Nat.div_lt_iff_lt_mul hp] at q
        have h10 : 10 * 10 ^ i = 10 ^ (i + 1) := by rw [Nat.mul_comm, ← Nat.pow_succ]
        rw [h10] at q
        have hle : 10 ^ (i + 1) ≤ 10 ^ (dg_n r - 1) := z_pow (by omega)
        rcases a4 with a4 | a4 <;> omega
      · rw [lN_mul, ← Nat.pow_succ]
        exact ih (i + 1) (by omega)
  refine w_m_addsDigits hM ?_
  by_cases hx : x < 0
  · obtain ⟨r, r1, r2, r3, r4⟩ := z_ng hx
    have hrx : dg_r x = r := by unfold dg_r; omega
    obtain ⟨a1, a2, a3, a4⟩ := dg_n_ok r2
    have hlx : dg_l x = 1 + dg_n r := by unfold dg_l; rw [if_pos hx, hrx]; omega
    have hx' : ¬ nI 0 ≤ x := fun q' => by
      rw [Int32.le_iff_toInt_le] at q'
      rw [Int32.lt_iff_toInt_lt] at hx
      exact absurd hx (Int.not_lt.mpr q')
    have pos1 : (10 : Nat) ^ 0 = 1 := rfl
    refine z_bf hx' (z_bf hx' ?_)
    rw [r3]
    refine p_adds hM hk hv hn (fun q f1 F1 v1 => ?_) (fun q => ?_)
    · have h := p_dig49 (d := d) (s := s) (K := K) hM hk r2 (m := dg_n r) (n := n + 1) a2 (by omega) v1 ((F1.2.1 70 (fun q => q)).trans h70) (fun q2 f2 F2 v2 => h1 (by omega) f2 (mw_t F1 F2) ?_) (fun q2 f2 F2 e2 e3 => h2 (by omega) f2 (mw_t (mw_m F1 (fun _ q => q) (fun _ q => q.elim) (fun _ q => q)) F2) e2 e3)
      · rw [if_neg (by omega)] at h
        have := up r f1 r2 h (dg_n r - 1) 0 (by omega)
        rw [pos1] at this
        exact this
      · rw [hlx, show n + (1 + dg_n r) = n + 1 + dg_n r by omega]
        refine mq_cg v2 (fun j hj => ?_)
        by_cases hj1 : j < n
        · rw [rv_ap1 (by omega), rv_ap1 hj1, rv_ap1 hj1]
        · by_cases hj2 : j = n
          · subst hj2
            rw [rv_ap1 (by omega)]
            unfold rv_ap
            rw [if_neg (Nat.lt_irrefl _), if_neg (Nat.lt_irrefl _), Nat.sub_self]
            unfold dg_c
            rw [if_pos ⟨hx, rfl⟩]
          · obtain ⟨i, rfl⟩ : ∃ i, j = n + 1 + i := ⟨j - (n + 1), by omega⟩
            rw [rv_ap2, show n + 1 + i = n + (1 + i) by omega, rv_ap2]
            unfold dg_c
            rw [if_neg (fun q => absurd q.2 (by omega)), hlx, hrx, show 1 + dg_n r - 1 - (1 + i) = dg_n r - 1 - i by omega]
    · have z70 : mj_u2 f 1714 70 (Int32.ofInt (-10)) 1714 70 = Int32.ofInt (-10) := z_u2s
      have h49 : m_addsDigits_49 Gm (d + 1) (nI k) (lN r) (lN (10 ^ (dg_n r - 1))) (mj_u2 f 1714 70 (Int32.ofInt (-10))) K := by
        refine w_m_addsDigits_49 hM ?_
        rw [z70]
        have hKK := h2 (by omega) _ (mw_S rfl) z70 (p_w70 (p_ww hv (by omega)))
        exact z_br (fun _ => hKK) (fun _ => z_bf (by decide) hKK)
      have := up r _ r2 h49 (dg_n r - 1) 0 (by omega)
      rw [pos1] at this
      exact this
  · obtain ⟨j, hj2, rfl⟩ := nI_of hx
    have hrx : dg_r (nI j) = j := by
      unfold dg_r
      rw [nI_toInt hj2]
      omega
    obtain ⟨a1, a2, a3, a4⟩ := dg_n_ok (r := j) (by omega)
    have hlx : dg_l (nI j) = dg_n j := by unfold dg_l; rw [if_neg hx, hrx]; rfl
    have hx' : nI 0 ≤ nI j := by rw [z_le (by decide) hj2]; exact Nat.zero_le _
    refine z_bt hx' (z_bt hx' ?_)
    rw [nI_l hj2]
    have h := p_dig49 (d := d) (s := s) (K := K) hM hk (r := j) (by omega) (m := dg_n j) (n := n) a2 hn hv h70 (fun q2 f2 F2 v2 => h1 (by omega) f2 F2 ?_) (fun q2 f2 F2 e2 e3 => h2 (by omega) f2 F2 e2 e3)
    · rw [if_neg (by omega)] at h
      exact up j f (by omega) h (dg_n j - 1) 0 (by omega)
    · rw [hlx]
      refine mq_cg v2 (fun i hi => ?_)
      by_cases hj1 : i < n
      · rw [rv_ap1 hj1, rv_ap1 hj1]
      · obtain ⟨t, rfl⟩ : ∃ t, i = n + t := ⟨i - n, by omega⟩
        rw [rv_ap2, rv_ap2]
        unfold dg_c
        rw [if_neg (fun q => hx q.1), hlx, hrx]
/-- a value from place to place -/
theorem p_mv50 {j : Nat} {K : mm_F → Prop} (hM : mm_S Gm) (hi : i < 380) (hj : j < 380) (hij : i ≠ j) (hv : mv f i v) (hok : rv_ok v) (ht : rv_t v = 2) (hK : ∀ f', mw (fun q => q = j) no_R no_R f f' → (∀ a q, a ≠ 1732 → f' a q = f a q) → (∀ q, q < rv_l v → f' 1732 (300 * j + q) = nI (rv_c v q)) → K f') :
    ∀ {m q : Nat} {f1 : mm_F}, q + m = rv_l v → mw (fun q => q = j) no_R no_R f f1 → (∀ a q, a ≠ 1732 → f1 a q = f a q) → (∀ p, p < q → f1 1732 (300 * j + p) = nI (rv_c v p)) → m_moves_50 Gm d (nI i) (nI j) (nI q) f1 K
  | 0, q, f1, hq, F, e, hc => by
    have hn := (hok.2.2.2.1 ht).1
    refine w_m_moves_50 hM (z_ixi hi (by decide) ?_)
    rw [e 1730 i (by decide), hv.2.1, z_le (by omega) (by omega)]
    exact z_bt (by omega) (hK f1 F e (fun p hp => hc p (by omega)))
  | m + 1, q, f1, hq, F, e, hc => by
    have hn := (hok.2.2.2.1 ht).1
    have hvi : mv f1 i v := mq_st hv F (fun q => hij q) hok
    refine w_m_moves_50 hM (z_ixi hi (by decide) ?_)
    rw [hvi.2.1, z_le (by omega) (by omega)]
    refine z_bf (by omega) (z_ixi hi (by decide) ?_)
    rw [hvi.1, ht]
    refine z_bt rfl ?_
    rw [z_mul, z_add, z_mul, z_add, z_add]
    refine z_ixi (by omega) (by decide) (z_ixi (by omega) (by decide) ?_)
    rw [hvi.2.2.2.2.2 ht q (by omega)]
    refine p_mv50 hM hi hj hij hv hok ht hK (m := m) (q := q + 1) (by omega) (mw_t F (mw_C (show (300 * j + q) / 300 = j by omega))) (fun a p ha => (z_u2n ha).trans (e a p ha)) (fun p hp => ?_)
    by_cases hpq : p = q
    · rw [hpq, z_u2s]
    · exact (z_u2m (by omega)).trans (hc p (by omega))
theorem p_moves {j : Nat} {K : mm_F → Prop} (hM : mm_S Gm) (hi : i < 380) (hj : j < 380) (hij : i ≠ j) (hv : mv f i v) (hok : rv_ok v) (hK : ∀ f', mw (fun q => q = j) no_R no_R f f' → mv f' j v → K f') : m_moves Gm d (nI i) (nI j) f K := by
  refine w_m_moves hM (z_ixi hi (by decide) (z_ixi hj (by decide) (z_ixi hi (by decide) (z_ixi hj (by decide) (z_ixi hi (by decide) (z_ixi hj (by decide) (z_ixi hi (by decide) (z_ixi hj (by decide) ?_))))))))
  have e1 : (mj_u2 f 1728 j (f 1728 i)) 1729 i = f 1729 i := z_u2n (by decide)
  rw [e1]
  have e2 : (mj_u2 (mj_u2 f 1728 j (f 1728 i)) 1729 j (f 1729 i)) 1730 i = f 1730 i := (z_u2n (by decide)).trans (z_u2n (by decide))
  rw [e2]
  have e3 : (mj_u2 (mj_u2 (mj_u2 f 1728 j (f 1728 i)) 1729 j (f 1729 i)) 1730 j (f 1730 i)) 1731 i = f 1731 i := (z_u2n (by decide)).trans ((z_u2n (by decide)).trans (z_u2n (by decide)))
  rw [e3]
  refine ⟨by rw [hv.2.2.1]; exact bI_b _, ?_⟩
  have F : mw (fun q => q = j) no_R no_R f (mj_u2 (mj_u2 (mj_u2 (mj_u2 f 1728 j (f 1728 i)) 1729 j (f 1729 i)) 1730 j (f 1730 i)) 1731 j (f 1731 i)) := mw_t (mw_P (by decide) rfl) (mw_t (mw_P (by decide) rfl) (mw_t (mw_P (by decide) rfl) (mw_P (by decide) rfl)))
  have g8 : (mj_u2 (mj_u2 (mj_u2 (mj_u2 f 1728 j (f 1728 i)) 1729 j (f 1729 i)) 1730 j (f 1730 i)) 1731 j (f 1731 i)) 1728 j = f 1728 i := (z_u2n (by decide)).trans ((z_u2n (by decide)).trans ((z_u2n (by decide)).trans z_u2s))
  have g9 : (mj_u2 (mj_u2 (mj_u2 (mj_u2 f 1728 j (f 1728 i)) 1729 j (f 1729 i)) 1730 j (f 1730 i)) 1731 j (f 1731 i)) 1729 j = f 1729 i := (z_u2n (by decide)).trans ((z_u2n (by decide)).trans z_u2s)
  have g0 : (mj_u2 (mj_u2 (mj_u2 (mj_u2 f 1728 j (f 1728 i)) 1729 j (f 1729 i)) 1730 j (f 1730 i)) 1731 j (f 1731 i)) 1730 j = f 1730 i := (z_u2n (by decide)).trans z_u2s
  have g1 : (mj_u2 (mj_u2 (mj_u2 (mj_u2 f 1728 j (f 1728 i)) 1729 j (f 1729 i)) 1730 j (f 1730 i)) 1731 j (f 1731 i)) 1731 j = f 1731 i := z_u2s
  generalize mj_u2 (mj_u2 (mj_u2 (mj_u2 f 1728 j (f 1728 i)) 1729 j (f 1729 i)) 1730 j (f 1730 i)) 1731 j (f 1731 i) = f1 at F g8 g9 g0 g1 ⊢
  have hvi : mv f1 i v := mq_st hv F (fun q => hij q) hok
  by_cases ht : rv_t v = 2
  · refine p_mv50 (f := f1) hM hi hj hij hvi hok ht (fun f' F' e hc => hK f' (mw_t F F') ⟨(e _ _ (by decide)).trans (g8.trans hv.1), (e _ _ (by decide)).trans (g0.trans hv.2.1), (e _ _ (by decide)).trans (g1.trans hv.2.2.1), fun q => absurd q (by omega), fun q => absurd q (by omega), fun _ => hc⟩) (m := rv_l v) (q := 0) (by omega) mw_r (fun _ _ _ => rfl) (fun p hp => absurd hp (by omega))
  · have hlb : rv_l v ≤ 300 := by
      have h3 := hok.1
      by_cases h1 : rv_t v ≤ 1
      · rw [hok.2.1 h1]; decide
      · have := (hok.2.2.2.2 (by omega)).1
        omega
    have fin : K f1 := hK f1 F ⟨g8.trans hv.1, g0.trans hv.2.1, g1.trans hv.2.2.1, fun q => g9.trans (hv.2.2.2.1 q), fun q => g9.trans (hv.2.2.2.2.1 q), fun q => absurd q ht⟩
    refine w_m_moves_50 hM (z_ixi hi (by decide) (z_br (fun _ => fin) (fun _ => z_ixi hi (by decide) ?_)))
    rw [hvi.1, z_eq (by have := hok.1; omega) (by decide)]
    exact z_bf ht fin
theorem p_becomes {b : Bool} {K : mm_F → Prop} (hM : mm_S Gm) (hk : k < 380) (hK : ∀ f', mw (fun q => q = k) no_R no_R f f' → mv f' k (rv_N (bI b)) → K f') : m_becomes Gm d (nI k) (bI b) f K := by
  have go : ∀ (y : Int32), y = bI b → K (mj_u2 (mj_u2 (mj_u2 (mj_u2 f 1728 k (nI 1)) 1729 k y) 1730 k (nI 0)) 1731 k (nI 1)) := fun y hy => hK _ (mw_t (mw_P (by decide) rfl) (mw_t (mw_P (by decide) rfl) (mw_t (mw_P (by decide) rfl) (mw_P (by decide) rfl)))) ⟨(z_u2n (by decide)).trans ((z_u2n (by decide)).trans ((z_u2n (by decide)).trans z_u2s)), (z_u2n (by decide)).trans z_u2s, z_u2s, fun _ => (z_u2n (by decide)).trans ((z_u2n (by decide)).trans (z_u2s.trans hy)), fun q => absurd q (by show ¬ 1 = 3; omega), fun q => absurd q (by show ¬ 1 = 2; omega)⟩
  refine w_m_becomes hM (z_ixi hk (by decide) ?_)
  cases b with
  | true => exact z_bf (by decide) (z_ixi hk (by decide) (z_ixi hk (by decide) (z_ixi hk (by decide) (go _ rfl))))
  | false => exact z_bt rfl (z_ixi hk (by decide) (z_ixi hk (by decide) (z_ixi hk (by decide) (go _ rfl))))
theorem p_isTrue {K : Bool → mm_F → Prop} (hM : mm_S Gm) (hk : k < 380) (hv : mv f k v) (hok : rv_ok v) (h1 : rv_tr v → K true f) (h2 : ¬ rv_tr v → K false f) : m_isTrue Gm d (nI k) f K := by
  have ht := hok.1
  unfold rv_tr at h1 h2
  refine w_m_isTrue hM (z_ixi hk (by decide) ?_)
  rw [hv.1, z_eq (by omega) (by decide)]
  refine z_br (fun q => z_ixi hk (by decide) ?_) (fun q => z_ixi hk (by decide) ?_)
  · rw [hv.2.2.2.1 q]
    exact z_br (fun q0 => h2 (fun q' => by rcases q' with q' | q'; exact q'.2 q0; omega)) (fun q0 => h1 (Or.inl ⟨q, q0⟩))
  · have hlb : rv_l v ≤ 300 := by
      by_cases h0 : rv_t v ≤ 1
      · rw [hok.2.1 h0]; decide
      · by_cases h2 : rv_t v = 2
        · exact (hok.2.2.2.1 h2).1
        · have := (hok.2.2.2.2 (by omega)).1
          omega
    rw [hv.2.1, z_le (by omega) (by decide)]
    refine z_br (fun q0 => h2 (fun q' => by rcases q' with q' | q' <;> omega)) (fun q0 => h1 (Or.inr ⟨?_, by omega⟩))
    apply Decidable.byContradiction
    intro hc
    have := hok.2.1 (by omega)
    omega
end MP
