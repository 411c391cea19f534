/-! RENDERING: the digits of a number, as both sides write them -/
theorem z_ng {x : Int32} (h : x < 0) : ∃ r, 1 ≤ r ∧ r ≤ 2147483648 ∧ -x.toInt64 = lN r ∧ x.toInt = -(r : Int) := by
  have h1 : x.toInt < 0 := by
    rw [Int32.lt_iff_toInt_lt] at h
    exact h
  have h2 : -2147483648 ≤ x.toInt := Int32.le_toInt x
  refine ⟨(-x.toInt).toNat, by omega, by omega, ?_, by omega⟩
  have h3 : x.toInt64 = -lN (-x.toInt).toNat := by
    apply Int64.toInt_inj.mp
    rw [Int32.toInt_toInt64]
    have := Int64.toInt_neg_ofNat_of_le (n := (-x.toInt).toNat) (by omega)
    show x.toInt = (-Int64.ofNat (-x.toInt).toNat).toInt
    rw [this]
    omega
  rw [h3, Int64.neg_neg]
def dg_n (r : Nat) : Nat := if r < 10 then 1 else if r < 100 then 2 else if r < 1000 then 3 else if r < 10000 then 4 else if r < 100000 then 5 else if r < 1000000 then 6 else if r < 10000000 then 7 else if r < 100000000 then 8 else if r < 1000000000 then 9 else 10
theorem dg_n_ok {r : Nat} (h : r ≤ 2147483648) : 1 ≤ dg_n r ∧ dg_n r ≤ 10 ∧ r < 10 ^ dg_n r ∧ (dg_n r = 1 ∨ 10 ^ (dg_n r - 1) ≤ r) := by
  unfold dg_n
  by_cases h1 : r < 10
  · rw [if_pos h1]; exact ⟨by omega, by omega, h1, Or.inl rfl⟩
  rw [if_neg h1]
  by_cases h2 : r < 100
  · rw [if_pos h2]; exact ⟨by omega, by omega, h2, Or.inr (by show 10 ≤ r; omega)⟩
  rw [if_neg h2]
  by_cases h3 : r < 1000
  · rw [if_pos h3]; exact ⟨by omega, by omega, h3, Or.inr (by show 100 ≤ r; omega)⟩
  rw [if_neg h3]
  by_cases h4 : r < 10000
  · rw [if_pos h4]; exact ⟨by omega, by omega, h4, Or.inr (by show 1000 ≤ r; omega)⟩
  rw [if_neg h4]
  by_cases h5 : r < 100000
  · rw [if_pos h5]; exact ⟨by omega, by omega, h5, Or.inr (by show 10000 ≤ r; omega)⟩
  rw [if_neg h5]
  by_cases h6 : r < 1000000
  · rw [if_pos h6]; exact ⟨by omega, by omega, h6, Or.inr (by show 100000 ≤ r; omega)⟩
  rw [if_neg h6]
  by_cases h7 : r < 10000000
  · rw [if_pos h7]; exact ⟨by omega, by omega, h7, Or.inr (by show 1000000 ≤ r; omega)⟩
  rw [if_neg h7]
  by_cases h8 : r < 100000000
  · rw [if_pos h8]; exact ⟨by omega, by omega, h8, Or.inr (by show 10000000 ≤ r; omega)⟩
  rw [if_neg h8]
  by_cases h9 : r < 1000000000
  · rw [if_pos h9]; exact ⟨by omega, by omega, h9, Or.inr (by show 100000000 ≤ r; omega)⟩
  rw [if_neg h9]
  exact ⟨by omega, by omega, (by show r < 10000000000; omega), Or.inr (by show 1000000000 ≤ r; omega)⟩
def dg_r (x : Int32) : Nat := x.toInt.natAbs
def dg_l (x : Int32) : Nat := dg_n (dg_r x) + (if x < 0 then 1 else 0)
def dg_c (x : Int32) (j : Nat) : Nat := if x < 0 ∧ j = 0 then 45 else 48 + dg_r x / 10 ^ (dg_l x - 1 - j) % 10
theorem dg_rl {x : Int32} : dg_r x ≤ 2147483648 := by
  have h1 : -2147483648 ≤ x.toInt := Int32.le_toInt x
  have h2 : x.toInt < 2147483648 := Int32.toInt_lt x
  unfold dg_r
  omega
theorem dg_ll (x : Int32) : 1 ≤ dg_l x ∧ dg_l x ≤ 11 := by
  have h := dg_n_ok (dg_rl (x := x))
  unfold dg_l
  by_cases hx : x < 0
  · rw [if_pos hx]; omega
  · rw [if_neg hx]; omega
theorem dg_cb (x : Int32) (j : Nat) : 32 ≤ dg_c x j ∧ dg_c x j ≤ 126 := by
  unfold dg_c
  by_cases hx : x < 0 ∧ j = 0
  · rw [if_pos hx]; omega
  · rw [if_neg hx]
    have := Nat.mod_lt (dg_r x / 10 ^ (dg_l x - 1 - j)) (by decide : 0 < 10)
    omega
-- longs that are small
theorem z_cgt {a b : Nat} (ha : a < 2 ^ 63) (hb : b < 2 ^ 63) : (nI 0 < lg_cmp (lN a) (lN b)) = (b < a) := propext ((lg_cmp_gt (lN a) (lN b)).trans (pk_lLT hb ha))
theorem z_clt {a b : Nat} (ha : a < 2 ^ 63) (hb : b < 2 ^ 63) : (lg_cmp (lN a) (lN b) < nI 0) = (a < b) := propext ((lg_cmp_lt (lN a) (lN b)).trans (pk_lLT ha hb))
theorem z_cle {a b : Nat} (ha : a < 2 ^ 63) (hb : b < 2 ^ 63) : (lg_cmp (lN a) (lN b) ≤ nI 0) = (a ≤ b) := propext ((lg_cmp_le (lN a) (lN b)).trans (pk_lLE ha hb))
theorem z_d10 {r : Nat} (h : r < 2 ^ 63) : lN r / lN 10 = lN (r / 10) := pk_lDiv h (by decide) (by decide)
theorem z_r10 {r : Nat} (h : r < 2 ^ 63) : mm_reml (lN r) (lN 10) = lN (r % 10) := pk_lRem h (by decide) (by decide)
theorem z_dig {r : Nat} (h : r < 2 ^ 63) : (lN 48 + mm_reml (lN r) (lN 10)).toInt32 = nI (48 + r % 10) := by
  rw [z_r10 h, lN_add, lN_i]
theorem z_chn {n : Nat} (h : n < 65536) : mm_ch (nI n) = nI n := by
  unfold mm_ch
  rw [pk_char, pk_tn (by omega), Nat.mod_eq_of_lt h]
theorem z_pow {a b : Nat} (h : a ≤ b) : 10 ^ a ≤ 10 ^ b := Nat.pow_le_pow_right (by decide) h
theorem z_dd {r a : Nat} : r / 10 / 10 ^ a = r / 10 ^ (a + 1) := by
  rw [Nat.div_div_eq_div_mul, Nat.pow_succ, Nat.mul_comm]
section DG
variable {ρ : Nat → Nat} {D : Nat → rv} {I : Nat → Nat → rv} {G : mj_G} {c d : Nat}
/-- the digits, from the last one on -/
theorem c_dig95 {x2 x5 : Int32} {K : Int32 → mj_G → Prop} {f : Nat} (hc3 : 3 ≤ c) (hna : ¬ imm ρ c) : ∀ {m r : Nat} {G : mj_G}, hh ρ D I G → mj_k G c = 22 → f + m ≤ mj_l G c → mj_l G c ≤ 1000 → r < 2 ^ 63 →
    (∀ G', hh ρ D I G' → fw ρ (fun o => o = ow ρ c) G G' → (∀ j, ¬ (f ≤ j ∧ j < f + m) → mj_i G' c j = mj_i G c j) → (∀ j, j < m → mj_i G' c (f + j) = nI (48 + r / 10 ^ (m - 1 - j) % 10)) → K (x2 + x5) G') → Tq_writeDigits_95 d c x2 (lN r) x5 (nI f) (nI (f + m) + Int32.ofInt (-1)) G K
  | 0, r, G, h, hk, hl, hl2, hr, hK => by
    refine w_Tq_writeDigits_95 h.1 (z_bt ?_ (hK G h fw_r (fun _ _ => rfl) (fun j hj => absurd hj (by omega))))
    cases f with
    | zero => decide
    | succ f =>
      rw [show nI (f + 1 + 0) + Int32.ofInt (-1) = nI f from pk_m1 f, z_lt (by omega) (by omega)]
      omega
  | m + 1, r, G, h, hk, hl, hl2, hr, hK => by
    have e : nI (f + (m + 1)) + Int32.ofInt (-1) = nI (f + m) := pk_m1 (f + m)
    rw [e]
    refine w_Tq_writeDigits_95 h.1 (z_bf (by rw [z_lt (by omega) (by omega)]; omega) ⟨hk, hc3, z_ixg (by omega) (by omega) ?_⟩)
    rintro _ rfl
    have hm := Nat.mod_lt r (by decide : 0 < 10)
    rw [z_dig hr, z_chn (by omega), z_d10 hr]
    refine c_dig95 hc3 hna (m := m) (r := r / 10) (hh_I h hna (fun _ q => absurd (hk.symm.trans q) (by decide))) hk (by show f + m ≤ mj_l G c; omega) hl2 (Nat.lt_of_le_of_lt (Nat.div_le_self _ _) hr) (fun G' h' F' i1 i2 => hK G' h' (fw_t (fw_I rfl) ro_r F') (fun j hj => ?_) (fun j hj => ?_))
    · rw [i1 j (by omega)]
      exact z_iIm (by omega)
    · by_cases hjm : j = m
      · rw [hjm, i1 (f + m) (by omega), z_iIs]
        rw [show m + 1 - 1 - m = 0 by omega, Nat.pow_zero, Nat.div_one]
      · rw [i2 j (by omega), z_dd, show m - 1 - j + 1 = m + 1 - 1 - j by omega]
/-- how many there are -/
theorem c_dig29 {x0 x2 : Int32} {K : Int32 → mj_G → Prop} {r sg : Nat} (hr : r ≤ 2147483648) (hsg : sg ≤ 1) (h : hh ρ D I G) (hK : Tq_writeDigits_29 d x0 c x2 (lN r) (nI (dg_n r + sg)) (lN (10 ^ dg_n r)) G K) : ∀ {m i : Nat}, i + m = dg_n r → 1 ≤ i → Tq_writeDigits_29 d x0 c x2 (lN r) (nI (i + sg)) (lN (10 ^ i)) G K
  | 0, i, hi, _ => by
    have : i = dg_n r := hi
    rw [this]; exact hK
  | m + 1, i, hi, h1 => by
    obtain ⟨a1, a2, a3, a4⟩ := dg_n_ok hr
    have hp : 10 ^ i ≤ 10 ^ (dg_n r - 1) := z_pow (by omega)
    have hb : 10 ^ i ≤ 10 ^ 10 := z_pow (by omega)
    have hb' : (10 : Nat) ^ 10 = 10000000000 := by decide
    refine w_Tq_writeDigits_29 h.1 (z_bf ?_ ?_)
    · rw [z_cgt (by omega) (by omega)]
      rcases a4 with a4 | a4 <;> omega
    · rw [lN_mul, ← Nat.pow_succ, z_add]
      have := c_dig29 (sg := sg) hr hsg h hK (m := m) (i := i + 1) (by omega) (by omega)
      rw [show i + sg + 1 = i + 1 + sg by omega]
      exact this
theorem c_writeDigits {x : Int32} {f : Nat} {K : Int32 → mj_G → Prop} (h : hh ρ D I G) (hc3 : 3 ≤ c) (hna : ¬ imm ρ c) (hk : mj_k G c = 22) (hl : f + dg_l x ≤ mj_l G c) (hl2 : mj_l G c ≤ 1000)
    (hK : ∀ G', hh ρ D I G' → fw ρ (fun o => o = ow ρ c) G G' → (∀ j, ¬ (f ≤ j ∧ j < f + dg_l x) → mj_i G' c j = mj_i G c j) → (∀ j, j < dg_l x → mj_i G' c (f + j) = nI (dg_c x j)) → K (nI (f + dg_l x)) G') : Tq_writeDigits d x c (nI f) G K := by
  have hll := dg_ll x
  have hb' : (10 : Nat) ^ 10 = 10000000000 := by decide
  -- behind the count
  have fin : ∀ (r sg : Nat), r ≤ 2147483648 → r = dg_r x → (sg = 1 ∧ x < 0 ∨ sg = 0 ∧ ¬ x < 0) → Tq_writeDigits_29 d x c (nI f) (lN r) (nI (dg_n r + sg)) (lN (10 ^ dg_n r)) G K := fun r sg hr hrx hs => by
    obtain ⟨a1, a2, a3, a4⟩ := dg_n_ok hr
    have hb : 10 ^ dg_n r ≤ 10 ^ 10 := z_pow a2
    have hlx : dg_l x = dg_n r + sg := by
      unfold dg_l
      rw [← hrx]
      rcases hs with ⟨rfl, q⟩ | ⟨rfl, q⟩
      · rw [if_pos q]
      · rw [if_neg q]
    rw [hlx] at hl hK hll
    refine w_Tq_writeDigits_29 h.1 (z_bt (by rw [z_cgt (by omega) (by omega)]; exact a3) (z_bf (nI_pos (by omega)) ⟨by rw [hk]; decide, ?_⟩))
    rw [z_sub (by omega), z_le (by omega) (by omega)]
    refine z_bt (by omega) ?_
    rw [z_add]
    have em : ∀ a, 1 ≤ a → nI a - nI 1 = nI a + Int32.ofInt (-1) := fun a ha => by
      obtain ⟨a, rfl⟩ : ∃ b, a = b + 1 := ⟨a - 1, by omega⟩
      rw [z_sub (by omega)]
      exact (pk_m1 a).symm
    rw [em _ (by omega)]
    rcases hs with ⟨rfl, q⟩ | ⟨rfl, q⟩
    · have hx : ¬ nI 0 ≤ x := fun q' => by
        rw [Int32.le_iff_toInt_le] at q'
        rw [Int32.lt_iff_toInt_lt] at q
        exact absurd q (Int.not_lt.mpr q')
      refine z_bf hx ⟨hk, hc3, z_ixg (by omega) (by omega) ?_⟩
      rintro _ rfl
      refine z_bf hx ?_
      rw [z_add, show f + (dg_n r + 1) = f + 1 + dg_n r by omega]
      refine c_dig95 hc3 hna (m := dg_n r) (f := f + 1) (hh_I h hna (fun _ q => absurd (hk.symm.trans q) (by decide))) hk (by show f + 1 + dg_n r ≤ mj_l G c; omega) hl2 (by omega) (fun G' h' F' i1 i2 => ?_)
      rw [z_add, ← show f + (dg_n r + 1) = f + (dg_n r + 1) from rfl]
      refine hK G' h' (fw_t (fw_I rfl) ro_r F') (fun j hj => ?_) (fun j hj => ?_)
      · rw [i1 j (by omega)]
        exact z_iIm (by omega)
      · unfold dg_c
        rw [hlx, ← hrx]
        cases j with
        | zero =>
          rw [if_pos ⟨q, rfl⟩, i1 (f + 0) (by omega)]
          exact z_iIs
        | succ j =>
          rw [if_neg (fun q' => absurd q'.2 (by omega)), show f + (j + 1) = f + 1 + j by omega, i2 j (by omega), show dg_n r + 1 - 1 - (j + 1) = dg_n r - 1 - j by omega]
    · have hx : nI 0 ≤ x := by
        obtain ⟨k, hk, rfl⟩ := nI_of q
        rw [z_le (by decide) hk]
        exact Nat.zero_le _
      refine z_bt hx (z_bt hx ?_)
      rw [Nat.add_zero]
      rw [Nat.add_zero] at hl hK
      refine c_dig95 hc3 hna (m := dg_n r) (f := f) h hk hl hl2 (by omega) (fun G' h' F' i1 i2 => ?_)
      rw [z_add]
      refine hK G' h' F' i1 (fun j hj => ?_)
      unfold dg_c
      rw [hlx, ← hrx, if_neg (fun q' => q q'.1), i2 j hj, Nat.add_zero]
  refine w_Tq_writeDigits h.1 ?_
  by_cases hx : x < 0
  · obtain ⟨r, r1, r2, r3, r4⟩ := z_ng hx
    have hrx : r = dg_r x := by unfold dg_r; omega
    have hx' : ¬ nI 0 ≤ x := fun q' => by
      rw [Int32.le_iff_toInt_le] at q'
      rw [Int32.lt_iff_toInt_lt] at hx
      exact absurd hx (Int.not_lt.mpr q')
    refine z_bf hx' (z_bf hx' ?_)
    rw [r3]
    have hn := dg_n_ok r2
    exact c_dig29 (sg := 1) r2 (by decide) h (fin r 1 r2 hrx (Or.inl ⟨rfl, hx⟩)) (m := dg_n r - 1) (i := 1) (by omega) (by decide)
  · obtain ⟨k, hk2, rfl⟩ := nI_of hx
    have hrx : k = dg_r (nI k) := by
      unfold dg_r
      rw [nI_toInt hk2]
      omega
    have hx' : nI 0 ≤ nI k := by rw [z_le (by decide) hk2]; exact Nat.zero_le _
    refine z_bt hx' (z_bt hx' ?_)
    rw [nI_l hk2]
    have hn := dg_n_ok (r := k) (by omega)
    exact c_dig29 (sg := 0) (by omega) (by decide) h (fin k 0 (by omega) hrx (Or.inr ⟨rfl, hx⟩)) (m := dg_n k - 1) (i := 1) (by omega) (by decide)
end DG
/-! the model's places -/
/-- places in P, fields in S and rows in R may differ -/
def mw (P S R : Nat → Prop) (f f' : mm_F) : Prop := (∀ a i, a ≠ 1714 → ¬ (1728 ≤ a ∧ a ≤ 1732) → ¬ R a → f' a i = f a i) ∧ (∀ i, ¬ S i → f' 1714 i = f 1714 i) ∧ (∀ a i, 1728 ≤ a → a ≤ 1731 → ¬ P i → f' a i = f a i) ∧ ∀ i, ¬ P (i / 300) → f' 1732 i = f 1732 i
def no_R : Nat → Prop := fun _ => False
section MW
variable {P S R P' S' R' : Nat → Prop} {f f1 f' : mm_F} {a k i : Nat} {x : Int32} {v : rv}
theorem mw_r : mw P S R f f := ⟨fun _ _ _ _ _ => rfl, fun _ _ => rfl, fun _ _ _ _ _ => rfl, fun _ _ => rfl⟩
theorem mw_t (h1 : mw P S R f f1) (h2 : mw P S R f1 f') : mw P S R f f' := ⟨fun a i x y z => (h2.1 a i x y z).trans (h1.1 a i x y z), fun i x => (h2.2.1 i x).trans (h1.2.1 i x), fun a i x y z => (h2.2.2.1 a i x y z).trans (h1.2.2.1 a i x y z), fun i x => (h2.2.2.2 i x).trans (h1.2.2.2 i x)⟩
theorem mw_m (h : mw P S R f f') (hP : ∀ i, P i → P' i) (hS : ∀ i, S i → S' i) (hR : ∀ i, R i → R' i) : mw P' S' R' f f' := ⟨fun a i x y z => h.1 a i x y (fun q => z (hR _ q)), fun i x => h.2.1 i (fun q => x (hS _ q)), fun a i x y z => h.2.2.1 a i x y (fun q => z (hP _ q)), fun i x => h.2.2.2 i (fun q => x (hP _ q))⟩
theorem mw_S (h : S i) : mw P S R f (mj_u2 f 1714 i x) := ⟨fun a j q _ _ => z_u2n q, fun j q => z_u2m (fun e => q (by rw [e]; exact h)), fun a j q1 q2 _ => z_u2n (by omega), fun j _ => z_u2n (by decide)⟩
theorem mw_P (ha : 1728 ≤ a ∧ a ≤ 1731) (h : P i) : mw P S R f (mj_u2 f a i x) := ⟨fun b j q1 q2 _ => z_u2n (by omega), fun j _ => z_u2n (by omega), fun b j _ _ q => (if_neg (fun e => q (by rw [e.2]; exact h))), fun j _ => z_u2n (by omega)⟩
theorem mw_C (h : P (i / 300)) : mw P S R f (mj_u2 f 1732 i x) := ⟨fun b j q1 q2 _ => z_u2n (by omega), fun j _ => z_u2n (by decide), fun b j q1 q2 _ => z_u2n (by omega), fun j q => z_u2m (fun e => q (by rw [e]; exact h))⟩
theorem mw_R (ha : a ≠ 1714 ∧ ¬ (1728 ≤ a ∧ a ≤ 1732)) (h : R a) : mw P S R f (mj_u2 f a i x) := ⟨fun b j q1 q2 q => z_u2n (fun e => q (by rw [e]; exact h)), fun j _ => z_u2n (by omega), fun b j q1 q2 _ => z_u2n (by omega), fun j _ => z_u2n (by omega)⟩
theorem mq_st (h : mv f k v) (hF : mw P S R f f') (hk : ¬ P k) (hv : rv_ok v) : mv f' k v := by
  obtain ⟨h1, h2, h3, h4, h5, h6⟩ := h
  have e : ∀ a, 1728 ≤ a → a ≤ 1731 → f' a k = f a k := fun a p q => hF.2.2.1 a k p q hk
  refine ⟨(e _ (by decide) (by decide)).trans h1, (e _ (by decide) (by decide)).trans h2, (e _ (by decide) (by decide)).trans h3, fun q => (e _ (by decide) (by decide)).trans (h4 q), fun q => (e _ (by decide) (by decide)).trans (h5 q), fun q j hj => (hF.2.2.2 _ ?_).trans (h6 q j hj)⟩
  have := (hv.2.2.2.1 q).1
  rw [show (300 * k + j) / 300 = k by omega]
  exact hk
end MW
