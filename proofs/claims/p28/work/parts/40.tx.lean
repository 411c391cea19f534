/-! THE TEXT that is typed: what both sides' readers see of it -/
def tx_W (w : Nat → Nat) (n : Nat) : Prop := n ≤ 80 ∧ (∀ k, k < n → 32 ≤ w k ∧ w k ≤ 126) ∧ ∀ k, n ≤ k → w k = 0
theorem tx_le {w : Nat → Nat} {n : Nat} (hW : tx_W w n) (k : Nat) : w k ≤ 126 := by
  by_cases h : k < n
  · exact (hW.2.1 k h).2
  · rw [hW.2.2 k (by omega)]; omega
theorem tx_in {w : Nat → Nat} {n : Nat} (hW : tx_W w n) {k : Nat} (h : w k ≠ 0) : k < n := by
  apply Decidable.byContradiction
  intro hc
  exact h (hW.2.2 k (by omega))
theorem tx_pos {w : Nat → Nat} {n : Nat} (hW : tx_W w n) {k : Nat} (h : k < n) : w k ≠ 0 := by
  have := (hW.2.1 k h).1
  omega
def tx_nx (w : Nat → Nat) (n p : Nat) : Int32 := if p < n then nI (w p) else Int32.ofInt (-1)
theorem tx_nxe {w : Nat → Nat} {n p c : Nat} (hW : tx_W w n) (hc : 1 ≤ c ∧ c ≤ 126) : (tx_nx w n p = nI c) = (w p = c) := by
  unfold tx_nx
  have h1 := tx_le hW p
  by_cases h : p < n
  · rw [if_pos h, z_eq (by omega) (by omega)]
  · rw [if_neg h, hW.2.2 p (by omega), z_m1' (by omega)]
    exact propext ⟨fun q => q.elim, fun q => by omega⟩
theorem tx_nxm {w : Nat → Nat} {n p : Nat} (hW : tx_W w n) : (tx_nx w n p = Int32.ofInt (-1)) = (n ≤ p) := by
  unfold tx_nx
  have h1 := tx_le hW p
  by_cases h : p < n
  · rw [if_pos h, z_m1 (by omega)]
    exact propext ⟨fun q => q.elim, fun q => by omega⟩
  · rw [if_neg h]
    exact propext ⟨fun _ => by omega, fun _ => rfl⟩
theorem tx_nxD {w : Nat → Nat} {n p : Nat} (hW : tx_W w n) : (qb (q_13004 (tx_nx w n p)) = true) = tx_D (w p) := by
  unfold tx_nx
  have h1 := tx_le hW p
  by_cases h : p < n
  · rw [if_pos h, z_13004 (by omega)]
  · rw [if_neg h, z_m13004, hW.2.2 p (by omega)]
    exact propext ⟨fun q => q.elim, fun q => by have := q.1; omega⟩
theorem tx_nxL {w : Nat → Nat} {n p : Nat} (hW : tx_W w n) : (qb (q_13005 (tx_nx w n p)) = true) = tx_L (w p) := by
  unfold tx_nx
  have h1 := tx_le hW p
  by_cases h : p < n
  · rw [if_pos h, z_13005 (by omega)]
  · rw [if_neg h, z_m13005, hW.2.2 p (by omega)]
    exact propext ⟨fun q => q.elim, fun q => by have := q.1; omega⟩
theorem tx_nxO {w : Nat → Nat} {n p : Nat} (hW : tx_W w n) : (qb (q_13012 (tx_nx w n p)) = true) = tx_O (w p) := by
  unfold tx_nx
  have h1 := tx_le hW p
  by_cases h : p < n
  · rw [if_pos h, z_13012 (by omega)]
  · rw [if_neg h, z_m13012, hW.2.2 p (by omega)]
    refine propext ⟨fun q => q.elim, fun q => ?_⟩
    unfold tx_O at q
    omega
/-! the model's reader -/
def pt_T (f : mm_F) (w : Nat → Nat) (n : Nat) : Prop := f 1714 2 = nI n ∧ ∀ k, k < n → f 1715 k = nI (w k)
def pt_a (f : mm_F) (p : Nat) : mm_F := mj_u2 f 1714 3 (nI p)
theorem pt_a3 {f : mm_F} {p : Nat} : pt_a f p 1714 3 = nI p := z_u2s
theorem pt_aa {f : mm_F} {p q : Nat} : mj_u2 (pt_a f p) 1714 3 (nI q) = pt_a f q := z_u2u
section PT
variable {G : mj_G} (hS : mm_S G) {f : mm_F} {w : Nat → Nat} {n p d : Nat} (hW : tx_W w n) (hT : pt_T f w n)
theorem c_next {K : Int32 → mm_F → Prop} (hS : mm_S G) (hW : tx_W w n) (hT : pt_T f w n) (hp : p ≤ n) (h : K (tx_nx w n p) (pt_a f p)) : m_next G d (pt_a f p) K := by
  refine w_m_next hS ?_
  have hn := hW.1
  have e1 : pt_a f p 1714 2 = nI n := (z_u2m (by decide)).trans hT.1
  rw [e1, pt_a3, z_le (by omega) (by omega)]
  refine z_br (fun hc => ?_) (fun hc => ?_)
  · rw [show tx_nx w n p = Int32.ofInt (-1) from if_neg (by omega)] at h
    exact h
  · rw [show tx_nx w n p = nI (w p) from if_pos (by omega)] at h
    refine z_ixi (by omega) (by decide) ?_
    rw [show pt_a f p 1715 p = nI (w p) from (z_u2n (by decide)).trans (hT.2 p (by omega))]
    exact h
theorem c_takes {K : Bool → mm_F → Prop} {c : Nat} (hS : mm_S G) (hW : tx_W w n) (hT : pt_T f w n) (hd : 1 ≤ d) (hp : p ≤ n) (hc : 1 ≤ c ∧ c ≤ 126) (h1 : w p = c → K true (pt_a f (p + 1))) (h2 : ¬ w p = c → K false (pt_a f p)) : m_takes G d (nI c) (pt_a f p) K := by
  obtain ⟨d, rfl⟩ : ∃ e, d = e + 1 := ⟨d - 1, by omega⟩
  refine w_m_takes hS (c_next hS hW hT hp ?_)
  rw [tx_nxe hW hc, pt_a3, z_add, z_add, pt_aa, pt_aa]
  exact z_br h1 h2
theorem c_takesDigit {K : Bool → mm_F → Prop} (hS : mm_S G) (hW : tx_W w n) (hT : pt_T f w n) (hd : 16 ≤ d) (hp : p ≤ n) (h1 : tx_D (w p) → K true (pt_a f (p + 1))) (h2 : ¬ tx_D (w p) → K false (pt_a f p)) : m_takesDigit G d (pt_a f p) K := by
  obtain ⟨d, rfl⟩ : ∃ e, d = e + 1 := ⟨d - 1, by omega⟩
  refine w_m_takesDigit hS (by omega) (c_next hS hW hT hp ?_)
  rw [pt_a3, z_add, z_add, pt_aa, pt_aa]
  refine z_br (fun hc => ?_) (fun hc => ?_)
  · rw [hc]
    rw [tx_nxD hW] at hc
    exact h1 hc
  · rw [Bool.eq_false_iff.mpr hc]
    rw [tx_nxD hW] at hc
    exact h2 hc
theorem c_takesLetter {K : Bool → mm_F → Prop} (hS : mm_S G) (hW : tx_W w n) (hT : pt_T f w n) (hd : 16 ≤ d) (hp : p ≤ n) (h1 : tx_L (w p) → K true (pt_a f (p + 1))) (h2 : ¬ tx_L (w p) → K false (pt_a f p)) : m_takesLetter G d (pt_a f p) K := by
  obtain ⟨d, rfl⟩ : ∃ e, d = e + 1 := ⟨d - 1, by omega⟩
  refine w_m_takesLetter hS (by omega) (c_next hS hW hT hp ?_)
  rw [pt_a3, z_add, z_add, pt_aa, pt_aa]
  refine z_br (fun hc => ?_) (fun hc => ?_)
  · rw [hc]
    rw [tx_nxL hW] at hc
    exact h1 hc
  · rw [Bool.eq_false_iff.mpr hc]
    rw [tx_nxL hW] at hc
    exact h2 hc
/-- a text in ': up to the first character that can't stand in it -/
theorem c_takesText {K : Bool → mm_F → Prop} (hS : mm_S G) (hW : tx_W w n) (hT : pt_T f w n) (hd : 2 ≤ d) {e : Nat} : ∀ {m p : Nat}, p + m = e → e ≤ n → (∀ j, p ≤ j → j < e → tx_Q (w j)) → ¬ tx_Q (w e) →
    (w e = 39 → K true (pt_a f (e + 1))) → (¬ w e = 39 → K false (pt_a f e)) → m_takesText G d (pt_a f p) K
  | 0, p, hm, hn, hq, he, h1, h2 => by
    obtain ⟨d, rfl⟩ : ∃ e, d = e + 1 := ⟨d - 1, by omega⟩
    have hp : p = e := hm
    subst hp
    have hw := tx_le hW p
    refine w_m_takesText hS (c_next hS hW hT hn ?_)
    have ht : m_takes G d (nI 39) (pt_a f p) K := c_takes hS hW hT (by omega) hn (by decide) h1 h2
    refine z_br (fun _ => ht) (fun hc => ?_)
    rw [tx_nxm hW] at hc
    refine c_next hS hW hT hn ?_
    refine z_br (fun _ => ht) (fun c1 => ?_)
    refine c_next hS hW hT hn ?_
    refine z_br (fun _ => ht) (fun c2 => ?_)
    refine c_next hS hW hT hn ?_
    refine z_br (fun _ => ht) (fun c3 => ?_)
    rw [tx_nxe hW (by decide)] at c1 c2 c3
    exact absurd ⟨c1, c2, c3, tx_pos hW (by omega)⟩ he
  | m + 1, p, hm, hn, hq, he, h1, h2 => by
    have ih := c_takesText (K := K) hS hW hT hd (e := e) (m := m) (p := p + 1)
    obtain ⟨d, rfl⟩ : ∃ e, d = e + 1 := ⟨d - 1, by omega⟩
    have hpn : p ≤ n := by omega
    obtain ⟨q1, q2, q3, q4⟩ := hq p (Nat.le_refl _) (by omega)
    refine w_m_takesText hS (c_next hS hW hT hpn ?_)
    refine z_bf (by rw [tx_nxm hW]; have := tx_in hW q4; omega) ?_
    refine c_next hS hW hT hpn (z_bf (by rw [tx_nxe hW (by decide)]; exact q1) ?_)
    refine c_next hS hW hT hpn (z_bf (by rw [tx_nxe hW (by decide)]; exact q2) ?_)
    refine c_next hS hW hT hpn (z_bf (by rw [tx_nxe hW (by decide)]; exact q3) ?_)
    rw [pt_a3, z_add, pt_aa]
    exact ih (by omega) hn (fun j hj hj2 => hq j (by omega) hj2) he h1 h2
/-- digits of a numeral: from the i-th one on -/
theorem c_digits {K : Bool → mm_F → Prop} (hS : mm_S G) (hW : tx_W w n) (hT : pt_T f w n) (hd : 16 ≤ d) {e : Nat} : ∀ {m i p : Nat}, p + m = e → e ≤ n → i + m ≤ 4 → (∀ j, p ≤ j → j < e → tx_D (w j)) → (i + m < 4 → ¬ tx_D (w e)) →
    K true (pt_a f e) → m_takesPrimary_14 G d (nI i) (pt_a f p) K
  | 0, i, p, hm, hn, hi, hq, he, h1 => by
    obtain ⟨d, rfl⟩ : ∃ e, d = e + 1 := ⟨d - 1, by omega⟩
    have hp : p = e := hm
    subst hp
    refine w_m_takesPrimary_14 hS (by omega) ?_
    rw [z_le (by omega) (by omega)]
    refine z_br (fun _ => h1) (fun hc => ?_)
    refine c_next hS hW hT hn (z_bf ?_ h1)
    rw [tx_nxD hW]
    exact he (by omega)
  | m + 1, i, p, hm, hn, hi, hq, he, h1 => by
    have ih := c_digits (K := K) hS hW hT hd (e := e) (m := m) (i := i + 1) (p := p + 1)
    obtain ⟨d, rfl⟩ : ∃ e, d = e + 1 := ⟨d - 1, by omega⟩
    refine w_m_takesPrimary_14 hS (by omega) ?_
    rw [z_le (by omega) (by omega)]
    refine z_bf (by omega) ?_
    refine c_next hS hW hT (by omega) (z_bt ?_ ?_)
    · rw [tx_nxD hW]
      exact hq p (Nat.le_refl _) (by omega)
    · rw [pt_a3, z_add, z_add, pt_aa]
      exact ih (by omega) hn (by omega) (fun j hj hj2 => hq j (by omega) hj2) (fun h => he (by omega)) h1
end PT
/-! the class's reader -/
def rd_R (G : mj_G) (rd : Nat) (w : Nat → Nat) (n : Nat) : Prop := tx_W w n ∧ mj_k G rd = 8 ∧ 1768 ≤ rd ∧ rd < mj_n G ∧ mj_r G rd 0 = 4 ∧ mj_i G rd 1 = nI n ∧ ∀ k, k < n → mj_i G 4 k = nI (w k)
/-- reading stands at p, and nothing failed -/
def rd_O (G : mj_G) (rd p : Nat) : Prop := mj_i G rd 4 = nI p ∧ mj_i G rd 5 = Int32.ofInt (-1)
section RD
variable {G : mj_G} {rd : Nat} {w : Nat → Nat} {n p d : Nat}
theorem c_sign {K : Int32 → mj_G → Prop} (hS : cs_S G) (hR : rd_R G rd w n) (hp : p < 2 ^ 31) (h : K (nI (w p)) G) : Rd_sign d rd (nI p) G K := by
  obtain ⟨hW, r1, r2, r3, r4, r5, r6⟩ := hR
  have hn := hW.1
  refine w_Rd_sign hS ?_
  refine z_bf (nI_pos hp) ?_
  refine ⟨r1, ?_⟩
  rw [r4, r5, z_le (by omega) hp]
  refine z_br (fun hc => ?_) (fun hc => ?_)
  · rw [hW.2.2 p hc] at h
    exact h
  · refine ⟨cs_kq hS rfl, ?_⟩
    rw [cs_l (N := 80) hS rfl, z_le (by omega) (by omega)]
    refine z_bf (by omega) ⟨cs_k hS rfl, z_ixi (by omega) (by omega) ?_⟩
    rw [r6 p (by omega)]
    exact ⟨z_cc (by have := tx_le hW p; omega), h⟩
/-- whatever the place is -/
theorem c_sign' {K : Int32 → mj_G → Prop} {x : Int32} (hS : cs_S G) (hR : rd_R G rd w n) (h : ∀ v, v ≤ 126 → K (nI v) G) : Rd_sign d rd x G K := by
  by_cases hx : x < 0
  · exact w_Rd_sign hS (z_bt hx (h 0 (by omega)))
  · obtain ⟨j, hj, rfl⟩ := nI_of hx
    exact c_sign hS hR hj (h _ (tx_le hR.1 j))
theorem c_failed {K : Bool → mj_G → Prop} (hS : cs_S G) (hR : rd_R G rd w n) (hO : rd_O G rd p) (h : K false G) : Rd_failed d rd G K :=
  w_Rd_failed hS ⟨hR.2.1, z_bt hO.2 h⟩
theorem c_failedF {K : Bool → mj_G → Prop} {e : Nat} (hS : cs_S G) (hR : rd_R G rd w n) (h5 : mj_i G rd 5 = nI e) (he : e ≤ 80) (h : K true G) : Rd_failed d rd G K :=
  w_Rd_failed hS ⟨hR.2.1, z_bf (by rw [h5]; exact z_m1n (by omega)) h⟩
theorem c_reject {K : mj_G → Prop} (hS : cs_S G) (hR : rd_R G rd w n) (hO : rd_O G rd p) (h : K (mj_pI G rd 5 (nI p))) : Rd_reject d rd G K := by
  refine w_Rd_reject hS ⟨hR.2.1, z_bt hO.2 ?_⟩
  rw [hO.1]
  rintro _ rfl
  exact h
theorem c_rejectF {K : mj_G → Prop} {e : Nat} (hS : cs_S G) (hR : rd_R G rd w n) (h5 : mj_i G rd 5 = nI e) (he : e ≤ 80) (h : K G) : Rd_reject d rd G K :=
  w_Rd_reject hS ⟨hR.2.1, z_bf (by rw [h5]; exact z_m1n (by omega)) h⟩
theorem c_pass {K : mj_G → Prop} {c : Nat} (hS : cs_S G) (hR : rd_R G rd w n) (hO : rd_O G rd p) (hd : 1 ≤ d) (hp : p ≤ 80) (hc : 1 ≤ c ∧ c ≤ 126) (h1 : w p = c → K (mj_pI G rd 4 (nI (p + 1)))) (h2 : ¬ w p = c → K (mj_pI G rd 5 (nI p))) : Rd_pass d rd (nI c) G K := by
  obtain ⟨d, rfl⟩ : ∃ e, d = e + 1 := ⟨d - 1, by omega⟩
  refine w_Rd_pass hS ⟨hR.2.1, c_failed hS hR hO ?_⟩
  refine z_bf (by decide) ⟨hR.2.1, ?_⟩
  rw [hO.1]
  refine c_sign hS hR (by omega) ?_
  have := tx_le hR.1 p
  rw [z_eq (by omega) (by omega)]
  refine z_br (fun hc => ⟨hR.2.1, ?_⟩) (fun hc => ⟨hR.2.1, c_reject hS hR hO (h2 hc)⟩)
  rintro _ rfl
  rw [hO.1, z_add]
  exact h1 hc
theorem c_passF {K : mj_G → Prop} {x : Int32} {e : Nat} (hS : cs_S G) (hR : rd_R G rd w n) (h5 : mj_i G rd 5 = nI e) (he : e ≤ 80) (hd : 1 ≤ d) (h : K G) : Rd_pass d rd x G K := by
  obtain ⟨d, rfl⟩ : ∃ e, d = e + 1 := ⟨d - 1, by omega⟩
  exact w_Rd_pass hS ⟨hR.2.1, c_failedF hS hR h5 he (z_bt rfl ⟨hR.2.1, c_rejectF hS hR h5 he h⟩)⟩
theorem c_readDigit {K : Int32 → mj_G → Prop} (hS : cs_S G) (hR : rd_R G rd w n) (hO : rd_O G rd p) (hd : 16 ≤ d) (hp : p ≤ 80) (h1 : tx_D (w p) → K (nI (w p - 48)) (mj_pI G rd 4 (nI (p + 1)))) (h2 : ¬ tx_D (w p) → K (Int32.ofInt (-1)) (mj_pI G rd 5 (nI p))) : Rd_readDigit d rd G K := by
  obtain ⟨d, rfl⟩ : ∃ e, d = e + 1 := ⟨d - 1, by omega⟩
  refine w_Rd_readDigit hS (by omega) ⟨hR.2.1, ?_⟩
  rw [hO.1]
  have := tx_le hR.1 p
  refine c_sign hS hR (by omega) ⟨hR.2.1, c_failed hS hR hO (z_bf (by decide) ?_)⟩
  rw [z_12030 (by omega)]
  refine z_br (fun hc => ⟨hR.2.1, ?_⟩) (fun hc => ⟨hR.2.1, c_reject hS hR hO (h2 hc)⟩)
  rintro _ rfl
  rw [hO.1, z_add, z_sub (by have := hc.1; omega)]
  exact h1 hc
theorem c_readDigitF {K : Int32 → mj_G → Prop} {e : Nat} (hS : cs_S G) (hR : rd_R G rd w n) (h5 : mj_i G rd 5 = nI e) (he : e ≤ 80) (hd : 16 ≤ d) (h : K (Int32.ofInt (-1)) G) : Rd_readDigit d rd G K := by
  obtain ⟨d, rfl⟩ : ∃ e, d = e + 1 := ⟨d - 1, by omega⟩
  exact w_Rd_readDigit hS (by omega) ⟨hR.2.1, c_sign' hS hR fun v hv => ⟨hR.2.1, c_failedF hS hR h5 he (z_bt rfl ⟨hR.2.1, c_rejectF hS hR h5 he h⟩)⟩⟩
theorem c_readLetter {K : Int32 → mj_G → Prop} (hS : cs_S G) (hR : rd_R G rd w n) (hO : rd_O G rd p) (hd : 16 ≤ d) (hp : p ≤ 80) (h1 : tx_L (w p) → K (nI (w p - 97)) (mj_pI G rd 4 (nI (p + 1)))) (h2 : ¬ tx_L (w p) → K (Int32.ofInt (-1)) (mj_pI G rd 5 (nI p))) : Rd_readLetter d rd G K := by
  obtain ⟨d, rfl⟩ : ∃ e, d = e + 1 := ⟨d - 1, by omega⟩
  refine w_Rd_readLetter hS (by omega) ⟨hR.2.1, ?_⟩
  rw [hO.1]
  have := tx_le hR.1 p
  refine c_sign hS hR (by omega) ⟨hR.2.1, c_failed hS hR hO (z_bf (by decide) ?_)⟩
  rw [z_12029 (by omega)]
  refine z_br (fun hc => ⟨hR.2.1, ?_⟩) (fun hc => ⟨hR.2.1, c_reject hS hR hO (h2 hc)⟩)
  rintro _ rfl
  rw [hO.1, z_add, z_sub (by have := hc.1; omega)]
  exact h1 hc
theorem c_readLetterF {K : Int32 → mj_G → Prop} {e : Nat} (hS : cs_S G) (hR : rd_R G rd w n) (h5 : mj_i G rd 5 = nI e) (he : e ≤ 80) (hd : 16 ≤ d) (h : K (Int32.ofInt (-1)) G) : Rd_readLetter d rd G K := by
  obtain ⟨d, rfl⟩ : ∃ e, d = e + 1 := ⟨d - 1, by omega⟩
  exact w_Rd_readLetter hS (by omega) ⟨hR.2.1, c_sign' hS hR fun v hv => ⟨hR.2.1, c_failedF hS hR h5 he (z_bt rfl ⟨hR.2.1, c_rejectF hS hR h5 he h⟩)⟩⟩
end RD
