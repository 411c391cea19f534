/-! NUMBERS, PLACES, HEAPS: what laws are made simpler with -/
theorem z_lt {a b : Nat} (ha : a < 2 ^ 31) (hb : b < 2 ^ 31) : (nI a < nI b) = (a < b) := propext (nI_ltI ha hb)
theorem z_le {a b : Nat} (ha : a < 2 ^ 31) (hb : b < 2 ^ 31) : (nI a ≤ nI b) = (a ≤ b) := propext (nI_leI ha hb)
theorem z_eq {a b : Nat} (ha : a < 2 ^ 31) (hb : b < 2 ^ 31) : (nI a = nI b) = (a = b) := propext (nI_eq ha hb)
theorem z_m1n {a : Nat} (ha : a < 2 ^ 31) : ¬ nI a = Int32.ofInt (-1) := fun h => by
  have h1 := congrArg Int32.toInt h
  rw [nI_toInt ha] at h1
  have h2 : (Int32.ofInt (-1)).toInt = -1 := by decide
  rw [h2] at h1
  omega
theorem z_m1 {a : Nat} (ha : a < 2 ^ 31) : (nI a = Int32.ofInt (-1)) = False := eq_false (z_m1n ha)
theorem z_m1' {a : Nat} (ha : a < 2 ^ 31) : (Int32.ofInt (-1) = nI a) = False := eq_false (fun h => z_m1n ha h.symm)
theorem z_m1lt {a : Nat} (ha : a < 2 ^ 31) : (Int32.ofInt (-1) < nI a) = True := eq_true (by
  rw [Int32.lt_iff_toInt_lt, nI_toInt ha]
  have h2 : (Int32.ofInt (-1)).toInt = -1 := by decide
  rw [h2]
  omega)
theorem z_add (a b : Nat) : nI a + nI b = nI (a + b) := nI_add a b
theorem z_mul (a b : Nat) : nI a * nI b = nI (a * b) := (Int32.ofNat_mul a b).symm
theorem z_sub {a b : Nat} (h : b ≤ a) : nI a - nI b = nI (a - b) := by
  have h1 : nI a = nI (a - b) + nI b := by rw [nI_add, Nat.sub_add_cancel h]
  rw [h1]
  exact Int32.add_sub_cancel _ _
theorem z_ix {n N : Nat} {K : Nat → Prop} (h : n < N) (hN : N < 2 ^ 31) : mm_ix (nI n) N K = K n := by
  unfold mm_ix
  rw [nI_clamp (Nat.lt_trans h hN)]
  exact propext ⟨fun q => q.2, fun q => ⟨vp_in_nI h hN, q⟩⟩
theorem z_ixi {n N : Nat} {K : Nat → Prop} (h : n < N) (hN : N < 2 ^ 31) (hK : K n) : mm_ix (nI n) N K := by rw [z_ix h hN]; exact hK
theorem z_brt {c A B : Prop} (h : c) : mm_br c A B = A := propext ⟨fun q => q.1 h, fun q => ⟨fun _ => q, fun hn => absurd h hn⟩⟩
theorem z_brf {c A B : Prop} (h : ¬ c) : mm_br c A B = B := propext ⟨fun q => q.2 h, fun q => ⟨fun hn => absurd hn h, fun _ => q⟩⟩
theorem z_br {c A B : Prop} (h1 : c → A) (h2 : ¬ c → B) : mm_br c A B := ⟨h1, h2⟩
theorem z_bt {c A B : Prop} (h : c) (h1 : A) : mm_br c A B := ⟨fun _ => h1, fun hn => absurd h hn⟩
theorem z_bf {c A B : Prop} (h : ¬ c) (h1 : B) : mm_br c A B := ⟨fun hn => absurd hn h, fun _ => h1⟩
theorem z_ex {b : Bool} {K : Bool → Prop} (h : K b) : bI_ex (bI b) K := ⟨b, rfl, h⟩
theorem z_u2s {α : Type} {f : Nat → Nat → α} {a k : Nat} {v : α} : mj_u2 f a k v a k = v := if_pos ⟨rfl, rfl⟩
theorem z_u2n {α : Type} {f : Nat → Nat → α} {a k b j : Nat} {v : α} (h : b ≠ a) : mj_u2 f a k v b j = f b j := if_neg (fun q => h q.1)
theorem z_u2m {α : Type} {f : Nat → Nat → α} {a k j : Nat} {v : α} (h : j ≠ k) : mj_u2 f a k v a j = f a j := if_neg (fun q => h q.2)
theorem z_u2u {α : Type} {f : Nat → Nat → α} {a k : Nat} {v x : α} : mj_u2 (mj_u2 f a k v) a k x = mj_u2 f a k x := by
  funext b j
  unfold mj_u2
  by_cases h : b = a ∧ j = k
  · rw [if_pos h, if_pos h]
  · rw [if_neg h, if_neg h, if_neg h]
theorem z_u2i {α : Type} {f : Nat → Nat → α} {a k : Nat} : mj_u2 f a k (f a k) = f := by
  funext b j
  unfold mj_u2
  by_cases h : b = a ∧ j = k
  · rw [if_pos h, h.1, h.2]
  · rw [if_neg h]
-- heaps
section ZH
variable {G : mj_G} {a b k j v : Nat} {x : Int32} {kd len : Nat} {row : Nat → Int32}
theorem z_iIs : mj_i (mj_pI G a k x) a k = x := z_u2s
theorem z_iIn (h : b ≠ a) : mj_i (mj_pI G a k x) b j = mj_i G b j := z_u2n h
theorem z_iIm (h : j ≠ k) : mj_i (mj_pI G a k x) a j = mj_i G a j := z_u2m h
theorem z_kI : mj_k (mj_pI G a k x) = mj_k G := rfl
theorem z_lI : mj_l (mj_pI G a k x) = mj_l G := rfl
theorem z_rI : mj_r (mj_pI G a k x) = mj_r G := rfl
theorem z_nI : mj_n (mj_pI G a k x) = mj_n G := rfl
theorem z_uI : mj_u (mj_pI G a k x) = mj_u G := rfl
theorem z_rRs : mj_r (mj_pR G a k v) a k = v := z_u2s
theorem z_rRn (h : b ≠ a) : mj_r (mj_pR G a k v) b j = mj_r G b j := z_u2n h
theorem z_rRm (h : j ≠ k) : mj_r (mj_pR G a k v) a j = mj_r G a j := z_u2m h
theorem z_kR : mj_k (mj_pR G a k v) = mj_k G := rfl
theorem z_lR : mj_l (mj_pR G a k v) = mj_l G := rfl
theorem z_iR : mj_i (mj_pR G a k v) = mj_i G := rfl
theorem z_nR : mj_n (mj_pR G a k v) = mj_n G := rfl
theorem z_uR : mj_u (mj_pR G a k v) = mj_u G := rfl
theorem z_kAs : mj_k (mj_al G kd len row) (mj_n G) = kd := if_pos rfl
theorem z_kAn (h : b ≠ mj_n G) : mj_k (mj_al G kd len row) b = mj_k G b := if_neg h
theorem z_lAs : mj_l (mj_al G kd len row) (mj_n G) = len := if_pos rfl
theorem z_lAn (h : b ≠ mj_n G) : mj_l (mj_al G kd len row) b = mj_l G b := if_neg h
theorem z_iAs : mj_i (mj_al G kd len row) (mj_n G) j = row j := if_pos rfl
theorem z_iAn (h : b ≠ mj_n G) : mj_i (mj_al G kd len row) b j = mj_i G b j := if_neg h
theorem z_rAs : mj_r (mj_al G kd len row) (mj_n G) j = 0 := if_pos rfl
theorem z_rAn (h : b ≠ mj_n G) : mj_r (mj_al G kd len row) b j = mj_r G b j := if_neg h
theorem z_nA : mj_n (mj_al G kd len row) = mj_n G + 1 := rfl
theorem z_uA : mj_u (mj_al G kd len row) = mj_u G + len := rfl
end ZH
-- characters
theorem z_cc {c : Nat} (h : c ≤ 65535) : mj_c (nI c) :=
  ⟨nI_pos' (by omega), by rw [show (65535 : Int32) = nI 65535 from by decide +kernel, z_le (by omega) (by omega)]; exact h⟩
def tx_D (c : Nat) : Prop := 48 ≤ c ∧ c ≤ 57
def tx_L (c : Nat) : Prop := 97 ≤ c ∧ c ≤ 122
def tx_O (c : Nat) : Prop := c = 43 ∨ c = 45 ∨ c = 42 ∨ c = 60 ∨ c = 61 ∨ c = 38 ∨ c = 63
def tx_Q (c : Nat) : Prop := c ≠ 39 ∧ c ≠ 123 ∧ c ≠ 125 ∧ c ≠ 0
def tx_T (c : Nat) : Prop := c = 61 ∨ c = 63 ∨ c = 42 ∨ c = 43 ∨ c = 35 ∨ c = 94 ∨ c = 64 ∨ c = 36 ∨ c = 33 ∨ c = 38 ∨ c = 126 ∨ c = 37 ∨ c = 45 ∨ c = 116 ∨ c = 107
def tx_B (c : Nat) : Prop := c = 63 ∨ c = 42 ∨ c = 43 ∨ c = 35 ∨ c = 36 ∨ c = 38 ∨ c = 107
theorem z_qx {f : Int32 → Int32} {p : Nat → Bool} (h : ((List.range 128).all fun c => qb (f (nI c)) == p c) = true) {c : Nat} (hc : c < 128) : qb (f (nI c)) = p c :=
  eq_of_beq (List.all_eq_true.mp h c (List.mem_range.mpr hc))
theorem z_13004 {c : Nat} (hc : c < 128) : (qb (q_13004 (nI c)) = true) = tx_D c := by
  rw [z_qx (f := q_13004) (p := fun c => decide (48 ≤ c ∧ c ≤ 57)) (by decide +kernel) hc]
  exact propext decide_eq_true_iff
theorem z_13005 {c : Nat} (hc : c < 128) : (qb (q_13005 (nI c)) = true) = tx_L c := by
  rw [z_qx (f := q_13005) (p := fun c => decide (97 ≤ c ∧ c ≤ 122)) (by decide +kernel) hc]
  exact propext decide_eq_true_iff
theorem z_13012 {c : Nat} (hc : c < 128) : (qb (q_13012 (nI c)) = true) = tx_O c := by
  rw [z_qx (f := q_13012) (p := fun c => decide (c = 43 ∨ c = 45 ∨ c = 42 ∨ c = 60 ∨ c = 61 ∨ c = 38 ∨ c = 63)) (by decide +kernel) hc]
  exact propext decide_eq_true_iff
theorem z_13070 {c : Nat} (hc : c < 128) : (qb (q_13070 (nI c)) = true) = tx_B c := by
  rw [z_qx (f := q_13070) (p := fun c => decide (c = 63 ∨ c = 42 ∨ c = 43 ∨ c = 35 ∨ c = 36 ∨ c = 38 ∨ c = 107)) (by decide +kernel) hc]
  exact propext decide_eq_true_iff
theorem z_12029 {c : Nat} (hc : c < 128) : (qb (q_12029 (nI c)) = true) = tx_L c := by
  rw [z_qx (f := q_12029) (p := fun c => decide (97 ≤ c ∧ c ≤ 122)) (by decide +kernel) hc]
  exact propext decide_eq_true_iff
theorem z_12030 {c : Nat} (hc : c < 128) : (qb (q_12030 (nI c)) = true) = tx_D c := by
  rw [z_qx (f := q_12030) (p := fun c => decide (48 ≤ c ∧ c ≤ 57)) (by decide +kernel) hc]
  exact propext decide_eq_true_iff
theorem z_7025 {c : Nat} (hc : c < 128) : (qb (q_7025 (nI c)) = true) = tx_Q c := by
  rw [z_qx (f := q_7025) (p := fun c => decide (c ≠ 39 ∧ c ≠ 123 ∧ c ≠ 125 ∧ c ≠ 0)) (by decide +kernel) hc]
  exact propext decide_eq_true_iff
theorem z_7012 {c : Nat} (hc : c < 128) : (qb (q_7012 (nI c)) = true) = tx_T c := by
  rw [z_qx (f := q_7012) (p := fun c => decide (c = 61 ∨ c = 63 ∨ c = 42 ∨ c = 43 ∨ c = 35 ∨ c = 94 ∨ c = 64 ∨ c = 36 ∨ c = 33 ∨ c = 38 ∨ c = 126 ∨ c = 37 ∨ c = 45 ∨ c = 116 ∨ c = 107)) (by decide +kernel) hc]
  exact propext decide_eq_true_iff
theorem z_m13004 : (qb (q_13004 (Int32.ofInt (-1))) = true) = False := eq_false (by decide +kernel)
theorem z_m13005 : (qb (q_13005 (Int32.ofInt (-1))) = true) = False := eq_false (by decide +kernel)
theorem z_m13012 : (qb (q_13012 (Int32.ofInt (-1))) = true) = False := eq_false (by decide +kernel)
