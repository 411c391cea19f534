/-! RENDERING: what is put out. A cell of the class as a number: the character, what it was, whether a literal, whether escaped, the part, the source -/
theorem z_bv {z : Nat} (hz : z < 2 ^ 31) : (nI z).toBitVec.toNat = z := by
  show (BitVec.ofNat 32 z).toNat = z
  rw [BitVec.toNat_ofNat]
  exact Nat.mod_eq_of_lt (by omega)
theorem z_msk {z k : Nat} {m : Int32} (hz : z < 2 ^ 31) (hm : m.toBitVec.toNat = 2 ^ k - 1) : nI z &&& m = nI (z % 2 ^ k) := by
  have hlt : z % 2 ^ k < 2 ^ 31 := Nat.lt_of_le_of_lt (Nat.mod_le _ _) hz
  apply Int32.toBitVec.inj
  show (nI z).toBitVec &&& m.toBitVec = _
  apply BitVec.eq_of_toNat_eq
  rw [BitVec.toNat_and, z_bv hz, z_bv hlt, hm, Nat.and_two_pow_sub_one_eq_mod]
theorem z_shr {z k : Nat} {n : Int32} (hz : z < 2 ^ 31) (hn : (n.toBitVec.smod 32).toNat = k) : nI z >>> n = nI (z / 2 ^ k) := by
  have hlt : z / 2 ^ k < 2 ^ 31 := Nat.lt_of_le_of_lt (Nat.div_le_self _ _) hz
  apply Int32.toBitVec.inj
  show BitVec.sshiftRight' (nI z).toBitVec (n.toBitVec.smod 32) = _
  have hm : (nI z).toBitVec.msb = false := by
    rw [BitVec.msb_eq_false_iff_two_mul_lt, z_bv hz]
    omega
  rw [BitVec.sshiftRight_eq', hn, BitVec.sshiftRight_eq_of_msb_false hm]
  apply BitVec.eq_of_toNat_eq
  rw [BitVec.toNat_ushiftRight, z_bv hz, z_bv hlt, Nat.shiftRight_eq_div_pow]
theorem z_shl {z k : Nat} {n : Int32} (hz : z * 2 ^ k < 2 ^ 31) (hn : (n.toBitVec.smod 32).toNat = k) : nI z <<< n = nI (z * 2 ^ k) := by
  have hp : 0 < 2 ^ k := Nat.two_pow_pos k
  have hz' : z < 2 ^ 31 := Nat.lt_of_le_of_lt (Nat.le_mul_of_pos_right z hp) hz
  apply Int32.toBitVec.inj
  show (nI z).toBitVec <<< (n.toBitVec.smod 32) = _
  rw [BitVec.shiftLeft_eq', hn]
  apply BitVec.eq_of_toNat_eq
  rw [BitVec.toNat_shiftLeft, z_bv hz', z_bv hz, Nat.shiftLeft_eq]
  exact Nat.mod_eq_of_lt (by omega)
theorem z_orr {a b k : Nat} (ha : a < 2 ^ k) (hb : 2 ^ k * b + a < 2 ^ 31) : nI a ||| nI (2 ^ k * b) = nI (2 ^ k * b + a) := by
  apply Int32.toBitVec.inj
  show (nI a).toBitVec ||| (nI (2 ^ k * b)).toBitVec = _
  apply BitVec.eq_of_toNat_eq
  rw [BitVec.toNat_or, z_bv (by omega), z_bv (by omega), z_bv hb, Nat.two_pow_add_eq_or_of_lt ha, Nat.or_comm]
def oc_L (c s : Nat) : Nat := 262144 * s + (16384 + (128 * c + c))
def oc_S (c s : Nat) : Nat := 262144 * s + (128 * c + c)
def oc_E (c o p s : Nat) : Nat := 262144 * s + (65536 * p + (32768 + (128 * o + c)))
/-- whether a cell is a blank of a literal -/
def oc_b (z : Nat) : Bool := decide (z / 16384 % 2 = 1 ∧ z % 128 = 32)
/-- the same cell of the model -/
def om (z : Nat) : Int32 := nI (z % 128 + (if oc_b z = true then 128 else 0) + 256 * (z / 262144))
section OC
variable {c o p s z : Nat}
theorem q_37 (hc : c < 128) (hs : s < 8000) : q_12037 (nI c) (nI s) = nI (oc_L c s) := by
  unfold q_12037 oc_L
  rw [z_shl (k := 7) (by omega) (by decide), z_shl (k := 18) (by omega) (by decide), show ((Int16.ofInt 16384).toInt32) = nI (2 ^ 14 * 1) from by decide, show c * 2 ^ 7 = 2 ^ 7 * c from Nat.mul_comm _ _, show s * 2 ^ 18 = 2 ^ 18 * s from Nat.mul_comm _ _, z_orr (by omega) (by omega), z_orr (by omega) (by omega), z_orr (by omega) (by omega)]
theorem q_38 (hc : c < 128) (hs : s < 8000) : q_12038 (nI c) (nI s) = nI (oc_S c s) := by
  unfold q_12038 oc_S
  rw [z_shl (k := 7) (by omega) (by decide), z_shl (k := 18) (by omega) (by decide), show c * 2 ^ 7 = 2 ^ 7 * c from Nat.mul_comm _ _, show s * 2 ^ 18 = 2 ^ 18 * s from Nat.mul_comm _ _, z_orr (by omega) (by omega), z_orr (by omega) (by omega)]
theorem q_39 (hc : c < 128) (ho : o < 128) (hp : p < 4) (hs : s < 8000) : q_12039 (nI c) (nI o) (nI p) (nI s) = nI (oc_E c o p s) := by
  unfold q_12039 oc_E
  rw [z_shl (k := 7) (by omega) (by decide), z_shl (k := 16) (by omega) (by decide), z_shl (k := 18) (by omega) (by decide), show (32768 : Int32) = nI (2 ^ 15 * 1) from by decide, show o * 2 ^ 7 = 2 ^ 7 * o from Nat.mul_comm _ _, show s * 2 ^ 18 = 2 ^ 18 * s from Nat.mul_comm _ _, show p * 2 ^ 16 = 2 ^ 16 * p from Nat.mul_comm _ _, z_orr (by omega) (by omega), z_orr (by omega) (by omega), z_orr (by omega) (by omega), z_orr (by omega) (by omega)]
theorem q_40 (hz : z < 2 ^ 31) : q_12040 (nI z) = nI (z % 128) := by
  show mm_ch (nI z &&& (Int8.ofInt (127)).toInt32) = _
  rw [z_msk (k := 7) hz (by decide)]
  exact z_chn (by omega)
theorem q_42 (hz : z < 2 ^ 31) : (qb (q_12042 (nI z)) = true) = (oc_b z = true) := by
  unfold q_12042 oc_b
  rw [q_40 hz, z_shr (k := 14) hz (by decide), z_msk (k := 1) (Nat.lt_of_le_of_lt (Nat.div_le_self _ _) hz) (by decide), show ((0 : Int32)) = nI 0 from rfl, show (Int8.ofInt (32)).toInt32 = nI 32 from by decide]
  by_cases h1 : z / 2 ^ 14 % 2 ^ 1 = 0
  · rw [if_pos (show nI (z / 2 ^ 14 % 2 ^ 1) = nI 0 by rw [h1])]
    exact propext ⟨fun q => absurd q (by decide), fun q => by
      have := (of_decide_eq_true q).1
      omega⟩
  · rw [if_neg (fun q => h1 (by rw [z_eq (by omega) (by decide)] at q; exact q))]
    by_cases h2 : z % 128 = 32
    · rw [if_pos (show nI (z % 128) = nI 32 by rw [h2])]
      exact propext ⟨fun _ => decide_eq_true ⟨by omega, h2⟩, fun _ => by decide⟩
    · rw [if_neg (fun q => h2 (by rw [z_eq (by omega) (by decide)] at q; exact q))]
      exact propext ⟨fun q => absurd q (by decide), fun q => absurd (of_decide_eq_true q).2 h2⟩
theorem oc_Lc (hc : c < 128) : oc_L c s % 128 = c ∧ oc_L c s / 262144 = s ∧ oc_b (oc_L c s) = decide (c = 32) := by
  unfold oc_L oc_b
  refine ⟨by omega, by omega, ?_⟩
  by_cases h : c = 32
  · rw [decide_eq_true h, decide_eq_true (by omega)]
  · rw [decide_eq_false h, decide_eq_false (by omega)]
theorem oc_Sc (hc : c < 128) : oc_S c s % 128 = c ∧ oc_S c s / 262144 = s ∧ oc_b (oc_S c s) = false := by
  unfold oc_S oc_b
  exact ⟨by omega, by omega, decide_eq_false (by omega)⟩
theorem oc_Ec (hc : c < 128) (ho : o < 128) (hp : p < 4) : oc_E c o p s % 128 = c ∧ oc_E c o p s / 262144 = s ∧ oc_b (oc_E c o p s) = false := by
  unfold oc_E oc_b
  exact ⟨by omega, by omega, decide_eq_false (by omega)⟩
end OC
/-- the context behind a character -/
def ld (a b : Nat) : Nat := (q_13076 (nI a) (nI b)).toNatClampNeg
theorem ld_all : ((List.range 8).all fun a => (List.range 128).all fun b => decide (q_13076 (nI a) (nI b) = nI (ld a b)) && decide (q_12033 (nI a) (nI b) = nI (ld a b)) && Nat.blt (ld a b) 8) = true := by decide +kernel
theorem ld_f {a b : Nat} (ha : a < 8) (hb : b < 128) : q_13076 (nI a) (nI b) = nI (ld a b) ∧ q_12033 (nI a) (nI b) = nI (ld a b) ∧ ld a b < 8 := by
  have h := List.all_eq_true.mp (List.all_eq_true.mp ld_all a (List.mem_range.mpr ha)) b (List.mem_range.mpr hb)
  simp only [Bool.and_eq_true, decide_eq_true_eq] at h
  exact ⟨h.1.1, h.1.2, Nat.le_of_ble_eq_true h.2⟩
/-- the output: how long, its cells, its contexts, whether it waits -/
abbrev ost : Type := Nat × (Nat → Nat) × (Nat → Nat) × Bool
def o_n (o : ost) : Nat := o.1
def o_c (o : ost) : Nat → Nat := o.2.1
def o_x (o : ost) : Nat → Nat := o.2.2.1
def o_w (o : ost) : Bool := o.2.2.2
/-- a character that is escaped: what it is told by, each part -/
def es_t (c : Nat) : Nat := if c = 34 then 113 else if c = 38 then 97 else if c = 60 then 108 else if c = 62 then 103 else 0
def es_h (x c j : Nat) : Nat := if x = 7 then (if c = 39 ∨ c = 92 ∨ c = 60 then 95 else c) else if (x = 0 ∨ x = 3 ∨ x = 5) ∧ es_t c ≠ 0 then (if j = 0 then 38 else if j = 1 then es_t c else 59) else c
/-- a cell told by its context: its sign is its origin escaped, or its origin -/
def gz (x z : Nat) : Prop := (z / 32768 % 2 = 1 → z % 128 = es_h x (z / 128 % 128) (z / 65536 % 4)) ∧ (z / 32768 % 2 = 0 → z / 128 % 128 = z % 128)
theorem gz_L {x c s : Nat} (hc : c < 128) : gz x (oc_L c s) := by
  unfold oc_L
  have e1 : (262144 * s + (16384 + (128 * c + c))) / 32768 = 8 * s := by omega
  have e2 : (262144 * s + (16384 + (128 * c + c))) / 128 = 2048 * s + (128 + c) := by omega
  have e3 : (262144 * s + (16384 + (128 * c + c))) % 128 = c := by omega
  exact ⟨fun q => absurd q (by rw [e1]; omega), fun _ => by rw [e2, e3]; omega⟩
theorem gz_S {x c s : Nat} (hc : c < 128) : gz x (oc_S c s) := by
  unfold oc_S
  have e1 : (262144 * s + (128 * c + c)) / 32768 = 8 * s := by omega
  have e2 : (262144 * s + (128 * c + c)) / 128 = 2048 * s + c := by omega
  have e3 : (262144 * s + (128 * c + c)) % 128 = c := by omega
  exact ⟨fun q => absurd q (by rw [e1]; omega), fun _ => by rw [e2, e3]; omega⟩
theorem gz_E {x c j s : Nat} (hc : c < 128) (hh : es_h x c j < 128) (hj : j < 4) : gz x (oc_E (es_h x c j) c j s) := by
  have e1 : oc_E (es_h x c j) c j s % 128 = es_h x c j := by unfold oc_E; omega
  have e2 : oc_E (es_h x c j) c j s / 128 % 128 = c := by unfold oc_E; omega
  have e3 : oc_E (es_h x c j) c j s / 65536 % 4 = j := by unfold oc_E; omega
  have e4 : oc_E (es_h x c j) c j s / 32768 % 2 = 1 := by unfold oc_E; omega
  exact ⟨fun _ => by rw [e1, e2, e3], fun q => by omega⟩
/-- the contexts that cells lead through -/
def kcx (x0 : Nat) (C : Nat → Nat) : Nat → Nat
  | 0 => x0
  | j + 1 => ld (kcx x0 C j) (C j % 128)
def o_ok (o : ost) : Prop := o_n o ≤ 300 ∧ o_x o 0 = 0 ∧ ∀ i, i < o_n o → o_c o i < 2 ^ 31 ∧ 32 ≤ o_c o i % 128 ∧ o_c o i % 128 ≤ 126 ∧ o_x o (i + 1) = ld (o_x o i) (o_c o i % 128) ∧ gz (o_x o i) (o_c o i)
theorem o_x8 {o : ost} (h : o_ok o) : ∀ {i : Nat}, i ≤ o_n o → o_x o i < 8
  | 0, _ => by rw [h.2.1]; decide
  | i + 1, hi => by
    obtain ⟨-, -, h3, h4, -⟩ := h.2.2 i (by omega)
    rw [h4]
    exact (ld_f (o_x8 h (by omega)) (by omega)).2.2
/-- one cell more -/
def o_p (o : ost) (z : Nat) : ost := (o_n o + 1, fun i => if i = o_n o then z else o_c o i, fun i => if i = o_n o + 1 then ld (o_x o (o_n o)) (z % 128) else o_x o i, false)
def o_t (o : ost) (z : Nat) : Int32 × ost := if o_n o = 300 then (Int32.ofInt (-10), o) else (nI 0, o_p o z)
theorem o_pok {o : ost} {z : Nat} (h : o_ok o) (hn : o_n o < 300) (hz : z < 2 ^ 31) (h1 : 32 ≤ z % 128 ∧ z % 128 ≤ 126) (hg : gz (o_x o (o_n o)) z) : o_ok (o_p o z) := by
  refine ⟨by show o_n o + 1 ≤ 300; omega, ?_, fun i hi => ?_⟩
  · show (if 0 = o_n o + 1 then ld (o_x o (o_n o)) (z % 128) else o_x o 0) = 0
    rw [if_neg (by omega)]
    exact h.2.1
  · have hi' : i < o_n o + 1 := hi
    show (if i = o_n o then z else o_c o i) < 2 ^ 31 ∧ 32 ≤ (if i = o_n o then z else o_c o i) % 128 ∧ (if i = o_n o then z else o_c o i) % 128 ≤ 126 ∧ (if i + 1 = o_n o + 1 then ld (o_x o (o_n o)) (z % 128) else o_x o (i + 1)) = ld (if i = o_n o + 1 then ld (o_x o (o_n o)) (z % 128) else o_x o i) ((if i = o_n o then z else o_c o i) % 128) ∧ gz (if i = o_n o + 1 then ld (o_x o (o_n o)) (z % 128) else o_x o i) (if i = o_n o then z else o_c o i)
    by_cases q : i = o_n o
    · subst q
      rw [if_pos rfl, if_pos rfl, if_neg (by omega)]
      exact ⟨hz, h1.1, h1.2, rfl, hg⟩
    · rw [if_neg q, if_neg (by omega), if_neg (by omega)]
      exact h.2.2 i (by omega)
/-- the context behind a cell -/
theorem o_px {o : ost} {z : Nat} : o_x (o_p o z) (o_n (o_p o z)) = ld (o_x o (o_n o)) (z % 128) := if_pos rfl
theorem kcx_o {o : ost} (h : o_ok o) {b : Nat} : ∀ {j : Nat}, b + j ≤ o_n o → kcx (o_x o b) (fun j => o_c o (b + j)) j = o_x o (b + j)
  | 0, _ => rfl
  | j + 1, hj => by
    show ld (kcx (o_x o b) (fun j => o_c o (b + j)) j) (o_c o (b + j) % 128) = o_x o (b + j + 1)
    rw [kcx_o h (j := j) (by omega), (h.2.2 (b + j) (by omega)).2.2.2.1]
theorem o_tok {o : ost} {z : Nat} (h : o_ok o) (hz : z < 2 ^ 31) (h1 : 32 ≤ z % 128 ∧ z % 128 ≤ 126) (hg : gz (o_x o (o_n o)) z) : o_ok (o_t o z).2 := by
  have := h.1
  unfold o_t
  by_cases q : o_n o = 300
  · rw [if_pos q]; exact h
  · rw [if_neg q]; exact o_pok h (by omega) hz h1 hg
/-- the class's output, the model's -/
def oC (G : mj_G) (o : ost) : Prop := o_ok o ∧ (mj_r G 1589 0 = 1590 ∨ mj_r G 1589 0 = 1591) ∧ mj_i G 1589 1 = nI (o_n o) ∧ mj_i G 1589 5 = bI (o_w o) ∧ (∀ i, i < o_n o → mj_i G (mj_r G 1589 0) i = nI (o_c o i)) ∧ ∀ i, i ≤ o_n o → mj_i G 1592 i = nI (o_x o i)
def oM (f : mm_F) (o : ost) : Prop := o_ok o ∧ f 1714 61 = nI (o_n o) ∧ f 1714 62 = bI (o_w o) ∧ (∀ i, i < o_n o → f 1759 i = om (o_c o i)) ∧ ∀ i, i ≤ o_n o → f 1760 i = nI (o_x o i)
/-- what putting out writes -/
def oW (a : Nat) : Prop := 1589 ≤ a ∧ a ≤ 1593
def oS (j : Nat) : Prop := j = 61 ∨ j = 62 ∨ j = 70
def oR (a : Nat) : Prop := a = 1759 ∨ a = 1760
/-- what putting out leaves of the output's object and of the output before -/
def oX (G G' : mj_G) : Prop := (∀ j, mj_r G' 1589 j = mj_r G 1589 j) ∧ mj_i G' 1589 3 = mj_i G 1589 3 ∧ ∀ a j, (a = 1590 ∨ a = 1591) → a ≠ mj_r G 1589 0 → mj_i G' a j = mj_i G a j
theorem oX_r {G : mj_G} : oX G G := ⟨fun _ => rfl, rfl, fun _ _ _ _ => rfl⟩
theorem oX_t {G G1 G' : mj_G} (h1 : oX G G1) (h2 : oX G1 G') : oX G G' := ⟨fun j => (h2.1 j).trans (h1.1 j), h2.2.1.trans h1.2.1, fun a j q r => (h2.2.2 a j q (by rw [h1.1 0]; exact r)).trans (h1.2.2 a j q r)⟩
section OP
variable {ρ : Nat → Nat} {D : Nat → rv} {I : Nat → Nat → rv} {G Gm : mj_G} {f : mm_F} {d z : Nat} {o : ost}
theorem oW_im {a : Nat} (h : oW a) : ¬ im_o a := by
  unfold oW at h
  unfold im_o
  omega
/-- a write to the output -/
theorem o_hI {a j : Nat} {y : Int32} (h : hh ρ D I G) (ha : oW a) : hh ρ D I (mj_pI G a j y) ∧ fw ρ oW G (mj_pI G a j y) := by
  have hk : mj_k G a ≠ 12 := by
    unfold oW at ha
    rcases (by omega : a = 1589 ∨ a = 1590 ∨ a = 1591 ∨ a = 1592 ∨ a = 1593) with rfl | rfl | rfl | rfl | rfl
    · rw [cs_k (K := 7) h.1 rfl]; decide
    · rw [cs_k (K := 20) h.1 rfl]; decide
    · rw [cs_k (K := 20) h.1 rfl]; decide
    · rw [cs_k (K := 20) h.1 rfl]; decide
    · rw [cs_k (K := 22) h.1 rfl]; decide
  have ho : ow ρ a = a := ow_s (by unfold oW at ha; omega)
  exact ⟨hh_I h (by unfold imm; rw [ho]; exact oW_im ha) (fun _ q => absurd q hk), fw_I (by rw [ho]; exact ha)⟩
theorem c_put {K : Int32 → mj_G → Prop} (h : hh ρ D I G) (ho : oC G o) (hd : 15 ≤ d) (hz : z < 2 ^ 31) (h1 : 32 ≤ z % 128 ∧ z % 128 ≤ 126) (hg : gz (o_x o (o_n o)) z) (hK : ∀ G', hh ρ D I G' → fw ρ oW G G' → oX G G' → (∀ j, mj_i G' 1593 j = mj_i G 1593 j) → oC G' (o_t o z).2 → K (o_t o z).1 G') : Ou_put (d + 1) (nI z) G K := by
  obtain ⟨k1, k2, k3, k4, k5, k6⟩ := ho
  have hn := k1.1
  have x8 := o_x8 k1 (Nat.le_refl _)
  have kr : mj_k G (mj_r G 1589 0) = 20 ∧ mj_l G (mj_r G 1589 0) = 300 := by
    rcases k2 with e | e
    · rw [e]; exact ⟨cs_k h.1 rfl, cs_l h.1 rfl⟩
    · rw [e]; exact ⟨cs_k h.1 rfl, cs_l h.1 rfl⟩
  have hr : mj_r G 1589 0 ≠ 1589 ∧ mj_r G 1589 0 ≠ 1592 ∧ mj_r G 1589 0 ≠ 1593 ∧ oW (mj_r G 1589 0) := by unfold oW; omega
  refine w_Ou_put h.1 (by omega) ?_
  rw [k3, z_lt (by omega) (by decide), kr.2]
  refine z_br (fun q => ⟨kr.1, by omega, z_ixi (by omega) (by decide) ?_⟩) (fun q => ?_)
  · rintro _ rfl
    have e : o_t o z = (nI 0, o_p o z) := by unfold o_t; rw [if_neg (by omega)]
    rw [e] at hK
    rw [z_iIn hr.1.symm, k3, z_add]
    refine z_ixi (by omega) (by decide) (z_ixi (by omega) (by decide) ?_)
    rintro _ rfl
    rintro _ rfl
    rintro _ rfl
    rw [z_iIn hr.2.1.symm, k6 _ (Nat.le_refl _), q_40 hz, (ld_f x8 (by omega)).2.1, show mj_i (mj_pI (mj_pI G (mj_r G 1589 0) (o_n o) (nI z)) 1592 (o_n o + 1) (nI (ld (o_x o (o_n o)) (z % 128)))) 1589 1 = nI (o_n o) from (z_iIn (by decide)).trans ((z_iIn hr.1.symm).trans k3), z_add]
    obtain ⟨h2, F2⟩ := o_hI (j := o_n o) (y := nI z) h hr.2.2.2
    obtain ⟨h3, F3⟩ := o_hI (a := 1592) (j := o_n o + 1) (y := nI (ld (o_x o (o_n o)) (z % 128))) h2 (by unfold oW; decide)
    obtain ⟨h4, F4⟩ := o_hI (a := 1589) (j := 1) (y := nI (o_n o + 1)) h3 (by unfold oW; decide)
    obtain ⟨h5, F5⟩ := o_hI (a := 1589) (j := 5) (y := nI 0) h4 (by unfold oW; decide)
    refine hK _ h5 (fw_t F2 ro_r (fw_t F3 ro_r (fw_t F4 ro_r F5))) ⟨fun _ => rfl, (z_iIm (by decide)).trans ((z_iIm (by decide)).trans ((z_iIn (by decide)).trans (z_iIn hr.1.symm))), fun a j q1 q2 => (z_iIn (by omega)).trans ((z_iIn (by omega)).trans ((z_iIn (by omega)).trans (z_iIn q2)))⟩ (fun j => (z_iIn (by decide)).trans ((z_iIn (by decide)).trans ((z_iIn (by decide)).trans (z_iIn hr.2.2.1.symm)))) ⟨o_pok k1 q hz h1 hg, k2, (z_iIm (by decide)).trans z_iIs, z_iIs, fun i hi => ?_, fun i hi => ?_⟩
    · have hi' : i < o_n o + 1 := hi
      refine (z_iIn hr.1).trans ((z_iIn hr.1).trans ((z_iIn hr.2.1).trans ?_))
      show mj_i (mj_pI G (mj_r G 1589 0) (o_n o) (nI z)) (mj_r G 1589 0) i = nI (if i = o_n o then z else o_c o i)
      by_cases e2 : i = o_n o
      · rw [if_pos e2, e2, z_iIs]
      · rw [if_neg e2, z_iIm e2]
        exact k5 i (by omega)
    · have hi' : i ≤ o_n o + 1 := hi
      refine (z_iIn (by decide)).trans ((z_iIn (by decide)).trans ?_)
      show _ = nI (if i = o_n o + 1 then ld (o_x o (o_n o)) (z % 128) else o_x o i)
      by_cases e2 : i = o_n o + 1
      · rw [if_pos e2, e2, z_iIs]
      · rw [if_neg e2, z_iIm e2, z_iIn hr.2.1.symm]
        exact k6 i (by omega)
  · have e : o_t o z = (Int32.ofInt (-10), o) := by unfold o_t; rw [if_pos (by omega)]
    rw [e] at hK
    exact hK G h fw_r oX_r (fun _ => rfl) ⟨k1, k2, k3, k4, k5, k6⟩
/-- the model's character, as a cell of the class -/
theorem p_put {b : Bool} {c s : Nat} {K : mm_F → Prop} (hM : mm_S Gm) (ho : oM f o) (h70 : f 1714 70 = nI 0) (hd : 15 ≤ d) (hz : z < 2 ^ 31) (h1 : 32 ≤ c ∧ c ≤ 126) (e1 : z % 128 = c) (e2 : z / 262144 = s) (e3 : oc_b z = b) (hg : gz (o_x o (o_n o)) z) (hK : ∀ f', mw no_R oS oR f f' → oM f' (o_t o z).2 → f' 1714 70 = (o_t o z).1 → K f') : m_puts Gm (d + 1) (nI c) (nI s) (bI b) f K := by
  obtain ⟨k1, k3, k4, k5, k6⟩ := ho
  have hn := k1.1
  have x8 := o_x8 k1 (Nat.le_refl _)
  refine w_m_puts hM (by omega) (z_bt h70 ?_)
  rw [k3, z_eq (by omega) (by decide)]
  refine z_br (fun q => ?_) (fun q => ?_)
  · have e : o_t o z = (Int32.ofInt (-10), o) := by unfold o_t; rw [if_pos q]
    rw [e] at hK
    exact hK _ (mw_S (Or.inr (Or.inr rfl))) ⟨k1, (z_u2m (by decide)).trans k3, (z_u2m (by decide)).trans k4, fun i hi => (z_u2n (by decide)).trans (k5 i hi), fun i hi => (z_u2n (by decide)).trans (k6 i hi)⟩ z_u2s
  · have e : o_t o z = (nI 0, o_p o z) := by unfold o_t; rw [if_neg q]
    rw [e] at hK
    have go : ∀ y : Int32, y = om z → mm_ix ((mj_u2 f 1759 (o_n o) y) 1714 61) 301 (fun n2 => mm_ix (((mj_u2 f 1759 (o_n o) y) 1714 61) + (nI 1)) 301 (fun n3 => K (mj_u2 (mj_u2 (mj_u2 (mj_u2 f 1759 (o_n o) y) 1760 n3 (q_13076 ((mj_u2 f 1759 (o_n o) y) 1760 n2) (nI c))) 1714 61 (((mj_u2 (mj_u2 f 1759 (o_n o) y) 1760 n3 (q_13076 ((mj_u2 f 1759 (o_n o) y) 1760 n2) (nI c))) 1714 61) + (nI 1))) 1714 62 (nI 0)))) := fun y hy => by
      rw [show (mj_u2 f 1759 (o_n o) y) 1714 61 = nI (o_n o) from (z_u2n (by decide)).trans k3, z_add]
      refine z_ixi (by omega) (by decide) (z_ixi (by omega) (by decide) ?_)
      rw [show (mj_u2 f 1759 (o_n o) y) 1760 (o_n o) = nI (o_x o (o_n o)) from (z_u2n (by decide)).trans (k6 _ (Nat.le_refl _)), (ld_f x8 (by omega)).1, show (mj_u2 (mj_u2 f 1759 (o_n o) y) 1760 (o_n o + 1) (nI (ld (o_x o (o_n o)) c))) 1714 61 = nI (o_n o) from (z_u2n (by decide)).trans ((z_u2n (by decide)).trans k3), z_add]
      refine hK _ (mw_t (mw_R (by decide) (Or.inl rfl)) (mw_t (mw_R (by decide) (Or.inr rfl)) (mw_t (mw_S (Or.inl rfl)) (mw_S (Or.inr (Or.inl rfl)))))) ⟨o_pok k1 (by omega) hz (by omega) hg, (z_u2m (by decide)).trans z_u2s, z_u2s, fun i hi => ?_, fun i hi => ?_⟩ ((z_u2m (by decide)).trans ((z_u2m (by decide)).trans ((z_u2n (by decide)).trans ((z_u2n (by decide)).trans h70))))
      · have hi' : i < o_n o + 1 := hi
        refine (z_u2n (by decide)).trans ((z_u2n (by decide)).trans ((z_u2n (by decide)).trans ?_))
        show mj_u2 f 1759 (o_n o) y 1759 i = om (if i = o_n o then z else o_c o i)
        by_cases e4 : i = o_n o
        · rw [if_pos e4, e4, z_u2s]; exact hy
        · rw [if_neg e4, z_u2m e4]; exact k5 i (by omega)
      · have hi' : i ≤ o_n o + 1 := hi
        refine (z_u2n (by decide)).trans ((z_u2n (by decide)).trans ?_)
        show _ = nI (if i = o_n o + 1 then ld (o_x o (o_n o)) (z % 128) else o_x o i)
        by_cases e4 : i = o_n o + 1
        · rw [if_pos e4, e4, z_u2s, e1]
        · rw [if_neg e4, z_u2m e4]
          exact (z_u2n (by decide)).trans (k6 i (by omega))
    cases b with
    | false =>
      refine z_bt rfl (z_ixi (by omega) (by decide) (go _ ?_))
      unfold om
      rw [e3, if_neg (by decide), e1, e2, z_mul, z_add, z_add]
    | true =>
      refine z_bf (by decide) (z_ixi (by omega) (by decide) (go _ ?_))
      unfold om
      rw [e3, if_pos rfl, e1, e2, z_mul, z_add, z_add]
end OP
