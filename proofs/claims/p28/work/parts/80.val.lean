/-! RENDERING: values as both sides hold them; which cells a step may write -/
/-- kind (0 nothing, 1 number, 2 text, 3 list), number, length, characters, whether safe, the letter of the list -/
abbrev rv : Type := Nat × Int32 × Nat × (Nat → Nat) × Bool × Nat
def rv_t (v : rv) : Nat := v.1
def rv_n (v : rv) : Int32 := v.2.1
def rv_l (v : rv) : Nat := v.2.2.1
def rv_c (v : rv) : Nat → Nat := v.2.2.2.1
def rv_s (v : rv) : Bool := v.2.2.2.2.1
def rv_d (v : rv) : Nat := v.2.2.2.2.2
def rv_0 : rv := (0, 0, 0, fun _ => 0, true, 0)
def rv_N (x : Int32) : rv := (1, x, 0, fun _ => 0, true, 0)
def rv_T (n : Nat) (c : Nat → Nat) (s : Bool) : rv := (2, 0, n, c, s, 0)
def rv_L (l n : Nat) : rv := (3, 0, n, fun _ => 0, true, l)
def rv_ok (v : rv) : Prop := rv_t v ≤ 3 ∧ (rv_t v ≤ 1 → rv_l v = 0) ∧ (rv_t v ≠ 2 → rv_s v = true) ∧ (rv_t v = 2 → rv_l v ≤ 300 ∧ ∀ j, j < rv_l v → 32 ≤ rv_c v j ∧ rv_c v j ≤ 126) ∧ (rv_t v = 3 → rv_l v ≤ 8 ∧ rv_d v < 26)
theorem rv_ok0 : rv_ok rv_0 := ⟨by decide, fun _ => rfl, fun _ => rfl, fun h => absurd h (by decide), fun h => absurd h (by decide)⟩
theorem rv_okN {x : Int32} : rv_ok (rv_N x) := ⟨(by show 1 ≤ 3; omega), fun _ => rfl, fun _ => rfl, fun h => absurd h (by show ¬ 1 = 2; omega), fun h => absurd h (by show ¬ 1 = 3; omega)⟩
theorem rv_okT {n : Nat} {c : Nat → Nat} {s : Bool} (hn : n ≤ 300) (hc : ∀ j, j < n → 32 ≤ c j ∧ c j ≤ 126) : rv_ok (rv_T n c s) := ⟨(by show 2 ≤ 3; omega), fun h => absurd h (by show ¬ 2 ≤ 1; omega), fun h => absurd rfl h, fun _ => ⟨hn, hc⟩, fun h => absurd h (by show ¬ 2 = 3; omega)⟩
theorem rv_okL {l n : Nat} (hn : n ≤ 8) (hl : l < 26) : rv_ok (rv_L l n) := ⟨(by show 3 ≤ 3; omega), fun h => absurd h (by show ¬ 3 ≤ 1; omega), fun _ => rfl, fun h => absurd h (by show ¬ 3 = 2; omega), fun _ => ⟨hn, hl⟩⟩
/-- the class's sign of a kind -/
def rv_k (t : Nat) : Nat := if t = 0 then 1 else if t = 1 then 2 else if t = 2 then 4 else 8
theorem rv_k0 : rv_k 0 = 1 := rfl
theorem rv_k1 : rv_k 1 = 2 := rfl
theorem rv_k2 : rv_k 2 = 4 := rfl
theorem rv_k3 : rv_k 3 = 8 := rfl
theorem rv_kx {t s : Nat} (h : t ≤ 3) (hs : s ≤ 3) : (nI (rv_k t) = nI (rv_k s)) = (t = s) := by
  rcases (by omega : t = 0 ∨ t = 1 ∨ t = 2 ∨ t = 3) with rfl | rfl | rfl | rfl <;> rcases (by omega : s = 0 ∨ s = 1 ∨ s = 2 ∨ s = 3) with rfl | rfl | rfl | rfl <;> exact propext (by decide)
theorem rv_kn {t s : Nat} (h : t ≤ 3) (hs : s = 1 ∨ s = 2 ∨ s = 4 ∨ s = 8) : (nI (rv_k t) = nI s) = ((t = 0 ∧ s = 1) ∨ (t = 1 ∧ s = 2) ∨ (t = 2 ∧ s = 4) ∨ (t = 3 ∧ s = 8)) := by
  rcases (by omega : t = 0 ∨ t = 1 ∨ t = 2 ∨ t = 3) with rfl | rfl | rfl | rfl <;> rcases hs with rfl | rfl | rfl | rfl <;> exact propext (by decide)
/-- a class's Value, its characters in a row of P -/
def cv (P : Nat → Prop) (G : mj_G) (a : Nat) (v : rv) : Prop := mj_k G a = 12 ∧ mj_b (mj_i G a 2) ∧ mj_i G a 0 = nI (rv_k (rv_t v)) ∧ (rv_t v = 1 → mj_i G a 1 = rv_n v) ∧
  (rv_t v = 2 → mj_i G a 4 = nI (rv_l v) ∧ mj_i G a 2 = bI (rv_s v) ∧ P (mj_r G a 3) ∧ 2 ≤ mj_r G a 3 ∧ mj_r G a 3 < mj_n G ∧ mj_k G (mj_r G a 3) = 22 ∧ rv_l v ≤ mj_l G (mj_r G a 3) ∧ ∀ j, j < rv_l v → mj_i G (mj_r G a 3) j = nI (rv_c v j)) ∧
  (rv_t v = 3 → mj_r G a 5 = mj_r G (mj_r G 12 (rv_d v)) 5)
/-- the model's value at a place -/
def mv (f : mm_F) (k : Nat) (v : rv) : Prop := f 1728 k = nI (rv_t v) ∧ f 1730 k = nI (rv_l v) ∧ f 1731 k = bI (rv_s v) ∧ (rv_t v = 1 → f 1729 k = rv_n v) ∧ (rv_t v = 3 → f 1729 k = nI (rv_d v)) ∧ (rv_t v = 2 → ∀ j, j < rv_l v → f 1732 (300 * k + j) = nI (rv_c v j))
/-- whom a cell belongs to: itself, if it stands; ρ tells of the others: 0 is never written -/
def ow (ρ : Nat → Nat) (a : Nat) : Nat := if a < 1768 then a else ρ a
theorem ow_s {ρ : Nat → Nat} {a : Nat} (h : a < 1768) : ow ρ a = a := if_pos h
theorem ow_d {ρ : Nat → Nat} {a : Nat} (h : 1768 ≤ a) : ow ρ a = ρ a := if_neg (by omega)
/-- what rendering never writes -/
def im_o (o : Nat) : Prop := o = 0 ∨ o = 2 ∨ o = 7 ∨ o = 8 ∨ o = 12 ∨ (15 ≤ o ∧ o ≤ 66) ∨ (1594 ≤ o ∧ o ≤ 1673 ∧ (o - 1594) % 8 ≤ 2) ∨ (1674 ≤ o ∧ o ≤ 1713)
-- sums
def sm : Nat → (Nat → Nat) → Nat
  | 0, _ => 0
  | n + 1, g => sm n g + g n
theorem sm_c {g h : Nat → Nat} : ∀ {n : Nat}, (∀ i, i < n → g i = h i) → sm n g = sm n h
  | 0, _ => rfl
  | n + 1, e => by
    show sm n g + g n = sm n h + h n
    rw [sm_c (fun i hi => e i (by omega)), e n (Nat.lt_succ_self n)]
theorem sm_u {g h : Nat → Nat} {i w : Nat} : ∀ {n : Nat}, i < n → (∀ j, j < n → j ≠ i → h j = g j) → h i + w ≤ g i → sm n h + w ≤ sm n g
  | 0, hi, _, _ => absurd hi (by omega)
  | n + 1, hi, e, hw => by
    show sm n h + h n + w ≤ sm n g + g n
    by_cases hn : i = n
    · subst hn
      rw [sm_c (g := h) (h := g) (fun j hj => e j (by omega) (by omega))]
      omega
    · have := sm_u (g := g) (h := h) (i := i) (w := w) (n := n) (by omega) (fun j hj hne => e j (by omega) hne) hw
      rw [e n (Nat.lt_succ_self n) (fun q => hn q.symm)]
      omega
/-- the arrays of kept values -/
def fg_a (i : Nat) : Nat := 1600 + 8 * (i / 52) + i % 52 / 26
theorem fg_al {i : Nat} (h : i < 520) : 1594 ≤ fg_a i ∧ fg_a i ≤ 1673 ∧ 6 ≤ (fg_a i - 1594) % 8 := by
  unfold fg_a
  omega
/-- what is not made yet, in weights of a row and of a Value -/
def pw (x y : Nat) (G : mj_G) : Nat := sm 320 (fun i => if mj_r G (67 + 2 * i) 7 = 2 then x else 0) + sm 40 (fun i => if mj_r G (1509 + 2 * i) 7 = 2 then x else 0) + sm 200 (fun i => if mj_r G (707 + 4 * i) 18 = 0 then x else 0) +
  sm 520 (fun i => if mj_r G (fg_a i) (i % 26) = 0 then y + x else if mj_r G (mj_r G (fg_a i) (i % 26)) 7 = 2 then x else 0)
theorem pw_c {x y : Nat} {G G' : mj_G} (h1 : ∀ i, i < 320 → mj_r G' (67 + 2 * i) 7 = mj_r G (67 + 2 * i) 7) (h2 : ∀ i, i < 40 → mj_r G' (1509 + 2 * i) 7 = mj_r G (1509 + 2 * i) 7) (h3 : ∀ i, i < 200 → mj_r G' (707 + 4 * i) 18 = mj_r G (707 + 4 * i) 18)
    (h4 : ∀ i, i < 520 → mj_r G' (fg_a i) (i % 26) = mj_r G (fg_a i) (i % 26) ∧ (mj_r G (fg_a i) (i % 26) ≠ 0 → mj_r G' (mj_r G (fg_a i) (i % 26)) 7 = mj_r G (mj_r G (fg_a i) (i % 26)) 7)) : pw x y G' = pw x y G := by
  unfold pw
  rw [sm_c (g := fun i => if mj_r G' (67 + 2 * i) 7 = 2 then x else 0) (h := fun i => if mj_r G (67 + 2 * i) 7 = 2 then x else 0) (fun i hi => by show (if _ then _ else _) = _; rw [h1 i hi]), sm_c (g := fun i => if mj_r G' (1509 + 2 * i) 7 = 2 then x else 0) (h := fun i => if mj_r G (1509 + 2 * i) 7 = 2 then x else 0) (fun i hi => by show (if _ then _ else _) = _; rw [h2 i hi]), sm_c (g := fun i => if mj_r G' (707 + 4 * i) 18 = 0 then x else 0) (h := fun i => if mj_r G (707 + 4 * i) 18 = 0 then x else 0) (fun i hi => by show (if _ then _ else _) = _; rw [h3 i hi])]
  have e4 := sm_c (n := 520) (g := fun i => if mj_r G' (fg_a i) (i % 26) = 0 then y + x else if mj_r G' (mj_r G' (fg_a i) (i % 26)) 7 = 2 then x else 0) (h := fun i => if mj_r G (fg_a i) (i % 26) = 0 then y + x else if mj_r G (mj_r G (fg_a i) (i % 26)) 7 = 2 then x else 0) (fun i hi => by
    obtain ⟨e1, e2⟩ := h4 i hi
    show (if _ then _ else _) = (if _ then _ else _)
    rw [e1]
    by_cases h0 : mj_r G (fg_a i) (i % 26) = 0
    · rw [if_pos h0, if_pos h0]
    · rw [if_neg h0, if_neg h0, e2 h0])
  rw [e4]
/-- the rows of Values and frames, and the kept Values, are where they were told -/
def ho_v (ρ : Nat → Nat) (G : mj_G) (a o : Nat) : Prop := mj_r G a 7 = 2 ∨ (1768 ≤ mj_r G a 7 ∧ mj_r G a 7 < mj_n G ∧ ρ (mj_r G a 7) = o ∧ mj_k G (mj_r G a 7) = 22 ∧ mj_l G (mj_r G a 7) = 300)
def ho_f (ρ : Nat → Nat) (G : mj_G) (a : Nat) : Prop := mj_r G a 18 = 0 ∨ (1768 ≤ mj_r G a 18 ∧ mj_r G a 18 < mj_n G ∧ ρ (mj_r G a 18) = a ∧ mj_k G (mj_r G a 18) = 20 ∧ mj_l G (mj_r G a 18) = 300)
def ho_k (ρ : Nat → Nat) (G : mj_G) (i : Nat) : Prop := mj_r G (fg_a i) (i % 26) = 0 ∨ (1768 ≤ mj_r G (fg_a i) (i % 26) ∧ mj_r G (fg_a i) (i % 26) < mj_n G ∧ ρ (mj_r G (fg_a i) (i % 26)) = 2000 + i ∧ mj_k G (mj_r G (fg_a i) (i % 26)) = 12 ∧ ho_v ρ G (mj_r G (fg_a i) (i % 26)) (2000 + i))
def ho (ρ : Nat → Nat) (G : mj_G) : Prop := (∀ i, i < 320 → ho_v ρ G (67 + 2 * i) (67 + 2 * i)) ∧ (∀ i, i < 40 → ho_v ρ G (1509 + 2 * i) (1509 + 2 * i)) ∧ (∀ i, i < 200 → ho_f ρ G (707 + 4 * i)) ∧ (∀ i, i < 520 → ho_k ρ G i) ∧ (∀ i, i < 520 → mj_k G (fg_a i) = 41 ∧ mj_l G (fg_a i) = 26)
/-- cells of no owner in W are as they were; the room is kept -/
def fw (ρ : Nat → Nat) (W : Nat → Prop) (G G' : mj_G) : Prop := mj_n G ≤ mj_n G' ∧ mj_n G' + pw 1 2 G' ≤ mj_n G + pw 1 2 G ∧ mj_u G' + pw 300 8 G' ≤ mj_u G + pw 300 8 G ∧ ∀ a, a < mj_n G → mj_k G' a = mj_k G a ∧ mj_l G' a = mj_l G a ∧ (¬ W (ow ρ a) → (∀ j, mj_r G' a j = mj_r G a j) ∧ ∀ j, mj_i G' a j = mj_i G a j)
/-- ρ' tells more than ρ -/
def ro_e (ρ ρ' : Nat → Nat) (G : mj_G) : Prop := ∀ a, a < mj_n G → ρ' a = ρ a
section FW
variable {ρ ρ' : Nat → Nat} {W W' : Nat → Prop} {G G1 G' : mj_G} {a j x : Nat} {z : Int32}
theorem ro_r : ro_e ρ ρ G := fun _ _ => rfl
theorem ro_ow (h : ro_e ρ ρ' G) (ha : a < mj_n G) : ow ρ' a = ow ρ a := by
  unfold ow
  rw [h a ha]
theorem ro_t {ρ2 : Nat → Nat} (h : ro_e ρ ρ' G) (hn : mj_n G ≤ mj_n G1) (h2 : ro_e ρ' ρ2 G1) : ro_e ρ ρ2 G := fun a ha => (h2 a (by omega)).trans (h a ha)
theorem fw_r : fw ρ W G G := ⟨Nat.le_refl _, Nat.le_refl _, Nat.le_refl _, fun _ _ => ⟨rfl, rfl, fun _ => ⟨fun _ => rfl, fun _ => rfl⟩⟩⟩
theorem fw_t (h1 : fw ρ W G G1) (he : ro_e ρ ρ' G) (h2 : fw ρ' W G1 G') : fw ρ W G G' := by
  refine ⟨Nat.le_trans h1.1 h2.1, Nat.le_trans h2.2.1 h1.2.1, Nat.le_trans h2.2.2.1 h1.2.2.1, fun a ha => ?_⟩
  obtain ⟨a1, a2, a3⟩ := h1.2.2.2 a ha
  obtain ⟨b1, b2, b3⟩ := h2.2.2.2 a (Nat.lt_of_lt_of_le ha h1.1)
  refine ⟨b1.trans a1, b2.trans a2, fun hw => ?_⟩
  obtain ⟨c1, c2⟩ := a3 hw
  obtain ⟨d1, d2⟩ := b3 (by rw [ro_ow he ha]; exact hw)
  exact ⟨fun j => (d1 j).trans (c1 j), fun j => (d2 j).trans (c2 j)⟩
theorem fw_m (h : fw ρ W G G') (hW : ∀ o, W o → W' o) : fw ρ W' G G' := ⟨h.1, h.2.1, h.2.2.1, fun a ha => ⟨(h.2.2.2 a ha).1, (h.2.2.2 a ha).2.1, fun hw => (h.2.2.2 a ha).2.2 (fun q => hw (hW _ q))⟩⟩
theorem fw_I (h : W (ow ρ a)) : fw ρ W G (mj_pI G a j z) := ⟨Nat.le_refl _, Nat.le_refl _, Nat.le_refl _, fun b _ => ⟨rfl, rfl, fun hw => ⟨fun _ => rfl, fun _ => z_iIn (fun q => hw (by rw [q]; exact h))⟩⟩⟩
/-- references that tell what is made -/
def lz (a j : Nat) : Prop := (67 ≤ a ∧ a ≤ 706 ∧ j = 7) ∨ (1509 ≤ a ∧ a ≤ 1588 ∧ j = 7) ∨ (707 ≤ a ∧ a ≤ 1506 ∧ j = 18) ∨ (1594 ≤ a ∧ a ≤ 1673 ∧ 6 ≤ (a - 1594) % 8) ∨ (1768 ≤ a ∧ j = 7)
theorem pw_R {u v : Nat} (h : ¬ lz a j) (hk : ∀ i, i < 520 → mj_r G (fg_a i) (i % 26) ≠ 0 → 1768 ≤ mj_r G (fg_a i) (i % 26)) : pw u v (mj_pR G a j x) = pw u v G := by
  unfold lz at h
  refine pw_c (fun i hi => ?_) (fun i hi => ?_) (fun i hi => ?_) (fun i hi => ⟨?_, fun h0 => ?_⟩)
  · exact if_neg (fun q => by omega)
  · exact if_neg (fun q => by omega)
  · exact if_neg (fun q => by omega)
  · have := fg_al hi
    exact if_neg (fun q => by omega)
  · have := hk i hi h0
    exact if_neg (fun q => by omega)
theorem ho_d (h : ho ρ G) : ∀ i, i < 520 → mj_r G (fg_a i) (i % 26) ≠ 0 → 1768 ≤ mj_r G (fg_a i) (i % 26) := fun i hi h0 => by
  rcases h.2.2.2.1 i hi with q | q
  · exact absurd q h0
  · exact q.1
theorem fw_R (h : W (ow ρ a)) (hl : ¬ lz a j) (ho : ho ρ G) : fw ρ W G (mj_pR G a j x) := by
  refine ⟨Nat.le_refl _, ?_, ?_, fun b _ => ⟨rfl, rfl, fun hw => ⟨fun _ => z_rRn (fun q => hw (by rw [q]; exact h)), fun _ => rfl⟩⟩⟩
  · rw [pw_R hl (ho_d ho)]; exact Nat.le_refl _
  · rw [pw_R hl (ho_d ho)]; exact Nat.le_refl _
theorem fw_cp {b sp dp m : Nat} (h : W (ow ρ a)) : fw ρ W G (mj_cp G b sp a dp m) := ⟨Nat.le_refl _, Nat.le_refl _, Nat.le_refl _, fun c _ => ⟨rfl, rfl, fun hw => ⟨fun _ => rfl, fun _ => if_neg (fun q => hw (by rw [q.1]; exact h))⟩⟩⟩
/-- what is told of rows and frames stays, where it is not written -/
theorem ho_vt {o : Nat} (h : ho_v ρ G a o) (hn : mj_n G ≤ mj_n G') (he : ro_e ρ ρ' G) (h7 : mj_r G' a 7 = mj_r G a 7) (hk : ∀ c, c < mj_n G → mj_k G' c = mj_k G c ∧ mj_l G' c = mj_l G c) : ho_v ρ' G' a o := by
  unfold ho_v at h ⊢
  rw [h7]
  rcases h with h | ⟨h1, h2, h3, h4, h5⟩
  · exact Or.inl h
  · obtain ⟨k1, k2⟩ := hk _ h2
    exact Or.inr ⟨h1, by omega, (he _ h2).trans h3, k1.trans h4, k2.trans h5⟩
theorem ho_ft (h : ho_f ρ G a) (hn : mj_n G ≤ mj_n G') (he : ro_e ρ ρ' G) (h7 : mj_r G' a 18 = mj_r G a 18) (hk : ∀ c, c < mj_n G → mj_k G' c = mj_k G c ∧ mj_l G' c = mj_l G c) : ho_f ρ' G' a := by
  unfold ho_f at h ⊢
  rw [h7]
  rcases h with h | ⟨h1, h2, h3, h4, h5⟩
  · exact Or.inl h
  · obtain ⟨k1, k2⟩ := hk _ h2
    exact Or.inr ⟨h1, by omega, (he _ h2).trans h3, k1.trans h4, k2.trans h5⟩
theorem ho_kt (h : ho_k ρ G j) (hn : mj_n G ≤ mj_n G') (he : ro_e ρ ρ' G) (h1 : mj_r G' (fg_a j) (j % 26) = mj_r G (fg_a j) (j % 26)) (h7 : mj_r G (fg_a j) (j % 26) ≠ 0 → mj_r G' (mj_r G (fg_a j) (j % 26)) 7 = mj_r G (mj_r G (fg_a j) (j % 26)) 7) (hk : ∀ c, c < mj_n G → mj_k G' c = mj_k G c ∧ mj_l G' c = mj_l G c) : ho_k ρ' G' j := by
  unfold ho_k at h ⊢
  rw [h1]
  rcases h with h | ⟨g1, g2, g3, g4, g5⟩
  · exact Or.inl h
  · exact Or.inr ⟨g1, by omega, (he _ g2).trans g3, (hk _ g2).1.trans g4, ho_vt g5 hn he (h7 (by omega)) hk⟩
/-- a step that makes nothing and writes no such reference -/
theorem ho_t (h : ho ρ G) (hn : mj_n G ≤ mj_n G') (he : ro_e ρ ρ' G) (hk : ∀ c, c < mj_n G → mj_k G' c = mj_k G c ∧ mj_l G' c = mj_l G c) (hG : 1768 ≤ mj_n G) (hr : ∀ c i, c < mj_n G → lz c i → mj_r G' c i = mj_r G c i) : ho ρ' G' := by
  obtain ⟨h1, h2, h3, h4, h5⟩ := h
  refine ⟨fun i hi => ho_vt (h1 i hi) hn he (hr _ _ (by omega) (Or.inl ⟨by omega, by omega, rfl⟩)) hk, fun i hi => ho_vt (h2 i hi) hn he (hr _ _ (by omega) (Or.inr (Or.inl ⟨by omega, by omega, rfl⟩))) hk, fun i hi => ho_ft (h3 i hi) hn he (hr _ _ (by omega) (Or.inr (Or.inr (Or.inl ⟨by omega, by omega, rfl⟩)))) hk, fun i hi => ?_, fun i hi => ?_⟩
  · have ha := fg_al hi
    refine ho_kt (h4 i hi) hn he (hr _ _ (by omega) (Or.inr (Or.inr (Or.inr (Or.inl ha))))) (fun h0 => ?_) hk
    rcases h4 i hi with q | q
    · exact absurd q h0
    · exact hr _ _ q.2.1 (Or.inr (Or.inr (Or.inr (Or.inr ⟨q.1, rfl⟩))))
  · have ha := fg_al hi
    obtain ⟨k1, k2⟩ := hk (fg_a i) (by omega)
    exact ⟨k1.trans (h5 i hi).1, k2.trans (h5 i hi).2⟩
theorem ho_I (h : ho ρ G) : ho ρ (mj_pI G a j z) := h
theorem ho_cp {b sp dp m : Nat} (h : ho ρ G) : ho ρ (mj_cp G b sp a dp m) := h
theorem ho_R (h : ho ρ G) (hG : 1768 ≤ mj_n G) (hl : ¬ lz a j) : ho ρ (mj_pR G a j x) :=
  ho_t h (Nat.le_refl _) ro_r (fun _ _ => ⟨rfl, rfl⟩) hG (fun c i _ hc => if_neg (fun q => hl (by rw [← q.1, ← q.2]; exact hc)))
/-- what rendering never writes is as it was -/
theorem fw_im (h : fw ρ W G G') (hW : ∀ o, W o → ¬ im_o o) (ha : a < mj_n G) (hi : im_o (ow ρ a)) : mj_k G' a = mj_k G a ∧ mj_l G' a = mj_l G a ∧ (∀ j, mj_r G' a j = mj_r G a j) ∧ ∀ j, mj_i G' a j = mj_i G a j := by
  obtain ⟨h1, h2, h3⟩ := h.2.2.2 a ha
  obtain ⟨h4, h5⟩ := h3 (fun q => hW _ q hi)
  exact ⟨h1, h2, h4, h5⟩
end FW
