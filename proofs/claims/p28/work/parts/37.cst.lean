/-! THE CLASS'S STANDING CELLS: what was made at the beginning and stays (wip/tools/gen37.py) -/
-- frames are 707 + 4 i (line, list behind them), variables 67 + 2 i, slots 1509 + 2 i, forms 1674 + 2 i, fragments 1597 + 8 i (line, cells, scopeValues, dataValues behind them)
def cs_k4 : Nat → Nat
  | 0 => 5
  | 1 => 20
  | 2 => 12
  | _ => 41
def cs_k8 : Nat → Nat
  | 0 => 11
  | 1 => 35
  | 2 => 35
  | 3 => 4
  | 4 => 20
  | 5 => 20
  | _ => 41
def cs_l8 : Nat → Nat
  | 1 => 11
  | 2 => 11
  | 4 => 11
  | 5 => 301
  | 6 => 27
  | 7 => 27
  | _ => 0
/-- kinds of the cells that stand; 0: nothing is said -/
def cs_kd (a : Nat) : Nat := bif Nat.beq a 2 then 22 else bif Nat.beq a 3 then 13 else bif Nat.beq a 4 then 22 else bif Nat.beq a 5 then 20 else bif Nat.beq a 6 then 9 else bif Nat.beq a 7 then 40 else bif Nat.beq a 8 then 41 else bif Nat.beq a 9 then 33 else bif Nat.beq a 10 then 2 else bif Nat.beq a 11 then 10 else bif Nat.beq a 12 then 41 else bif Nat.beq a 13 then 41 else bif Nat.beq a 14 then 34 else bif Nat.beq a 1507 then 41 else bif Nat.beq a 1508 then 22 else bif Nat.beq a 1589 then 7 else bif Nat.beq a 1590 then 20 else bif Nat.beq a 1591 then 20 else bif Nat.beq a 1592 then 20 else bif Nat.beq a 1593 then 22 else bif Nat.ble 15 a && Nat.ble a 66 then (bif Nat.beq (a % 2) 1 then 12 else 41) else bif Nat.ble 67 a && Nat.ble a 706 then (bif Nat.beq (a % 2) 1 then 12 else 41) else bif Nat.ble 707 a && Nat.ble a 1506 then cs_k4 ((a - 707) % 4) else bif Nat.ble 1509 a && Nat.ble a 1588 then (bif Nat.beq (a % 2) 1 then 12 else 41) else bif Nat.ble 1594 a && Nat.ble a 1673 then cs_k8 ((a - 1594) % 8) else bif Nat.ble 1674 a && Nat.ble a 1713 then (bif Nat.beq (a % 2) 0 then 12 else 41) else 0
/-- their lengths and 1; 0: nothing is said -/
def cs_ln (a : Nat) : Nat := bif Nat.beq a 2 then 1 else bif Nat.beq a 4 then 81 else bif Nat.beq a 5 then 27 else bif Nat.beq a 7 then 11 else bif Nat.beq a 8 then 21 else bif Nat.beq a 9 then 11 else bif Nat.beq a 12 then 27 else bif Nat.beq a 13 then 321 else bif Nat.beq a 14 then 201 else bif Nat.beq a 1507 then 41 else bif Nat.beq a 1508 then 329 else bif Nat.beq a 1590 then 301 else bif Nat.beq a 1591 then 301 else bif Nat.beq a 1592 then 302 else bif Nat.beq a 1593 then 13 else bif Nat.ble 707 a && Nat.ble a 1506 then (bif Nat.beq ((a - 707) % 4) 1 then 11 else 0) else bif Nat.ble 1594 a && Nat.ble a 1673 then cs_l8 ((a - 1594) % 8) else 0
def cs_rs (a j : Nat) : Nat := bif Nat.beq a 3 then (bif Nat.beq j 0 then 4 else bif Nat.beq j 2 then 5 else bif Nat.beq j 3 then 6 else 0) else bif Nat.beq a 6 then (bif Nat.beq j 0 then 7 else bif Nat.beq j 1 then 8 else bif Nat.beq j 2 then 9 else bif Nat.beq j 3 then 10 else bif Nat.beq j 4 then 11 else bif Nat.beq j 5 then 1589 else 0) else bif Nat.beq a 10 then (bif Nat.beq j 0 then 11 else bif Nat.beq j 1 then 1507 else bif Nat.beq j 2 then 1508 else 0) else bif Nat.beq a 11 then (bif Nat.beq j 0 then 12 else bif Nat.beq j 1 then 13 else bif Nat.beq j 3 then 14 else 0) else bif Nat.beq a 1589 then (bif Nat.beq j 4 then 1592 else bif Nat.beq j 6 then 1593 else 0) else 0
def cs_r4 (a j : Nat) : Nat := bif Nat.beq ((a - 707) % 4) 0 then (bif Nat.beq j 8 then a + 1 else bif Nat.beq j 13 then a + 2 else 0) else 0
def cs_r8 (a j : Nat) : Nat := bif Nat.beq ((a - 1594) % 8) 3 then (bif Nat.beq j 1 then a + 1 else bif Nat.beq j 5 then a + 2 else bif Nat.beq j 9 then a + 3 else bif Nat.beq j 10 then a + 4 else 0) else 0
/-- references of objects that stand; 0: nothing is said -/
def cs_ro (a j : Nat) : Nat := bif Nat.ble 707 a && Nat.ble a 1506 then cs_r4 a j else bif Nat.ble 1594 a && Nat.ble a 1673 then cs_r8 a j else cs_rs a j
abbrev cs_w (a : Nat) : Prop := a ≠ 8 ∧ a ≠ 9 ∧ a ≠ 13 ∧ a ≠ 14 ∧ a ≠ 1507
def cs_S (G : mj_G) : Prop := 1768 ≤ mj_n G ∧ (∀ a, cs_kd a = 0 ∨ mj_k G a = cs_kd a) ∧ (∀ a, cs_ln a = 0 ∨ mj_l G a + 1 = cs_ln a) ∧ (∀ a j, cs_ro a j = 0 ∨ mj_r G a j = cs_ro a j) ∧
  (∀ j, j < 20 → mj_r G 8 j = 1674 + 2 * j) ∧ (∀ j, j < 10 → mj_r G 9 j = 1597 + 8 * j) ∧ (∀ j, j < 320 → mj_r G 13 j = 67 + 2 * j) ∧ (∀ j, j < 200 → mj_r G 14 j = 707 + 4 * j) ∧ (∀ j, j < 40 → mj_r G 1507 j = 1509 + 2 * j)
theorem cs_k {G : mj_G} {a K : Nat} (hS : cs_S G) (h : (Nat.beq (cs_kd a) K && Nat.ble 1 K) = true) : mj_k G a = K := by
  rw [Bool.and_eq_true] at h
  have h1 := Nat.eq_of_beq_eq_true h.1
  have h2 := Nat.le_of_ble_eq_true h.2
  rcases hS.2.1 a with h3 | h3
  · omega
  · rw [h3, h1]
theorem cs_kg {G : mj_G} {a : Nat} (hS : cs_S G) (h : Nat.ble 30 (cs_kd a) = true) : 30 ≤ mj_k G a := by
  have h2 := Nat.le_of_ble_eq_true h
  rcases hS.2.1 a with h3 | h3 <;> omega
theorem cs_kq {G : mj_G} {a : Nat} (hS : cs_S G) (h : Nat.ble 20 (cs_kd a) = true) : 20 ≤ mj_k G a := by
  have h2 := Nat.le_of_ble_eq_true h
  rcases hS.2.1 a with h3 | h3 <;> omega
theorem cs_kn {G : mj_G} {a : Nat} (hS : cs_S G) (h : Nat.ble 1 (cs_kd a) = true) : mj_k G a ≠ 0 := by
  have h2 := Nat.le_of_ble_eq_true h
  rcases hS.2.1 a with h3 | h3 <;> omega
theorem cs_l {G : mj_G} {a N : Nat} (hS : cs_S G) (h : Nat.beq (cs_ln a) (N + 1) = true) : mj_l G a = N := by
  have h1 := Nat.eq_of_beq_eq_true h
  rcases hS.2.2.1 a with h3 | h3 <;> omega
theorem cs_r {G : mj_G} {a j v : Nat} (hS : cs_S G) (h : (Nat.beq (cs_ro a j) v && Nat.ble 1 v) = true) : mj_r G a j = v := by
  rw [Bool.and_eq_true] at h
  have h1 := Nat.eq_of_beq_eq_true h.1
  have h2 := Nat.le_of_ble_eq_true h.2
  rcases hS.2.2.2.1 a j with h3 | h3
  · omega
  · rw [h3, h1]
theorem cs_f8 {G : mj_G} {n : Nat} (hS : cs_S G) (h : n < 20) : mj_r G 8 n = 1674 + 2 * n := hS.2.2.2.2.1 n h
theorem cs_f9 {G : mj_G} {n : Nat} (hS : cs_S G) (h : n < 10) : mj_r G 9 n = 1597 + 8 * n := hS.2.2.2.2.2.1 n h
theorem cs_f13 {G : mj_G} {n : Nat} (hS : cs_S G) (h : n < 320) : mj_r G 13 n = 67 + 2 * n := hS.2.2.2.2.2.2.1 n h
theorem cs_f14 {G : mj_G} {n : Nat} (hS : cs_S G) (h : n < 200) : mj_r G 14 n = 707 + 4 * n := hS.2.2.2.2.2.2.2.1 n h
theorem cs_f1507 {G : mj_G} {n : Nat} (hS : cs_S G) (h : n < 40) : mj_r G 1507 n = 1509 + 2 * n := hS.2.2.2.2.2.2.2.2 n h
theorem cs_d8 : ((List.range 20).all fun n => Nat.beq (cs_kd (1674 + 2 * n)) 12) = true := by decide +kernel
theorem cs_d9 : ((List.range 10).all fun n => Nat.beq (cs_kd (1597 + 8 * n)) 4) = true := by decide +kernel
theorem cs_d13 : ((List.range 320).all fun n => Nat.beq (cs_kd (67 + 2 * n)) 12) = true := by decide +kernel
theorem cs_d14 : ((List.range 200).all fun n => Nat.beq (cs_kd (707 + 4 * n)) 5) = true := by decide +kernel
theorem cs_d1507 : ((List.range 40).all fun n => Nat.beq (cs_kd (1509 + 2 * n)) 12) = true := by decide +kernel
theorem cs_gx {G : mj_G} {f : Nat → Nat} {n N K : Nat} (hS : cs_S G) (hd : ((List.range N).all fun n => Nat.beq (cs_kd (f n)) K) = true) (hK : 1 ≤ K) (h : n < N) : mj_k G (f n) = K := by
  have h1 := Nat.eq_of_beq_eq_true (List.all_eq_true.mp hd n (List.mem_range.mpr h))
  rcases hS.2.1 (f n) with h3 | h3
  · omega
  · rw [h3, h1]
theorem cs_g8 {G : mj_G} {n : Nat} (hS : cs_S G) (h : n < 20) : mj_k G (1674 + 2 * n) = 12 := cs_gx (f := fun n => 1674 + 2 * n) hS cs_d8 (by decide) h
theorem cs_g9 {G : mj_G} {n : Nat} (hS : cs_S G) (h : n < 10) : mj_k G (1597 + 8 * n) = 4 := cs_gx (f := fun n => 1597 + 8 * n) hS cs_d9 (by decide) h
theorem cs_g13 {G : mj_G} {n : Nat} (hS : cs_S G) (h : n < 320) : mj_k G (67 + 2 * n) = 12 := cs_gx (f := fun n => 67 + 2 * n) hS cs_d13 (by decide) h
theorem cs_g14 {G : mj_G} {n : Nat} (hS : cs_S G) (h : n < 200) : mj_k G (707 + 4 * n) = 5 := cs_gx (f := fun n => 707 + 4 * n) hS cs_d14 (by decide) h
theorem cs_g1507 {G : mj_G} {n : Nat} (hS : cs_S G) (h : n < 40) : mj_k G (1509 + 2 * n) = 12 := cs_gx (f := fun n => 1509 + 2 * n) hS cs_d1507 (by decide) h
theorem mm_lt {i : Int32} {N : Nat} (h : vp_in i N) : i.toNatClampNeg < N := by
  unfold vp_in at h
  omega
theorem cs_pI {G : mj_G} {a k : Nat} {v : Int32} (hS : cs_S G) : cs_S (mj_pI G a k v) := hS
theorem cs_cp {G : mj_G} {a b c e m : Nat} (hS : cs_S G) : cs_S (mj_cp G a b c e m) := hS
theorem cs_kd_lt {a : Nat} (h : cs_kd a ≠ 0) : a < 1768 := by
  apply Decidable.byContradiction
  intro h1
  apply h
  unfold cs_kd
  have nb : ∀ {n}, n < 1768 → Nat.beq a n = false := fun hn => Bool.eq_false_iff.mpr (fun q => by have := Nat.eq_of_beq_eq_true q; omega)
  have nl : ∀ {n}, n < 1768 → Nat.ble a n = false := fun hn => Bool.eq_false_iff.mpr (fun q => by have := Nat.le_of_ble_eq_true q; omega)
  simp only [nb (n := 2) (by decide), nb (n := 3) (by decide), nb (n := 4) (by decide), nb (n := 5) (by decide), nb (n := 6) (by decide), nb (n := 7) (by decide), nb (n := 8) (by decide), nb (n := 9) (by decide), nb (n := 10) (by decide), nb (n := 11) (by decide), nb (n := 12) (by decide), nb (n := 13) (by decide), nb (n := 14) (by decide), nb (n := 1507) (by decide), nb (n := 1508) (by decide), nb (n := 1589) (by decide), nb (n := 1590) (by decide), nb (n := 1591) (by decide), nb (n := 1592) (by decide), nb (n := 1593) (by decide), nl (n := 66) (by decide), nl (n := 706) (by decide), nl (n := 1506) (by decide), nl (n := 1588) (by decide), nl (n := 1673) (by decide), nl (n := 1713) (by decide), Bool.and_false, cond_false]
theorem cs_ln_lt {a : Nat} (h : cs_ln a ≠ 0) : a < 1768 := by
  apply Decidable.byContradiction
  intro h1
  apply h
  unfold cs_ln
  have nb : ∀ {n}, n < 1768 → Nat.beq a n = false := fun hn => Bool.eq_false_iff.mpr (fun q => by have := Nat.eq_of_beq_eq_true q; omega)
  have nl : ∀ {n}, n < 1768 → Nat.ble a n = false := fun hn => Bool.eq_false_iff.mpr (fun q => by have := Nat.le_of_ble_eq_true q; omega)
  simp only [nb (n := 2) (by decide), nb (n := 4) (by decide), nb (n := 5) (by decide), nb (n := 7) (by decide), nb (n := 8) (by decide), nb (n := 9) (by decide), nb (n := 12) (by decide), nb (n := 13) (by decide), nb (n := 14) (by decide), nb (n := 1507) (by decide), nb (n := 1508) (by decide), nb (n := 1590) (by decide), nb (n := 1591) (by decide), nb (n := 1592) (by decide), nb (n := 1593) (by decide), nl (n := 1506) (by decide), nl (n := 1673) (by decide), Bool.and_false, cond_false]
theorem cs_ro_lt {a j : Nat} (h : cs_ro a j ≠ 0) : a < 1768 := by
  apply Decidable.byContradiction
  intro h1
  apply h
  unfold cs_ro cs_rs
  have nb : ∀ {n}, n < 1768 → Nat.beq a n = false := fun hn => Bool.eq_false_iff.mpr (fun q => by have := Nat.eq_of_beq_eq_true q; omega)
  have nl : ∀ {n}, n < 1768 → Nat.ble a n = false := fun hn => Bool.eq_false_iff.mpr (fun q => by have := Nat.le_of_ble_eq_true q; omega)
  simp only [nb (n := 3) (by decide), nb (n := 6) (by decide), nb (n := 10) (by decide), nb (n := 11) (by decide), nb (n := 1589) (by decide), nl (n := 1506) (by decide), nl (n := 1673) (by decide), Bool.and_false, Bool.false_and, cond_false]
theorem cs_al {G : mj_G} {kd len : Nat} {row : Nat → Int32} (hS : cs_S G) : cs_S (mj_al G kd len row) := by
  obtain ⟨h0, h1, h2, h3, h4, h5, h6, h7, h8⟩ := hS
  have ne : ∀ {a}, a < 1768 → a ≠ mj_n G := fun h => by omega
  have rr : ∀ {a j}, a < 1768 → mj_r (mj_al G kd len row) a j = mj_r G a j := fun h => if_neg (ne h)
  refine ⟨Nat.le_succ_of_le h0, fun a => ?_, fun a => ?_, fun a j => ?_, fun j hj => (rr (by decide)).trans (h4 j hj), fun j hj => (rr (by decide)).trans (h5 j hj), fun j hj => (rr (by decide)).trans (h6 j hj), fun j hj => (rr (by decide)).trans (h7 j hj), fun j hj => (rr (by decide)).trans (h8 j hj)⟩
  · by_cases hk : cs_kd a = 0
    · exact Or.inl hk
    · right
      show (if a = mj_n G then kd else mj_k G a) = _
      rw [if_neg (ne (cs_kd_lt hk))]
      exact (h1 a).resolve_left hk
  · by_cases hk : cs_ln a = 0
    · exact Or.inl hk
    · right
      show (if a = mj_n G then len else mj_l G a) + 1 = _
      rw [if_neg (ne (cs_ln_lt hk))]
      exact (h2 a).resolve_left hk
  · by_cases hk : cs_ro a j = 0
    · exact Or.inl hk
    · right
      rw [rr (cs_ro_lt hk)]
      exact (h3 a j).resolve_left hk
/-- fields that hold no standing reference, by kind -/
def cs_fk (K j : Nat) : Bool := Nat.ble K 19 && !(Nat.beq K 2 && Nat.beq j 0) && !(Nat.beq K 2 && Nat.beq j 1) && !(Nat.beq K 2 && Nat.beq j 2) && !(Nat.beq K 4 && Nat.beq j 1) && !(Nat.beq K 4 && Nat.beq j 5) && !(Nat.beq K 4 && Nat.beq j 9) && !(Nat.beq K 4 && Nat.beq j 10) && !(Nat.beq K 5 && Nat.beq j 8) && !(Nat.beq K 5 && Nat.beq j 13) && !(Nat.beq K 7 && Nat.beq j 4) && !(Nat.beq K 7 && Nat.beq j 6) && !(Nat.beq K 9 && Nat.beq j 0) && !(Nat.beq K 9 && Nat.beq j 1) && !(Nat.beq K 9 && Nat.beq j 2) && !(Nat.beq K 9 && Nat.beq j 3) && !(Nat.beq K 9 && Nat.beq j 4) && !(Nat.beq K 9 && Nat.beq j 5) && !(Nat.beq K 10 && Nat.beq j 0) && !(Nat.beq K 10 && Nat.beq j 1) && !(Nat.beq K 10 && Nat.beq j 3) && !(Nat.beq K 13 && Nat.beq j 0) && !(Nat.beq K 13 && Nat.beq j 2) && !(Nat.beq K 13 && Nat.beq j 3)
theorem cs_fd : ((List.range 1768).all fun a => (List.range 14).all fun j => Nat.beq (cs_ro a j) 0 || (Nat.ble 1 (cs_kd a) && !(cs_fk (cs_kd a) j))) = true := by decide +kernel
theorem cs_ro_j {a j : Nat} (h : cs_ro a j ≠ 0) : j < 14 := by
  apply Decidable.byContradiction
  intro h1
  apply h
  unfold cs_ro cs_rs cs_r4 cs_r8
  have nb : ∀ {n}, n < 14 → Nat.beq j n = false := fun hn => Bool.eq_false_iff.mpr (fun q => by have := Nat.eq_of_beq_eq_true q; omega)
  simp only [nb (n := 0) (by decide), nb (n := 1) (by decide), nb (n := 2) (by decide), nb (n := 3) (by decide), nb (n := 4) (by decide), nb (n := 5) (by decide), nb (n := 6) (by decide), nb (n := 8) (by decide), nb (n := 9) (by decide), nb (n := 10) (by decide), nb (n := 13) (by decide), cond_false, Bool.cond_self]
theorem cs_pRx {G : mj_G} {a j v : Nat} (hS : cs_S G) (h : cs_ro a j = 0) (hw : cs_w a) : cs_S (mj_pR G a j v) := by
  obtain ⟨h0, h1, h2, h3, h4, h5, h6, h7, h8⟩ := hS
  obtain ⟨w1, w2, w3, w4, w5⟩ := hw
  have rr : ∀ {b i}, b ≠ a → mj_r (mj_pR G a j v) b i = mj_r G b i := fun h => if_neg (fun q => h q.1)
  refine ⟨h0, h1, h2, fun b i => ?_, fun j hj => (rr (Ne.symm w1)).trans (h4 j hj), fun j hj => (rr (Ne.symm w2)).trans (h5 j hj), fun j hj => (rr (Ne.symm w3)).trans (h6 j hj), fun j hj => (rr (Ne.symm w4)).trans (h7 j hj), fun j hj => (rr (Ne.symm w5)).trans (h8 j hj)⟩
  by_cases hk : cs_ro b i = 0
  · exact Or.inl hk
  · right
    have hne : ¬ (b = a ∧ i = j) := fun q => hk (by rw [q.1, q.2]; exact h)
    rw [show mj_r (mj_pR G a j v) b i = mj_r G b i from if_neg hne]
    exact (h3 b i).resolve_left hk
theorem cs_pR {G : mj_G} {a j v K : Nat} (hS : cs_S G) (hk : mj_k G a = K) (h : cs_fk K j = true) : cs_S (mj_pR G a j v) := by
  have hK : K ≤ 19 := by
    cases hb : Nat.ble K 19 with
    | true => exact Nat.le_of_ble_eq_true hb
    | false =>
      unfold cs_fk at h
      rw [hb] at h
      simp only [Bool.false_and] at h
      exact absurd h (by decide)
  refine cs_pRx hS ?_ ?_
  · apply Decidable.byContradiction
    intro hc
    have h1 := List.all_eq_true.mp (List.all_eq_true.mp cs_fd a (List.mem_range.mpr (cs_ro_lt hc))) j (List.mem_range.mpr (cs_ro_j hc))
    rw [Bool.or_eq_true, Bool.and_eq_true] at h1
    rcases h1 with h1 | ⟨h1, h2⟩
    · exact hc (Nat.eq_of_beq_eq_true h1)
    · have h3 := Nat.le_of_ble_eq_true h1
      rcases hS.2.1 a with h4 | h4
      · omega
      · rw [← h4, hk, h] at h2
        cases h2
  · refine ⟨fun e => ?_, fun e => ?_, fun e => ?_, fun e => ?_, fun e => ?_⟩ <;> subst e
    · have := cs_k (K := 41) hS (a := 8) rfl; omega
    · have := cs_k (K := 33) hS (a := 9) rfl; omega
    · have := cs_k (K := 41) hS (a := 13) rfl; omega
    · have := cs_k (K := 34) hS (a := 14) rfl; omega
    · have := cs_k (K := 41) hS (a := 1507) rfl; omega
theorem cs_pRg {G : mj_G} {a j v : Nat} (hS : cs_S G) (h : 1768 ≤ a) : cs_S (mj_pR G a j v) :=
  cs_pRx hS (Decidable.byContradiction fun hc => absurd (cs_ro_lt hc) (Nat.not_lt.mpr h)) ⟨by omega, by omega, by omega, by omega, by omega⟩
theorem cs_fe : ((List.range 1768).all fun a => (List.range 14).all fun j => Nat.beq (cs_ro a j) 0 || Nat.ble (cs_kd a) 19) = true := by decide +kernel
theorem cs_pRw {G : mj_G} {a j v : Nat} (hS : cs_S G) (h30 : 30 ≤ mj_k G a) (hw : cs_w a) : cs_S (mj_pR G a j v) := by
  refine cs_pRx hS ?_ hw
  apply Decidable.byContradiction
  intro hc
  have h1 := List.all_eq_true.mp (List.all_eq_true.mp cs_fd a (List.mem_range.mpr (cs_ro_lt hc))) j (List.mem_range.mpr (cs_ro_j hc))
  rw [Bool.or_eq_true, Bool.and_eq_true] at h1
  rcases h1 with h1 | ⟨h1, h2⟩
  · exact hc (Nat.eq_of_beq_eq_true h1)
  · have h3 := Nat.le_of_ble_eq_true h1
    rcases hS.2.1 a with h4 | h4
    · omega
    · have h5 : ∀ K, 30 ≤ K → K = cs_kd a → cs_ro a j ≠ 0 → False := fun K hK e hc => by
        have h6 := List.all_eq_true.mp (List.all_eq_true.mp cs_fe a (List.mem_range.mpr (cs_ro_lt hc))) j (List.mem_range.mpr (cs_ro_j hc))
        rw [Bool.or_eq_true] at h6
        rcases h6 with h6 | h6
        · exact hc (Nat.eq_of_beq_eq_true h6)
        · have := Nat.le_of_ble_eq_true h6
          omega
      exact h5 _ (h4 ▸ h30) rfl hc
theorem mj_k_al {G : mj_G} {kd len : Nat} {row : Nat → Int32} : mj_k (mj_al G kd len row) (mj_n G) = kd := if_pos rfl
def mm_nw (i : Int32) (K : Nat → Prop) : Prop := ¬ i < 0 ∧ i.toNatClampNeg ≤ 1000000 ∧ K i.toNatClampNeg
def mm_cpy (G : mj_G) (x0 : Nat) (sp : Int32) (x : Nat) (dp nn : Int32) (K : Nat → Nat → Nat → Prop) : Prop :=
  (mj_k G x = 20 ∨ mj_k G x = 22) ∧ mj_k G x0 = mj_k G x ∧ 2 ≤ x0 ∧ 3 ≤ x ∧ ¬ sp < 0 ∧ ¬ dp < 0 ∧ ¬ nn < 0 ∧ sp.toNatClampNeg + nn.toNatClampNeg ≤ mj_l G x0 ∧ dp.toNatClampNeg + nn.toNatClampNeg ≤ mj_l G x ∧ K sp.toNatClampNeg dp.toNatClampNeg nn.toNatClampNeg
-- ends of methods that may throw
def cx_I (K : Int32 ⊕ Nat → mj_G → Prop) (o : mj_O) (G1 : mj_G) : Prop := cs_S G1 ∧ ((∃ v, o = .inl (some (.inl v)) ∧ K (.inl v) G1) ∨ ∃ c, o = .inr c ∧ K (.inr c) G1)
def cx_Z (K : Bool ⊕ Nat → mj_G → Prop) (o : mj_O) (G1 : mj_G) : Prop := cs_S G1 ∧ ((∃ b, o = .inl (some (.inl (bI b))) ∧ K (.inl b) G1) ∨ ∃ c, o = .inr c ∧ K (.inr c) G1)
def cx_V (K : Unit ⊕ Nat → mj_G → Prop) (o : mj_O) (G1 : mj_G) : Prop := cs_S G1 ∧ ((o = .inl none ∧ K (.inl ()) G1) ∨ ∃ c, o = .inr c ∧ K (.inr c) G1)
theorem cx_I0 {K : Int32 ⊕ Nat → mj_G → Prop} {G1 : mj_G} {v : Int32} (hS : cs_S G1) (h : K (.inl v) G1) : cx_I K (.inl (some (.inl v))) G1 := ⟨hS, Or.inl ⟨v, rfl, h⟩⟩
theorem cx_Z0 {K : Bool ⊕ Nat → mj_G → Prop} {G1 : mj_G} {b : Bool} (hS : cs_S G1) (h : K (.inl b) G1) : cx_Z K (.inl (some (.inl (bI b)))) G1 := ⟨hS, Or.inl ⟨b, rfl, h⟩⟩
theorem cx_V0 {K : Unit ⊕ Nat → mj_G → Prop} {G1 : mj_G} (hS : cs_S G1) (h : K (.inl ()) G1) : cx_V K (.inl none) G1 := ⟨hS, Or.inl ⟨rfl, h⟩⟩
theorem cx_IT {K : Int32 ⊕ Nat → mj_G → Prop} {G1 : mj_G} {c : Nat} (hS : cs_S G1) (h : K (.inr c) G1) : cx_I K (.inr c) G1 := ⟨hS, Or.inr ⟨c, rfl, h⟩⟩
theorem cx_ZT {K : Bool ⊕ Nat → mj_G → Prop} {G1 : mj_G} {c : Nat} (hS : cs_S G1) (h : K (.inr c) G1) : cx_Z K (.inr c) G1 := ⟨hS, Or.inr ⟨c, rfl, h⟩⟩
theorem cx_VT {K : Unit ⊕ Nat → mj_G → Prop} {G1 : mj_G} {c : Nat} (hS : cs_S G1) (h : K (.inr c) G1) : cx_V K (.inr c) G1 := ⟨hS, Or.inr ⟨c, rfl, h⟩⟩
theorem cc_z {d mi pc : Nat} {ls : List (Option mj_V)} {st : List mj_V} {G : mj_G} {K : Bool → mj_G → Prop} (h : mj_X d mi pc ls st G (fun o G1 => ∃ b, o = .inl (some (.inl (bI b))) ∧ cs_S G1 ∧ K b G1)) :
    mj_X d mi pc ls st G (fun o G1 => ∃ v, o = .inl (some (.inl v)) ∧ ∃ b, v = bI b ∧ cs_S G1 ∧ K b G1) :=
  mj_X_mono h (fun o G1 ⟨b, h1, h2, h3⟩ => ⟨_, h1, b, rfl, h2, h3⟩)
