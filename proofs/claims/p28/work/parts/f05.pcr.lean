/-! THE PIECES ARE READ WITHOUT FAULT -/
section F05
variable {w : Nat → Nat} {n : Nat}
theorem pc_0 (hW : tx_W w n) {p : Nat} (h : ∀ i, i < 5 → w (p + i) = ([97, 123, 61, 97, 125] : List Nat).getD i 0) : qvL w n 0 p (p + 5) := by
  have c0 : w p = 97 := h 0 (by decide)
  have c1 : w (p + 1) = 123 := h 1 (by decide)
  have c2 : w (p + 2) = 61 := h 2 (by decide)
  have c3 : w (p + 3) = 97 := h 3 (by decide)
  have c4 : w (p + 4) = 125 := h 4 (by decide)
  exact (pl_c (pl_l (E := 0) (p := p) hW (by rw [c0]; decide) (fun q => absurd (c0.symm.trans q) (by decide)) (fun q => absurd (c0.symm.trans q) (by decide))) (pl_t (E := 0) (p := (p + 1)) hW (by decide) c1 (by show tx_T (w (p + 2)); unfold tx_T; rw [c2]; decide) (pg_61 (p := (p + 1)) hW c2 (pe_x (pp_v (p := (p + 3)) hW (by show tx_L (w (p + 3)); unfold tx_L; rw [c3]; decide) (fun q => absurd (c4.symm.trans q) (by decide))) (px_0 (q := (p + 4)) hW (Nat.le_of_lt (tx_in hW (by rw [c4]; decide))) (fun q => absurd (c4.symm.trans q) (by decide)))) c4)))
theorem pc_1 (hW : tx_W w n) {p : Nat} (h : ∀ i, i < 5 → w (p + i) = ([60, 123, 61, 98, 125] : List Nat).getD i 0) : qvL w n 0 p (p + 5) := by
  have c0 : w p = 60 := h 0 (by decide)
  have c1 : w (p + 1) = 123 := h 1 (by decide)
  have c2 : w (p + 2) = 61 := h 2 (by decide)
  have c3 : w (p + 3) = 98 := h 3 (by decide)
  have c4 : w (p + 4) = 125 := h 4 (by decide)
  exact (pl_c (pl_l (E := 0) (p := p) hW (by rw [c0]; decide) (fun q => absurd (c0.symm.trans q) (by decide)) (fun q => absurd (c0.symm.trans q) (by decide))) (pl_t (E := 0) (p := (p + 1)) hW (by decide) c1 (by show tx_T (w (p + 2)); unfold tx_T; rw [c2]; decide) (pg_61 (p := (p + 1)) hW c2 (pe_x (pp_v (p := (p + 3)) hW (by show tx_L (w (p + 3)); unfold tx_L; rw [c3]; decide) (fun q => absurd (c4.symm.trans q) (by decide))) (px_0 (q := (p + 4)) hW (Nat.le_of_lt (tx_in hW (by rw [c4]; decide))) (fun q => absurd (c4.symm.trans q) (by decide)))) c4)))
theorem pc_2 (hW : tx_W w n) {p : Nat} (h : ∀ i, i < 7 → w (p + i) = ([60, 112, 32, 123, 61, 98, 125] : List Nat).getD i 0) : qvL w n 0 p (p + 7) := by
  have c0 : w p = 60 := h 0 (by decide)
  have c1 : w (p + 1) = 112 := h 1 (by decide)
  have c2 : w (p + 2) = 32 := h 2 (by decide)
  have c3 : w (p + 3) = 123 := h 3 (by decide)
  have c4 : w (p + 4) = 61 := h 4 (by decide)
  have c5 : w (p + 5) = 98 := h 5 (by decide)
  have c6 : w (p + 6) = 125 := h 6 (by decide)
  exact (pl_c (pl_l (E := 0) (p := p) hW (by rw [c0]; decide) (fun q => absurd (c0.symm.trans q) (by decide)) (fun q => absurd (c0.symm.trans q) (by decide))) (pl_c (pl_l (E := 0) (p := (p + 1)) hW (by rw [c1]; decide) (fun q => absurd (c1.symm.trans q) (by decide)) (fun q => absurd (c1.symm.trans q) (by decide))) (pl_c (pl_l (E := 0) (p := (p + 2)) hW (by rw [c2]; decide) (fun q => absurd (c2.symm.trans q) (by decide)) (fun q => absurd (c2.symm.trans q) (by decide))) (pl_t (E := 0) (p := (p + 3)) hW (by decide) c3 (by show tx_T (w (p + 4)); unfold tx_T; rw [c4]; decide) (pg_61 (p := (p + 3)) hW c4 (pe_x (pp_v (p := (p + 5)) hW (by show tx_L (w (p + 5)); unfold tx_L; rw [c5]; decide) (fun q => absurd (c6.symm.trans q) (by decide))) (px_0 (q := (p + 6)) hW (Nat.le_of_lt (tx_in hW (by rw [c6]; decide))) (fun q => absurd (c6.symm.trans q) (by decide)))) c6)))))
theorem pc_3 (hW : tx_W w n) {p : Nat} (h : ∀ i, i < 6 → w (p + i) = ([34, 123, 61, 97, 125, 34] : List Nat).getD i 0) : qvL w n 0 p (p + 6) := by
  have c0 : w p = 34 := h 0 (by decide)
  have c1 : w (p + 1) = 123 := h 1 (by decide)
  have c2 : w (p + 2) = 61 := h 2 (by decide)
  have c3 : w (p + 3) = 97 := h 3 (by decide)
  have c4 : w (p + 4) = 125 := h 4 (by decide)
  have c5 : w (p + 5) = 34 := h 5 (by decide)
  exact (pl_c (pl_l (E := 0) (p := p) hW (by rw [c0]; decide) (fun q => absurd (c0.symm.trans q) (by decide)) (fun q => absurd (c0.symm.trans q) (by decide))) (pl_c (pl_t (E := 0) (p := (p + 1)) hW (by decide) c1 (by show tx_T (w (p + 2)); unfold tx_T; rw [c2]; decide) (pg_61 (p := (p + 1)) hW c2 (pe_x (pp_v (p := (p + 3)) hW (by show tx_L (w (p + 3)); unfold tx_L; rw [c3]; decide) (fun q => absurd (c4.symm.trans q) (by decide))) (px_0 (q := (p + 4)) hW (Nat.le_of_lt (tx_in hW (by rw [c4]; decide))) (fun q => absurd (c4.symm.trans q) (by decide)))) c4)) (pl_l (E := 0) (p := (p + 5)) hW (by rw [c5]; decide) (fun q => absurd (c5.symm.trans q) (by decide)) (fun q => absurd (c5.symm.trans q) (by decide)))))
theorem pc_4 (hW : tx_W w n) {p : Nat} (h : ∀ i, i < 16 → w (p + i) = ([123, 42, 100, 99, 125, 123, 61, 100, 125, 123, 58, 125, 110, 123, 59, 125] : List Nat).getD i 0) : qvL w n 0 p (p + 16) := by
  have c0 : w p = 123 := h 0 (by decide)
  have c1 : w (p + 1) = 42 := h 1 (by decide)
  have c2 : w (p + 2) = 100 := h 2 (by decide)
  have c3 : w (p + 3) = 99 := h 3 (by decide)
  have c4 : w (p + 4) = 125 := h 4 (by decide)
  have c5 : w (p + 5) = 123 := h 5 (by decide)
  have c6 : w (p + 6) = 61 := h 6 (by decide)
  have c7 : w (p + 7) = 100 := h 7 (by decide)
  have c8 : w (p + 8) = 125 := h 8 (by decide)
  have c9 : w (p + 9) = 123 := h 9 (by decide)
  have c10 : w (p + 10) = 58 := h 10 (by decide)
  have c11 : w (p + 11) = 125 := h 11 (by decide)
  have c12 : w (p + 12) = 110 := h 12 (by decide)
  have c13 : w (p + 13) = 123 := h 13 (by decide)
  have c14 : w (p + 14) = 59 := h 14 (by decide)
  have c15 : w (p + 15) = 125 := h 15 (by decide)
  exact (pl_t (E := 0) (p := p) hW (by decide) c0 (by show tx_T (w (p + 1)); unfold tx_T; rw [c1]; decide) (pg_42 (p := p) hW c1 (by show tx_L (w (p + 2)); unfold tx_L; rw [c2]; decide) (pe_x (pp_v (p := (p + 3)) hW (by show tx_L (w (p + 3)); unfold tx_L; rw [c3]; decide) (fun q => absurd (c4.symm.trans q) (by decide))) (px_0 (q := (p + 4)) hW (Nat.le_of_lt (tx_in hW (by rw [c4]; decide))) (fun q => absurd (c4.symm.trans q) (by decide)))) c4 (ph_2 (p := (p + 5)) (q := (p + 9)) hW (pl_t (E := 3) (p := (p + 5)) hW (by decide) c5 (by show tx_T (w (p + 6)); unfold tx_T; rw [c6]; decide) (pg_61 (p := (p + 5)) hW c6 (pe_x (pp_v (p := (p + 7)) hW (by show tx_L (w (p + 7)); unfold tx_L; rw [c7]; decide) (fun q => absurd (c8.symm.trans q) (by decide))) (px_0 (q := (p + 8)) hW (Nat.le_of_lt (tx_in hW (by rw [c8]; decide))) (fun q => absurd (c8.symm.trans q) (by decide)))) c8)) c9 c10 c11 (pc_e (p := (p + 12)) (q := (p + 13)) hW (pl_l (E := 1) (p := (p + 12)) hW (by rw [c12]; decide) (fun q => absurd (c12.symm.trans q) (by decide)) (fun q => absurd (c12.symm.trans q) (by decide))) c13 c14 c15))))
theorem pc_5 (hW : tx_W w n) {p : Nat} (h : ∀ i, i < 14 → w (p + i) = ([123, 43, 125, 123, 61, 99, 125, 123, 58, 125, 101, 123, 59, 125] : List Nat).getD i 0) : qvL w n 0 p (p + 14) := by
  have c0 : w p = 123 := h 0 (by decide)
  have c1 : w (p + 1) = 43 := h 1 (by decide)
  have c2 : w (p + 2) = 125 := h 2 (by decide)
  have c3 : w (p + 3) = 123 := h 3 (by decide)
  have c4 : w (p + 4) = 61 := h 4 (by decide)
  have c5 : w (p + 5) = 99 := h 5 (by decide)
  have c6 : w (p + 6) = 125 := h 6 (by decide)
  have c7 : w (p + 7) = 123 := h 7 (by decide)
  have c8 : w (p + 8) = 58 := h 8 (by decide)
  have c9 : w (p + 9) = 125 := h 9 (by decide)
  have c10 : w (p + 10) = 101 := h 10 (by decide)
  have c11 : w (p + 11) = 123 := h 11 (by decide)
  have c12 : w (p + 12) = 59 := h 12 (by decide)
  have c13 : w (p + 13) = 125 := h 13 (by decide)
  exact (pl_t (E := 0) (p := p) hW (by decide) c0 (by show tx_T (w (p + 1)); unfold tx_T; rw [c1]; decide) (pg_43 (p := p) hW c1 c2 (pl_t (E := 2) (p := (p + 3)) hW (by decide) c3 (by show tx_T (w (p + 4)); unfold tx_T; rw [c4]; decide) (pg_61 (p := (p + 3)) hW c4 (pe_x (pp_v (p := (p + 5)) hW (by show tx_L (w (p + 5)); unfold tx_L; rw [c5]; decide) (fun q => absurd (c6.symm.trans q) (by decide))) (px_0 (q := (p + 6)) hW (Nat.le_of_lt (tx_in hW (by rw [c6]; decide))) (fun q => absurd (c6.symm.trans q) (by decide)))) c6)) c7 c8 c9 (pc_e (p := (p + 10)) (q := (p + 11)) hW (pl_l (E := 1) (p := (p + 10)) hW (by rw [c10]; decide) (fun q => absurd (c10.symm.trans q) (by decide)) (fun q => absurd (c10.symm.trans q) (by decide))) c11 c12 c13)))
theorem pc_6 (hW : tx_W w n) {p : Nat} (h : ∀ i, i < 12 → w (p + i) = ([123, 35, 49, 125, 98, 123, 61, 98, 125, 123, 59, 125] : List Nat).getD i 0) : qvL w n 0 p (p + 12) := by
  have c0 : w p = 123 := h 0 (by decide)
  have c1 : w (p + 1) = 35 := h 1 (by decide)
  have c2 : w (p + 2) = 49 := h 2 (by decide)
  have c3 : w (p + 3) = 125 := h 3 (by decide)
  have c4 : w (p + 4) = 98 := h 4 (by decide)
  have c5 : w (p + 5) = 123 := h 5 (by decide)
  have c6 : w (p + 6) = 61 := h 6 (by decide)
  have c7 : w (p + 7) = 98 := h 7 (by decide)
  have c8 : w (p + 8) = 125 := h 8 (by decide)
  have c9 : w (p + 9) = 123 := h 9 (by decide)
  have c10 : w (p + 10) = 59 := h 10 (by decide)
  have c11 : w (p + 11) = 125 := h 11 (by decide)
  exact (pl_t (E := 0) (p := p) hW (by decide) c0 (by show tx_T (w (p + 1)); unfold tx_T; rw [c1]; decide) (pg_35 (p := p) hW c1 (by show tx_D (w (p + 2)); unfold tx_D; rw [c2]; decide) c3 (pc_e (p := (p + 4)) (q := (p + 9)) hW (pl_c (pl_l (E := 1) (p := (p + 4)) hW (by rw [c4]; decide) (fun q => absurd (c4.symm.trans q) (by decide)) (fun q => absurd (c4.symm.trans q) (by decide))) (pl_t (E := 1) (p := (p + 5)) hW (by decide) c5 (by show tx_T (w (p + 6)); unfold tx_T; rw [c6]; decide) (pg_61 (p := (p + 5)) hW c6 (pe_x (pp_v (p := (p + 7)) hW (by show tx_L (w (p + 7)); unfold tx_L; rw [c7]; decide) (fun q => absurd (c8.symm.trans q) (by decide))) (px_0 (q := (p + 8)) hW (Nat.le_of_lt (tx_in hW (by rw [c8]; decide))) (fun q => absurd (c8.symm.trans q) (by decide)))) c8))) c9 c10 c11)))
theorem pc_7 (hW : tx_W w n) {p : Nat} (h : ∀ i, i < 3 → w (p + i) = ([123, 94, 125] : List Nat).getD i 0) : qvL w n 0 p (p + 3) := by
  have c0 : w p = 123 := h 0 (by decide)
  have c1 : w (p + 1) = 94 := h 1 (by decide)
  have c2 : w (p + 2) = 125 := h 2 (by decide)
  exact (pl_t (E := 0) (p := p) hW (by decide) c0 (by show tx_T (w (p + 1)); unfold tx_T; rw [c1]; decide) (pg_94 (p := p) hW c1 c2))
theorem pc_8 (hW : tx_W w n) {p : Nat} (h : ∀ i, i < 4 → w (p + i) = ([123, 64, 49, 125] : List Nat).getD i 0) : qvL w n 0 p (p + 4) := by
  have c0 : w p = 123 := h 0 (by decide)
  have c1 : w (p + 1) = 64 := h 1 (by decide)
  have c2 : w (p + 2) = 49 := h 2 (by decide)
  have c3 : w (p + 3) = 125 := h 3 (by decide)
  exact (pl_t (E := 0) (p := p) hW (by decide) c0 (by show tx_T (w (p + 1)); unfold tx_T; rw [c1]; decide) (pg_64 (p := p) hW c1 (by show tx_D (w (p + 2)); unfold tx_D; rw [c2]; decide) c3))
theorem pc_9 (hW : tx_W w n) {p : Nat} (h : ∀ i, i < 4 → w (p + i) = ([123, 64, 50, 125] : List Nat).getD i 0) : qvL w n 0 p (p + 4) := by
  have c0 : w p = 123 := h 0 (by decide)
  have c1 : w (p + 1) = 64 := h 1 (by decide)
  have c2 : w (p + 2) = 50 := h 2 (by decide)
  have c3 : w (p + 3) = 125 := h 3 (by decide)
  exact (pl_t (E := 0) (p := p) hW (by decide) c0 (by show tx_T (w (p + 1)); unfold tx_T; rw [c1]; decide) (pg_64 (p := p) hW c1 (by show tx_D (w (p + 2)); unfold tx_D; rw [c2]; decide) c3))
theorem pc_10 (hW : tx_W w n) {p : Nat} (h : ∀ i, i < 18 → w (p + i) = ([123, 36, 49, 97, 98, 61, 55, 125, 123, 61, 98, 125, 123, 126, 125, 123, 59, 125] : List Nat).getD i 0) : qvL w n 0 p (p + 18) := by
  have c0 : w p = 123 := h 0 (by decide)
  have c1 : w (p + 1) = 36 := h 1 (by decide)
  have c2 : w (p + 2) = 49 := h 2 (by decide)
  have c3 : w (p + 3) = 97 := h 3 (by decide)
  have c4 : w (p + 4) = 98 := h 4 (by decide)
  have c5 : w (p + 5) = 61 := h 5 (by decide)
  have c6 : w (p + 6) = 55 := h 6 (by decide)
  have c7 : w (p + 7) = 125 := h 7 (by decide)
  have c8 : w (p + 8) = 123 := h 8 (by decide)
  have c9 : w (p + 9) = 61 := h 9 (by decide)
  have c10 : w (p + 10) = 98 := h 10 (by decide)
  have c11 : w (p + 11) = 125 := h 11 (by decide)
  have c12 : w (p + 12) = 123 := h 12 (by decide)
  have c13 : w (p + 13) = 126 := h 13 (by decide)
  have c14 : w (p + 14) = 125 := h 14 (by decide)
  have c15 : w (p + 15) = 123 := h 15 (by decide)
  have c16 : w (p + 16) = 59 := h 16 (by decide)
  have c17 : w (p + 17) = 125 := h 17 (by decide)
  exact (pl_t (E := 0) (p := p) hW (by decide) c0 (by show tx_T (w (p + 1)); unfold tx_T; rw [c1]; decide) (pg_36 (p := p) hW c1 (by show tx_D (w (p + 2)); unfold tx_D; rw [c2]; decide) (pm_ab (p := (p + 3)) hW c3 c4 c5 c6 c7) (pc_e (p := (p + 8)) (q := (p + 15)) hW (pl_c (pl_t (E := 1) (p := (p + 8)) hW (by decide) c8 (by show tx_T (w (p + 9)); unfold tx_T; rw [c9]; decide) (pg_61 (p := (p + 8)) hW c9 (pe_x (pp_v (p := (p + 10)) hW (by show tx_L (w (p + 10)); unfold tx_L; rw [c10]; decide) (fun q => absurd (c11.symm.trans q) (by decide))) (px_0 (q := (p + 11)) hW (Nat.le_of_lt (tx_in hW (by rw [c11]; decide))) (fun q => absurd (c11.symm.trans q) (by decide)))) c11)) (pl_t (E := 1) (p := (p + 12)) hW (by decide) c12 (by show tx_T (w (p + 13)); unfold tx_T; rw [c13]; decide) (pg_126 (p := (p + 12)) hW c13 c14))) c15 c16 c17)))
theorem pc_11 (hW : tx_W w n) {p : Nat} (h : ∀ i, i < 9 → w (p + i) = ([123, 33, 49, 97, 44, 98, 58, 98, 125] : List Nat).getD i 0) : qvL w n 0 p (p + 9) := by
  have c0 : w p = 123 := h 0 (by decide)
  have c1 : w (p + 1) = 33 := h 1 (by decide)
  have c2 : w (p + 2) = 49 := h 2 (by decide)
  have c3 : w (p + 3) = 97 := h 3 (by decide)
  have c4 : w (p + 4) = 44 := h 4 (by decide)
  have c5 : w (p + 5) = 98 := h 5 (by decide)
  have c6 : w (p + 6) = 58 := h 6 (by decide)
  have c7 : w (p + 7) = 98 := h 7 (by decide)
  have c8 : w (p + 8) = 125 := h 8 (by decide)
  exact (pl_t (E := 0) (p := p) hW (by decide) c0 (by show tx_T (w (p + 1)); unfold tx_T; rw [c1]; decide) (pg_33 (p := p) hW c1 (by show tx_D (w (p + 2)); unfold tx_D; rw [c2]; decide) (pa_0 (p := (p + 3)) hW (Nat.le_of_lt (tx_in hW (by rw [c3]; decide))) (fun q => absurd (c3.symm.trans q) (by decide)) (pr_c (x := 0) (p := (p + 3)) hW (by decide) (Nat.le_of_lt (tx_in hW (by rw [c3]; decide))) (by rw [ja_an (p := (p + 3)) (fun q => absurd (c4.symm.trans q.2) (by decide))]; exact (pe_x (pp_v (p := (p + 3)) hW (by show tx_L (w (p + 3)); unfold tx_L; rw [c3]; decide) (fun q => absurd (c4.symm.trans q) (by decide))) (px_0 (q := (p + 4)) hW (Nat.le_of_lt (tx_in hW (by rw [c4]; decide))) (fun q => absurd (c4.symm.trans q) (by decide))))) c4 (pr_l (x := 1) (p := (p + 5)) hW (by decide) (Nat.le_of_lt (tx_in hW (by rw [c5]; decide))) (by rw [ja_ah (p := (p + 5)) ⟨(by show tx_L (w (p + 5)); unfold tx_L; rw [c5]; decide), c6⟩]; exact (pe_x (pp_v (p := (p + 7)) hW (by show tx_L (w (p + 7)); unfold tx_L; rw [c7]; decide) (fun q => absurd (c8.symm.trans q) (by decide))) (px_0 (q := (p + 8)) hW (Nat.le_of_lt (tx_in hW (by rw [c8]; decide))) (fun q => absurd (c8.symm.trans q) (by decide))))) c8)))))
theorem pc_12 (hW : tx_W w n) {p : Nat} (h : ∀ i, i < 15 → w (p + i) = ([123, 38, 49, 98, 125, 123, 61, 100, 124, 100, 51, 125, 123, 59, 125] : List Nat).getD i 0) : qvL w n 0 p (p + 15) := by
  have c0 : w p = 123 := h 0 (by decide)
  have c1 : w (p + 1) = 38 := h 1 (by decide)
  have c2 : w (p + 2) = 49 := h 2 (by decide)
  have c3 : w (p + 3) = 98 := h 3 (by decide)
  have c4 : w (p + 4) = 125 := h 4 (by decide)
  have c5 : w (p + 5) = 123 := h 5 (by decide)
  have c6 : w (p + 6) = 61 := h 6 (by decide)
  have c7 : w (p + 7) = 100 := h 7 (by decide)
  have c8 : w (p + 8) = 124 := h 8 (by decide)
  have c9 : w (p + 9) = 100 := h 9 (by decide)
  have c10 : w (p + 10) = 51 := h 10 (by decide)
  have c11 : w (p + 11) = 125 := h 11 (by decide)
  have c12 : w (p + 12) = 123 := h 12 (by decide)
  have c13 : w (p + 13) = 59 := h 13 (by decide)
  have c14 : w (p + 14) = 125 := h 14 (by decide)
  exact (pl_t (E := 0) (p := p) hW (by decide) c0 (by show tx_T (w (p + 1)); unfold tx_T; rw [c1]; decide) (pg_38 (p := p) hW c1 (by show tx_D (w (p + 2)); unfold tx_D; rw [c2]; decide) (pa_0 (p := (p + 3)) hW (Nat.le_of_lt (tx_in hW (by rw [c3]; decide))) (fun q => absurd (c3.symm.trans q) (by decide)) (pr_l (x := 0) (p := (p + 3)) hW (by decide) (Nat.le_of_lt (tx_in hW (by rw [c3]; decide))) (by rw [ja_an (p := (p + 3)) (fun q => absurd (c4.symm.trans q.2) (by decide))]; exact (pe_x (pp_v (p := (p + 3)) hW (by show tx_L (w (p + 3)); unfold tx_L; rw [c3]; decide) (fun q => absurd (c4.symm.trans q) (by decide))) (px_0 (q := (p + 4)) hW (Nat.le_of_lt (tx_in hW (by rw [c4]; decide))) (fun q => absurd (c4.symm.trans q) (by decide))))) c4)) (pc_e (p := (p + 5)) (q := (p + 12)) hW (pl_t (E := 1) (p := (p + 5)) hW (by decide) c5 (by show tx_T (w (p + 6)); unfold tx_T; rw [c6]; decide) (pg_61 (p := (p + 5)) hW c6 (pe_x (pp_v (p := (p + 7)) hW (by show tx_L (w (p + 7)); unfold tx_L; rw [c7]; decide) (fun q => absurd (c8.symm.trans q) (by decide))) (px_d (q := (p + 8)) hW c8 c9 (pp_n (p := (p + 10)) hW (by show tx_D (w (p + 10)); unfold tx_D; rw [c10]; decide) (by show ¬ tx_D (w (p + 11)); unfold tx_D; rw [c11]; decide)) (px_0 (q := (p + 11)) hW (Nat.le_of_lt (tx_in hW (by rw [c11]; decide))) (fun q => absurd (c11.symm.trans q) (by decide))))) c11)) c12 c13 c14)))
theorem pc_13 (hW : tx_W w n) {p : Nat} (h : ∀ i, i < 9 → w (p + i) = ([123, 37, 100, 40, 97, 43, 49, 41, 125] : List Nat).getD i 0) : qvL w n 0 p (p + 9) := by
  have c0 : w p = 123 := h 0 (by decide)
  have c1 : w (p + 1) = 37 := h 1 (by decide)
  have c2 : w (p + 2) = 100 := h 2 (by decide)
  have c3 : w (p + 3) = 40 := h 3 (by decide)
  have c4 : w (p + 4) = 97 := h 4 (by decide)
  have c5 : w (p + 5) = 43 := h 5 (by decide)
  have c6 : w (p + 6) = 49 := h 6 (by decide)
  have c7 : w (p + 7) = 41 := h 7 (by decide)
  have c8 : w (p + 8) = 125 := h 8 (by decide)
  exact (pl_t (E := 0) (p := p) hW (by decide) c0 (by show tx_T (w (p + 1)); unfold tx_T; rw [c1]; decide) (pg_37 (p := p) hW c1 (by show tx_L (w (p + 2)); unfold tx_L; rw [c2]; decide) (pe_x (pp_p (p := (p + 3)) hW c3 (pe_x (pp_v (p := (p + 4)) hW (by show tx_L (w (p + 4)); unfold tx_L; rw [c4]; decide) (fun q => absurd (c5.symm.trans q) (by decide))) (px_0 (q := (p + 5)) hW (Nat.le_of_lt (tx_in hW (by rw [c5]; decide))) (fun q => absurd (c5.symm.trans q) (by decide)))) (by show tx_O (w (p + 5)); unfold tx_O; rw [c5]; decide) (pe_x (pp_n (p := (p + 6)) hW (by show tx_D (w (p + 6)); unfold tx_D; rw [c6]; decide) (by show ¬ tx_D (w (p + 7)); unfold tx_D; rw [c7]; decide)) (px_0 (q := (p + 7)) hW (Nat.le_of_lt (tx_in hW (by rw [c7]; decide))) (fun q => absurd (c7.symm.trans q) (by decide)))) c7) (px_0 (q := (p + 8)) hW (Nat.le_of_lt (tx_in hW (by rw [c8]; decide))) (fun q => absurd (c8.symm.trans q) (by decide)))) c8))
theorem pc_14 (hW : tx_W w n) {p : Nat} (h : ∀ i, i < 9 → w (p + i) = ([123, 37, 100, 39, 60, 115, 62, 39, 125] : List Nat).getD i 0) : qvL w n 0 p (p + 9) := by
  have c0 : w p = 123 := h 0 (by decide)
  have c1 : w (p + 1) = 37 := h 1 (by decide)
  have c2 : w (p + 2) = 100 := h 2 (by decide)
  have c3 : w (p + 3) = 39 := h 3 (by decide)
  have c4 : w (p + 4) = 60 := h 4 (by decide)
  have c5 : w (p + 5) = 115 := h 5 (by decide)
  have c6 : w (p + 6) = 62 := h 6 (by decide)
  have c7 : w (p + 7) = 39 := h 7 (by decide)
  have c8 : w (p + 8) = 125 := h 8 (by decide)
  exact (pl_t (E := 0) (p := p) hW (by decide) c0 (by show tx_T (w (p + 1)); unfold tx_T; rw [c1]; decide) (pg_37 (p := p) hW c1 (by show tx_L (w (p + 2)); unfold tx_L; rw [c2]; decide) (pe_x (pp_q (p := (p + 3)) (e := p + 7) hW c3 (by omega) (fun j j1 j2 => if q4 : j = p + 4 then (by rw [q4, c4]; unfold tx_Q; decide) else if q5 : j = p + 5 then (by rw [q5, c5]; unfold tx_Q; decide) else if q6 : j = p + 6 then (by rw [q6, c6]; unfold tx_Q; decide) else  absurd j1 (by omega)) c7) (px_0 (q := (p + 8)) hW (Nat.le_of_lt (tx_in hW (by rw [c8]; decide))) (fun q => absurd (c8.symm.trans q) (by decide)))) c8))
theorem pc_15 (hW : tx_W w n) {p : Nat} (h : ∀ i, i < 11 → w (p + i) = ([123, 107, 49, 125, 123, 61, 97, 125, 123, 59, 125] : List Nat).getD i 0) : qvL w n 0 p (p + 11) := by
  have c0 : w p = 123 := h 0 (by decide)
  have c1 : w (p + 1) = 107 := h 1 (by decide)
  have c2 : w (p + 2) = 49 := h 2 (by decide)
  have c3 : w (p + 3) = 125 := h 3 (by decide)
  have c4 : w (p + 4) = 123 := h 4 (by decide)
  have c5 : w (p + 5) = 61 := h 5 (by decide)
  have c6 : w (p + 6) = 97 := h 6 (by decide)
  have c7 : w (p + 7) = 125 := h 7 (by decide)
  have c8 : w (p + 8) = 123 := h 8 (by decide)
  have c9 : w (p + 9) = 59 := h 9 (by decide)
  have c10 : w (p + 10) = 125 := h 10 (by decide)
  exact (pl_t (E := 0) (p := p) hW (by decide) c0 (by show tx_T (w (p + 1)); unfold tx_T; rw [c1]; decide) (pg_107 (p := p) hW c1 (by show tx_D (w (p + 2)); unfold tx_D; rw [c2]; decide) c3 (pc_e (p := (p + 4)) (q := (p + 8)) hW (pl_t (E := 1) (p := (p + 4)) hW (by decide) c4 (by show tx_T (w (p + 5)); unfold tx_T; rw [c5]; decide) (pg_61 (p := (p + 4)) hW c5 (pe_x (pp_v (p := (p + 6)) hW (by show tx_L (w (p + 6)); unfold tx_L; rw [c6]; decide) (fun q => absurd (c7.symm.trans q) (by decide))) (px_0 (q := (p + 7)) hW (Nat.le_of_lt (tx_in hW (by rw [c7]; decide))) (fun q => absurd (c7.symm.trans q) (by decide)))) c7)) c8 c9 c10)))
theorem pc_16 (hW : tx_W w n) {p : Nat} (h : ∀ i, i < 14 → w (p + i) = ([123, 107, 50, 125, 123, 61, 100, 124, 100, 48, 125, 123, 59, 125] : List Nat).getD i 0) : qvL w n 0 p (p + 14) := by
  have c0 : w p = 123 := h 0 (by decide)
  have c1 : w (p + 1) = 107 := h 1 (by decide)
  have c2 : w (p + 2) = 50 := h 2 (by decide)
  have c3 : w (p + 3) = 125 := h 3 (by decide)
  have c4 : w (p + 4) = 123 := h 4 (by decide)
  have c5 : w (p + 5) = 61 := h 5 (by decide)
  have c6 : w (p + 6) = 100 := h 6 (by decide)
  have c7 : w (p + 7) = 124 := h 7 (by decide)
  have c8 : w (p + 8) = 100 := h 8 (by decide)
  have c9 : w (p + 9) = 48 := h 9 (by decide)
  have c10 : w (p + 10) = 125 := h 10 (by decide)
  have c11 : w (p + 11) = 123 := h 11 (by decide)
  have c12 : w (p + 12) = 59 := h 12 (by decide)
  have c13 : w (p + 13) = 125 := h 13 (by decide)
  exact (pl_t (E := 0) (p := p) hW (by decide) c0 (by show tx_T (w (p + 1)); unfold tx_T; rw [c1]; decide) (pg_107 (p := p) hW c1 (by show tx_D (w (p + 2)); unfold tx_D; rw [c2]; decide) c3 (pc_e (p := (p + 4)) (q := (p + 11)) hW (pl_t (E := 1) (p := (p + 4)) hW (by decide) c4 (by show tx_T (w (p + 5)); unfold tx_T; rw [c5]; decide) (pg_61 (p := (p + 4)) hW c5 (pe_x (pp_v (p := (p + 6)) hW (by show tx_L (w (p + 6)); unfold tx_L; rw [c6]; decide) (fun q => absurd (c7.symm.trans q) (by decide))) (px_d (q := (p + 7)) hW c7 c8 (pp_n (p := (p + 9)) hW (by show tx_D (w (p + 9)); unfold tx_D; rw [c9]; decide) (by show ¬ tx_D (w (p + 10)); unfold tx_D; rw [c10]; decide)) (px_0 (q := (p + 10)) hW (Nat.le_of_lt (tx_in hW (by rw [c10]; decide))) (fun q => absurd (c10.symm.trans q) (by decide))))) c10)) c11 c12 c13)))
theorem pc_17 (hW : tx_W w n) {p : Nat} (h : ∀ i, i < 5 → w (p + i) = ([32, 123, 45, 125, 32] : List Nat).getD i 0) : qvL w n 0 p (p + 5) := by
  have c0 : w p = 32 := h 0 (by decide)
  have c1 : w (p + 1) = 123 := h 1 (by decide)
  have c2 : w (p + 2) = 45 := h 2 (by decide)
  have c3 : w (p + 3) = 125 := h 3 (by decide)
  have c4 : w (p + 4) = 32 := h 4 (by decide)
  exact (pl_c (pl_l (E := 0) (p := p) hW (by rw [c0]; decide) (fun q => absurd (c0.symm.trans q) (by decide)) (fun q => absurd (c0.symm.trans q) (by decide))) (pl_c (pl_t (E := 0) (p := (p + 1)) hW (by decide) c1 (by show tx_T (w (p + 2)); unfold tx_T; rw [c2]; decide) (pg_45 (p := (p + 1)) hW c2 c3)) (pl_l (E := 0) (p := (p + 4)) hW (by rw [c4]; decide) (fun q => absurd (c4.symm.trans q) (by decide)) (fun q => absurd (c4.symm.trans q) (by decide)))))
theorem pc_18 (hW : tx_W w n) {p : Nat} (h : ∀ i, i < 5 → w (p + i) = ([123, 116, 48, 97, 125] : List Nat).getD i 0) : qvL w n 0 p (p + 5) := by
  have c0 : w p = 123 := h 0 (by decide)
  have c1 : w (p + 1) = 116 := h 1 (by decide)
  have c2 : w (p + 2) = 48 := h 2 (by decide)
  have c3 : w (p + 3) = 97 := h 3 (by decide)
  have c4 : w (p + 4) = 125 := h 4 (by decide)
  exact (pl_t (E := 0) (p := p) hW (by decide) c0 (by show tx_T (w (p + 1)); unfold tx_T; rw [c1]; decide) (pg_116 (p := p) hW c1 (by show tx_D (w (p + 2)); unfold tx_D; rw [c2]; decide) (pe_x (pp_v (p := (p + 3)) hW (by show tx_L (w (p + 3)); unfold tx_L; rw [c3]; decide) (fun q => absurd (c4.symm.trans q) (by decide))) (px_0 (q := (p + 4)) hW (Nat.le_of_lt (tx_in hW (by rw [c4]; decide))) (fun q => absurd (c4.symm.trans q) (by decide)))) c4))
theorem pc_19 (hW : tx_W w n) {p : Nat} (h : ∀ i, i < 17 → w (p + i) = ([123, 63, 98, 125, 62, 123, 58, 125, 123, 61, 98, 124, 117, 125, 123, 59, 125] : List Nat).getD i 0) : qvL w n 0 p (p + 17) := by
  have c0 : w p = 123 := h 0 (by decide)
  have c1 : w (p + 1) = 63 := h 1 (by decide)
  have c2 : w (p + 2) = 98 := h 2 (by decide)
  have c3 : w (p + 3) = 125 := h 3 (by decide)
  have c4 : w (p + 4) = 62 := h 4 (by decide)
  have c5 : w (p + 5) = 123 := h 5 (by decide)
  have c6 : w (p + 6) = 58 := h 6 (by decide)
  have c7 : w (p + 7) = 125 := h 7 (by decide)
  have c8 : w (p + 8) = 123 := h 8 (by decide)
  have c9 : w (p + 9) = 61 := h 9 (by decide)
  have c10 : w (p + 10) = 98 := h 10 (by decide)
  have c11 : w (p + 11) = 124 := h 11 (by decide)
  have c12 : w (p + 12) = 117 := h 12 (by decide)
  have c13 : w (p + 13) = 125 := h 13 (by decide)
  have c14 : w (p + 14) = 123 := h 14 (by decide)
  have c15 : w (p + 15) = 59 := h 15 (by decide)
  have c16 : w (p + 16) = 125 := h 16 (by decide)
  exact (pl_t (E := 0) (p := p) hW (by decide) c0 (by show tx_T (w (p + 1)); unfold tx_T; rw [c1]; decide) (pg_63 (p := p) hW c1 (pe_x (pp_v (p := (p + 2)) hW (by show tx_L (w (p + 2)); unfold tx_L; rw [c2]; decide) (fun q => absurd (c3.symm.trans q) (by decide))) (px_0 (q := (p + 3)) hW (Nat.le_of_lt (tx_in hW (by rw [c3]; decide))) (fun q => absurd (c3.symm.trans q) (by decide)))) c3 (ph_2 (p := (p + 4)) (q := (p + 5)) hW (pl_l (E := 3) (p := (p + 4)) hW (by rw [c4]; decide) (fun q => absurd (c4.symm.trans q) (by decide)) (fun q => absurd (c4.symm.trans q) (by decide))) c5 c6 c7 (pc_e (p := (p + 8)) (q := (p + 14)) hW (pl_t (E := 1) (p := (p + 8)) hW (by decide) c8 (by show tx_T (w (p + 9)); unfold tx_T; rw [c9]; decide) (pg_61 (p := (p + 8)) hW c9 (pe_x (pp_v (p := (p + 10)) hW (by show tx_L (w (p + 10)); unfold tx_L; rw [c10]; decide) (fun q => absurd (c11.symm.trans q) (by decide))) (px_f (q := (p + 11)) hW c11 (by show je_pl (w (p + 12)); unfold je_pl; rw [c12]; decide) (px_0 (q := (p + 13)) hW (Nat.le_of_lt (tx_in hW (by rw [c13]; decide))) (fun q => absurd (c13.symm.trans q) (by decide))))) c13)) c14 c15 c16))))
theorem pc_20 (hW : tx_W w n) {p : Nat} (h : ∀ i, i < 14 → w (p + i) = ([60, 115, 62, 39, 123, 61, 98, 125, 123, 61, 99, 124, 106, 125] : List Nat).getD i 0) : qvL w n 0 p (p + 14) := by
  have c0 : w p = 60 := h 0 (by decide)
  have c1 : w (p + 1) = 115 := h 1 (by decide)
  have c2 : w (p + 2) = 62 := h 2 (by decide)
  have c3 : w (p + 3) = 39 := h 3 (by decide)
  have c4 : w (p + 4) = 123 := h 4 (by decide)
  have c5 : w (p + 5) = 61 := h 5 (by decide)
  have c6 : w (p + 6) = 98 := h 6 (by decide)
  have c7 : w (p + 7) = 125 := h 7 (by decide)
  have c8 : w (p + 8) = 123 := h 8 (by decide)
  have c9 : w (p + 9) = 61 := h 9 (by decide)
  have c10 : w (p + 10) = 99 := h 10 (by decide)
  have c11 : w (p + 11) = 124 := h 11 (by decide)
  have c12 : w (p + 12) = 106 := h 12 (by decide)
  have c13 : w (p + 13) = 125 := h 13 (by decide)
  exact (pl_c (pl_l (E := 0) (p := p) hW (by rw [c0]; decide) (fun q => absurd (c0.symm.trans q) (by decide)) (fun q => absurd (c0.symm.trans q) (by decide))) (pl_c (pl_l (E := 0) (p := (p + 1)) hW (by rw [c1]; decide) (fun q => absurd (c1.symm.trans q) (by decide)) (fun q => absurd (c1.symm.trans q) (by decide))) (pl_c (pl_l (E := 0) (p := (p + 2)) hW (by rw [c2]; decide) (fun q => absurd (c2.symm.trans q) (by decide)) (fun q => absurd (c2.symm.trans q) (by decide))) (pl_c (pl_l (E := 0) (p := (p + 3)) hW (by rw [c3]; decide) (fun q => absurd (c3.symm.trans q) (by decide)) (fun q => absurd (c3.symm.trans q) (by decide))) (pl_c (pl_t (E := 0) (p := (p + 4)) hW (by decide) c4 (by show tx_T (w (p + 5)); unfold tx_T; rw [c5]; decide) (pg_61 (p := (p + 4)) hW c5 (pe_x (pp_v (p := (p + 6)) hW (by show tx_L (w (p + 6)); unfold tx_L; rw [c6]; decide) (fun q => absurd (c7.symm.trans q) (by decide))) (px_0 (q := (p + 7)) hW (Nat.le_of_lt (tx_in hW (by rw [c7]; decide))) (fun q => absurd (c7.symm.trans q) (by decide)))) c7)) (pl_t (E := 0) (p := (p + 8)) hW (by decide) c8 (by show tx_T (w (p + 9)); unfold tx_T; rw [c9]; decide) (pg_61 (p := (p + 8)) hW c9 (pe_x (pp_v (p := (p + 10)) hW (by show tx_L (w (p + 10)); unfold tx_L; rw [c10]; decide) (fun q => absurd (c11.symm.trans q) (by decide))) (px_f (q := (p + 11)) hW c11 (by show je_pl (w (p + 12)); unfold je_pl; rw [c12]; decide) (px_0 (q := (p + 13)) hW (Nat.le_of_lt (tx_in hW (by rw [c13]; decide))) (fun q => absurd (c13.symm.trans q) (by decide))))) c13)))))))
theorem pc_21 (hW : tx_W w n) {p : Nat} (h : ∀ i, i < 3 → w (p + i) = ([123, 126, 125] : List Nat).getD i 0) : qvL w n 0 p (p + 3) := by
  have c0 : w p = 123 := h 0 (by decide)
  have c1 : w (p + 1) = 126 := h 1 (by decide)
  have c2 : w (p + 2) = 125 := h 2 (by decide)
  exact (pl_t (E := 0) (p := p) hW (by decide) c0 (by show tx_T (w (p + 1)); unfold tx_T; rw [c1]; decide) (pg_126 (p := p) hW c1 c2))
theorem pc_22 (hW : tx_W w n) {p : Nat} (h : ∀ i, i < 6 → w (p + i) = ([123, 61, 99, 46, 49, 125] : List Nat).getD i 0) : qvL w n 0 p (p + 6) := by
  have c0 : w p = 123 := h 0 (by decide)
  have c1 : w (p + 1) = 61 := h 1 (by decide)
  have c2 : w (p + 2) = 99 := h 2 (by decide)
  have c3 : w (p + 3) = 46 := h 3 (by decide)
  have c4 : w (p + 4) = 49 := h 4 (by decide)
  have c5 : w (p + 5) = 125 := h 5 (by decide)
  exact (pl_t (E := 0) (p := p) hW (by decide) c0 (by show tx_T (w (p + 1)); unfold tx_T; rw [c1]; decide) (pg_61 (p := p) hW c1 (pe_x (pp_i (p := (p + 2)) hW (by show tx_L (w (p + 2)); unfold tx_L; rw [c2]; decide) c3 (by show tx_D (w (p + 4)); unfold tx_D; rw [c4]; decide)) (px_0 (q := (p + 5)) hW (Nat.le_of_lt (tx_in hW (by rw [c5]; decide))) (fun q => absurd (c5.symm.trans q) (by decide)))) c5))
theorem pc_23 (hW : tx_W w n) {p : Nat} (h : ∀ i, i < 2 → w (p + i) = ([39, 62] : List Nat).getD i 0) : qvL w n 0 p (p + 2) := by
  have c0 : w p = 39 := h 0 (by decide)
  have c1 : w (p + 1) = 62 := h 1 (by decide)
  exact (pl_c (pl_l (E := 0) (p := p) hW (by rw [c0]; decide) (fun q => absurd (c0.symm.trans q) (by decide)) (fun q => absurd (c0.symm.trans q) (by decide))) (pl_l (E := 0) (p := (p + 1)) hW (by rw [c1]; decide) (fun q => absurd (c1.symm.trans q) (by decide)) (fun q => absurd (c1.symm.trans q) (by decide))))
theorem pc_24 (hW : tx_W w n) {p : Nat} (h : ∀ i, i < 1 → w (p + i) = ([120] : List Nat).getD i 0) : qvL w n 0 p (p + 1) := by
  have c0 : w p = 120 := h 0 (by decide)
  exact (pl_l (E := 0) (p := p) hW (by rw [c0]; decide) (fun q => absurd (c0.symm.trans q) (by decide)) (fun q => absurd (c0.symm.trans q) (by decide)))
theorem pc_all (hW : tx_W w n) {p : Nat} {l : List Nat} (hl : l ∈ lp_t) (h : ∀ i, i < l.length → w (p + i) = l.getD i 0) : qvL w n 0 p (p + l.length) := by
  unfold lp_t at hl
  rcases List.mem_cons.mp hl with rfl | hl
  · exact pc_0 hW h
  rcases List.mem_cons.mp hl with rfl | hl
  · exact pc_1 hW h
  rcases List.mem_cons.mp hl with rfl | hl
  · exact pc_2 hW h
  rcases List.mem_cons.mp hl with rfl | hl
  · exact pc_3 hW h
  rcases List.mem_cons.mp hl with rfl | hl
  · exact pc_4 hW h
  rcases List.mem_cons.mp hl with rfl | hl
  · exact pc_5 hW h
  rcases List.mem_cons.mp hl with rfl | hl
  · exact pc_6 hW h
  rcases List.mem_cons.mp hl with rfl | hl
  · exact pc_7 hW h
  rcases List.mem_cons.mp hl with rfl | hl
  · exact pc_8 hW h
  rcases List.mem_cons.mp hl with rfl | hl
  · exact pc_9 hW h
  rcases List.mem_cons.mp hl with rfl | hl
  · exact pc_10 hW h
  rcases List.mem_cons.mp hl with rfl | hl
  · exact pc_11 hW h
  rcases List.mem_cons.mp hl with rfl | hl
  · exact pc_12 hW h
  rcases List.mem_cons.mp hl with rfl | hl
  · exact pc_13 hW h
  rcases List.mem_cons.mp hl with rfl | hl
  · exact pc_14 hW h
  rcases List.mem_cons.mp hl with rfl | hl
  · exact pc_15 hW h
  rcases List.mem_cons.mp hl with rfl | hl
  · exact pc_16 hW h
  rcases List.mem_cons.mp hl with rfl | hl
  · exact pc_17 hW h
  rcases List.mem_cons.mp hl with rfl | hl
  · exact pc_18 hW h
  rcases List.mem_cons.mp hl with rfl | hl
  · exact pc_19 hW h
  rcases List.mem_cons.mp hl with rfl | hl
  · exact pc_20 hW h
  rcases List.mem_cons.mp hl with rfl | hl
  · exact pc_21 hW h
  rcases List.mem_cons.mp hl with rfl | hl
  · exact pc_22 hW h
  rcases List.mem_cons.mp hl with rfl | hl
  · exact pc_23 hW h
  rcases List.mem_cons.mp hl with rfl | hl
  · exact pc_24 hW h
  exact absurd hl List.not_mem_nil
theorem LT_qv (hW : tx_W w n) : ∀ {ls : List (List Nat)} {p : Nat}, LT w n ls p → (∀ l, l ∈ ls → l ∈ lp_t) → qvL w n 0 p n
  | [], p, h, _ => by
    have h' : p = n := h
    rw [h']
    exact pl_0 (Nat.le_refl n)
  | l :: ls, p, h, hg => pl_c (pc_all hW (hg l (List.mem_cons_self ..)) h.1) (LT_qv hW h.2 (fun y hy => hg y (List.mem_cons_of_mem _ hy)))
/-- such a text is no fault -/
theorem LT_in {Gm : mj_G} {ls : List (List Nat)} {res : Nat ⊕ Nat} (hM : mm_S Gm) (hW : tx_W w n) (hT : LT w n ls 0) (hg : ∀ l, l ∈ ls → l ∈ lp_t) (he : ∀ e, res = .inr e → e ≤ n) (hm : rw_M w n res) : ∃ q, res = .inl q := by
  cases res with
  | inl q => exact ⟨q, rfl⟩
  | inr e =>
    exfalso
    have hn := hW.1
    have hen := he e rfl
    have h0 : ¬ (w 0 = 123 ∧ w 1 = 60) := fun q => by
      have h1n : 1 < n := tx_in hW (by omega)
      exact (ix_f (LT_at hT (fun l hl => Or.inl (hg l hl)) 0 (Nat.le_refl 0) (by omega)) q.1).1 q.2
    obtain ⟨-, k, hk⟩ := LT_qv hW hT hg
    have hTf : pt_T (fun a j => if a = 1714 then nI n else nI (w j)) w n := ⟨rfl, fun k hk => rfl⟩
    generalize (fun a j => if a = 1714 then nI n else nI (w j) : mm_F) = f at hTf
    have r1 : m_faultOf Gm (8 * n + 100 + k + 1) f (fun v _ => ¬ v = Int32.ofInt (-1)) := hm _ Gm f _ (by omega) hM hTf (fun p => z_n1 (by omega))
    have e2 : pt_a f 0 1714 2 = nI n := (z_u2m (by decide)).trans hTf.1
    have lm : m_takesBody Gm (8 * n + 100 + k) (nI 0) (nI 0) (pt_a f 0) (fun v17 f16 => mm_br (v17 = (nI 1)) ((fun v _ => v = Int32.ofInt (-1)) ((Int32.ofInt (-1))) f16) ((fun v _ => v = Int32.ofInt (-1)) (f16 1714 3) f16)) := by
      refine hk _ Gm f _ (by omega) hM hTf ?_
      obtain ⟨d, hd⟩ : ∃ d, 8 * n + 100 + k = d + 1 := ⟨8 * n + 99 + k, by omega⟩
      rw [hd]
      exact c_takesBody hM hW hTf (by omega) (Nat.le_refl n) (fun _ => z_bt rfl rfl) (fun q => absurd q (by rw [hW.2.2 n (Nat.le_refl n)]; decide)) (fun q => absurd q (by omega)) (fun q => absurd q (by rw [hW.2.2 n (Nat.le_refl n)]; decide))
    have r2 : m_faultOf Gm (8 * n + 100 + k + 1) f (fun v _ => v = Int32.ofInt (-1)) := by
      refine w_m_faultOf hM ?_
      show mm_br (pt_a f 0 1714 2 ≤ nI 1) _ _
      rw [e2, z_le (by omega) (by decide)]
      refine z_br (fun _ => lm) (fun hn1 => z_ixi (by decide) (by decide) ?_)
      rw [show mj_u2 f 1714 3 (nI 0) 1715 0 = nI (w 0) from (z_u2n (by decide)).trans (hTf.2 0 (by omega)), z_eq (by have := tx_le hW 0; omega) (by decide)]
      refine z_br (fun h => z_ixi (by decide) (by decide) ?_) (fun _ => lm)
      rw [show mj_u2 f 1714 3 (nI 0) 1715 1 = nI (w 1) from (z_u2n (by decide)).trans (hTf.2 1 (by omega)), z_eq (by have := tx_le hW 1; omega) (by decide)]
      exact z_bf (fun h1 => h0 ⟨h, h1⟩) lm
    obtain ⟨o, G', ⟨v, v1, f1, -, v2⟩, ⟨v', v1', f1', -, v2'⟩⟩ := uq_X r1 r2
    have : v = v' := by
      have hh := v1.symm.trans v1'
      exact Sum.inl.inj (Option.some.inj (Sum.inl.inj hh))
    exact v2 (this.trans v2')
end F05
