/-! THE LAW'S LOOP -/
theorem z_23 {N c : Nat} (hN : N ≤ 1536) (hc : c ≤ 1600) : (Int32.ofNat N - Int32.ofInt 3) < nI c ↔ N < c + 3 := by
  have h1 : (nI N).toInt = N := nI_toInt (by omega)
  have h2 : (nI c).toInt = c := nI_toInt (by omega)
  have h3 : (Int32.ofInt 3).toInt = 3 := by decide
  show (nI N - Int32.ofInt 3) < nI c ↔ N < c + 3
  rw [Int32.lt_iff_toInt_lt, Int32.toInt_sub, h1, h2, h3, Int.bmod_eq_of_le (by omega) (by omega)]
  omega
section ZZZK
variable {N cnt : Nat} {G : mj_G} {Q : mj_O → mj_G → Prop}
theorem LI_up (h : LI N cnt G) : LI N (cnt + 1) G := by
  obtain ⟨s, ρ, f, h1, h2, h3, h4, h5, h6, h7⟩ := h
  exact ⟨s, ρ, f, h1, h2, h3, h4, h5, Nat.le_trans h6 (by omega), Nat.le_trans h7 (by omega)⟩
theorem st_32 (hI : LI N cnt G) (h3 : 3 * cnt + 3 ≤ N) (hN : N ≤ 1536) (nx : ∀ G', LI N (cnt + 1) G' → mj_X 2047 14018 1282 (lv5 (nI (3 * cnt))) [] G' Q) : mj_X 2047 14018 32 (lv5 (nI (3 * cnt))) [] G Q := by
  have h0 := hI
  obtain ⟨s, ρ, f, hS, -⟩ := h0
  exact mk_14018_32 hS.2.1 (by rw [hS.2.2.1]; exact z_vp (by omega) (by omega)) rfl
    (fun _ => st_152 hI h3 hN nx) (fun _ => st_210 hI nx) (fun _ => st_223 hI nx) (fun _ => st_236 hI h3 hN nx) (fun _ => st_292 hI h3 hN nx)
    (fun _ => st_360 hI h3 hN nx) (fun _ => st_410 hI h3 hN nx) (fun _ => st_468 hI h3 hN nx) (fun _ => st_506 hI h3 hN nx) (fun _ => st_576 hI h3 hN nx)
    (fun _ => st_634 hI h3 hN nx) (fun _ => st_699 hI h3 hN nx) (fun _ => st_755 hI h3 hN nx) (fun _ => st_811 hI nx) (fun _ => st_824 hI nx)
    (fun _ => st_837 hI nx) (fun _ => st_850 hI h3 hN nx) (fun _ => st_906 hI h3 hN nx) (fun _ => st_962 hI h3 hN nx) (fun _ => st_1018 hI h3 hN nx)
    (fun _ => st_1074 hI nx) (fun _ => st_1087 hI nx) (fun _ => st_1100 hI h3 hN nx) (fun _ => st_1156 hI h3 hN nx) (fun _ => st_1226 hI h3 hN nx)
    (fun _ _ _ _ _ _ _ _ _ _ _ _ _ _ _ _ _ _ _ _ _ _ _ _ _ => nx _ (LI_up hI))
theorem lw_loop (hN : N ≤ 1536) : ∀ m cnt G, LI N cnt G → 3 * cnt ≤ N + 2 → N ≤ 3 * cnt + 3 * m → mj_X 2047 14018 23 (lv5 (nI (3 * cnt))) [] G (fun o G => o = .inl (some (.inl (Int32.ofInt 1))) ∧ mj_n G ≤ 600003 ∧ mj_u G ≤ 7200000) := by
  intro m
  induction m with
  | zero =>
    intro cnt G hI hc hm
    obtain ⟨s, ρ, f, hS, -, -, -, -, h6, h7⟩ := hI
    have n1 := Nat.le_trans (Nat.le_add_right (mj_n G) (pw 1 2 G)) h6
    have n2 := Nat.le_trans (Nat.le_add_right (mj_u G) (pw 300 8 G)) h7
    refine mk_14018_23 (by rw [hS.2.1]; exact Nat.le_refl _) rfl (fun _ => mk_14018_1288 (Or.inr rfl) ⟨rfl, by omega, by omega⟩) (fun q => absurd ?_ q)
    rw [hS.2.2.1]
    exact (z_23 hN (by omega)).mpr (by omega)
  | succ m ih =>
    intro cnt G hI hc hm
    have hI0 := hI
    obtain ⟨s, ρ, f, hS, -, -, -, -, h6, h7⟩ := hI
    have n1 := Nat.le_trans (Nat.le_add_right (mj_n G) (pw 1 2 G)) h6
    have n2 := Nat.le_trans (Nat.le_add_right (mj_u G) (pw 300 8 G)) h7
    refine mk_14018_23 (by rw [hS.2.1]; exact Nat.le_refl _) rfl (fun _ => mk_14018_1288 (Or.inr rfl) ⟨rfl, by omega, by omega⟩) (fun q => ?_)
    have q1 : 3 * cnt + 3 ≤ N := by
      apply Nat.le_of_not_lt
      intro w
      apply q
      rw [hS.2.2.1]
      exact (z_23 hN (by omega)).mpr w
    refine st_32 hI0 q1 hN (fun G' hG' => mk_14018_1282 ?_)
    rw [show nI (3 * cnt) + Int32.ofInt 3 = nI (3 * (cnt + 1)) from z_add _ _]
    exact ih (cnt + 1) G' hG' (by omega) (by omega)
end ZZZK
