/-! THE BEGINNING: what holds ahead of the first call -/
def s0_u : wo := ((fun _ => rv_0, fun _ _ => rv_0), (fun _ _ => 0, fun _ => 0, fun _ => 0, fun _ => 0), (fun _ => [], fun _ => rv_T 0 (fun _ => 0) true, 1000), ((fun _ => False, mj_G0 0 (fun _ => 0)), (1591, 0, fun _ => 0)))
def s0_k : kfr := (false, (0, 0, 0), (0, fun _ => 0), (0, false), (0, fun _ => 0), (0, 0), (fun _ => rv_0, fun _ => rv_0), fun _ _ => rv_0)
def s0_o : ost := (0, fun _ => 0, fun _ => 0, false)
def s0 : lst := (s0_u, fun _ => s0_k, s0_o, (0, fun _ => 0), (0, 0), (0, fun _ => 0), fun _ => 15)
theorem s0_3 : ¬ (0 : Nat) = 3 := by decide
theorem s0_1 : ¬ (0 : Nat) = 1 := by decide
theorem s0_2 : ¬ (0 : Nat) = 2 := by decide
theorem s0_21 : ¬ (2 : Nat) = 1 := by decide
theorem s0_23 : ¬ (2 : Nat) = 3 := by decide
theorem s0_20 : ¬ 2 ≤ (0 : Nat) := by decide
theorem s0_x : ¬ (0 : Nat) = 123 := by decide
theorem s0_15 : 15 < 16 := by decide
theorem s0_W : tx_W (fun _ => 0) 0 := ⟨by decide, fun k h => absurd h (Nat.not_lt_zero k), fun _ _ => rfl⟩
theorem s0_F : rv_ok (rv_T 0 (fun _ => 0) true) := rv_okT (by decide) (fun j h => absurd h (Nat.not_lt_zero j))
theorem s0_O : o_ok s0_o := ⟨by decide, rfl, fun i h => absurd h (Nat.not_lt_zero i)⟩
theorem s0_Q : LQ s0 := by
  refine ⟨⟨fun l _ => ⟨rv_ok0, fun h => absurd h s0_3⟩, by decide, fun j _ => ⟨s0_F, rfl, Nat.zero_le _⟩, fun T _ => ⟨s0_W, Nat.zero_le _, 0, 1, Or.inl ⟨rfl, rfl, fun h => absurd h.1 s0_x⟩, Or.inl ⟨rfl, rfl, rfl⟩⟩⟩, s0_W, fun _ _ => s0_15, s0_O, by decide, fun i h => absurd h (Nat.not_lt_zero i), by decide⟩
section BN
variable {ρ : Nat → Int32} {t : Nat}
def s0_r : Nat → Nat := fun _ => 0
theorem s0_im {a : Nat} (h : im_o a) (ha : a < 1768) : imm s0_r a := by
  unfold imm
  rw [ow_s ha]
  exact h
theorem s0_hh : hh s0_r (u_D s0_u) (u_I s0_u) (mv_dG ρ mw_h_a2) := by
  refine ⟨bg_S, ⟨fun i hi => Or.inl (bm_v7 hi), fun i hi => Or.inl (bm_s7 hi), fun i hi => Or.inl (bm_f18 hi), fun i hi => Or.inl (bm_fk hi), fun i hi => ⟨bm_kg hi, bm_lg hi⟩⟩, bm_hb, fun l hl => ?_⟩
  have e := bm_rd (ρ := ρ) hl
  rw [e]
  refine ⟨s0_im (by unfold im_o; omega) (by omega), by show 15 + 2 * l < 1768; omega, ⟨bm_kd hl, ?_, bm_id0 hl, fun h => absurd h s0_1, fun h => absurd h s0_2, fun h => absurd h s0_3⟩, rv_ok0, fun h => absurd h s0_3⟩
  rw [bm_id2 hl]
  exact Or.inl rfl
theorem s0_b4 {g : Nat} (ht : t < 10) (hg : g < 10) : mj_r (mv_dG ρ mw_h_a2) (1595 + 8 * t) g = 0 := by
  have h := bm_b4 (ρ := ρ) (t := 10 * t + g) (by omega)
  rw [show (10 * t + g) / 10 = t from by omega, show (10 * t + g) % 10 = g from by omega] at h
  exact h
theorem s0_b5 {g : Nat} (ht : t < 10) (hg : g < 10) : mj_r (mv_dG ρ mw_h_a2) (1596 + 8 * t) g = 0 := by
  have h := bm_b5 (ρ := ρ) (t := 10 * t + g) (by omega)
  rw [show (10 * t + g) / 10 = t from by omega, show (10 * t + g) % 10 = g from by omega] at h
  exact h
theorem s0_wC : wC s0_u s0_r (mv_dG ρ mw_h_a2) := by
  refine ⟨fun t ht => ?_, fun g hg => ⟨fun t ht => ?_, fun t ht => ?_⟩, fun t ht j hj => ?_, fun a h => h.elim, fun j hj => ⟨s0_F, rfl, ?_⟩⟩
  · rw [bm_r7 ht]
    exact ⟨Or.inl (by omega), s0_im (by unfold im_o; omega) (by omega), by show 1594 + 8 * t < 1768; omega, bm_kt ht, bm_it1 ht, bm_rt0 ht, Nat.zero_le _⟩
  · rw [bm_r7 ht, bm_rt4 ht]
    exact ⟨bm_kt ht, by rw [bm_k4 ht]; decide, bm_l4 ht, s0_b4 ht hg, fun x h => by cases h⟩
  · rw [bm_r7 ht, bm_rt5 ht]
    exact ⟨bm_kt ht, by rw [bm_k5 ht]; decide, bm_l5 ht, s0_b5 ht hg, fun x h => by cases h⟩
  · rw [bm_r7 ht]
    rcases hj with rfl | rfl
    · rw [bm_rt4 ht]
      exact ⟨s0_im (by unfold im_o; omega) (by omega), by show 1595 + 8 * t < 1768; omega⟩
    · rw [bm_rt5 ht]
      exact ⟨s0_im (by unfold im_o; omega) (by omega), by show 1596 + 8 * t < 1768; omega⟩
  · refine ⟨bm_kf hj, ?_, bm_if0 hj, fun h => absurd h s0_21, fun _ => ?_, fun h => absurd h s0_23⟩
    · rw [bm_if2 hj]
      exact Or.inr rfl
    · rw [bm_rf3 hj]
      exact ⟨bm_if4 hj, bm_if2 hj, s0_im (Or.inr (Or.inl rfl)) (by decide), by decide, by show 2 < 1768; decide, bm_k2 (t := 0) (by decide), Nat.zero_le _, fun k h => absurd h (Nat.not_lt_zero k)⟩
theorem s0_yL : yL s0_u (mv_dG ρ mw_h_a2) := by
  refine ⟨fun t ht => ⟨fun i hi => ?_, fun j hj => ?_⟩, fun l hl => ⟨?_, fun h => absurd h s0_3⟩⟩
  · rw [bm_r7 ht, bm_it3 ht]
    refine ⟨fun h => ?_, fun ⟨x, h, _⟩ => by cases h⟩
    unfold bt at h
    exact absurd h (by show ¬ (0#32).getLsbD i = true; simp)
  · rw [bm_r7 ht]
    rcases hj with rfl | rfl
    · rw [bm_rt4 ht]; exact Or.inl (by omega)
    · rw [bm_rt5 ht]; exact Or.inl (by omega)
  · rw [bm_rd hl]
    omega
theorem s0_C : LC s0 s0_r (mv_dG ρ mw_h_a2) := by
  refine ⟨s0_hh, ⟨s0_wC, s0_yL⟩, fun i hi => ⟨⟨fun _ => bm_rg hi, fun h => by cases h⟩, fun h => by cases h⟩, ⟨⟨s0_O, Or.inl (bm_o0 (t := 0) (by decide)), bm_io1 (t := 0) (by decide), bm_io5 (t := 0) (by decide), fun i h => absurd h (Nat.not_lt_zero i), fun i h => ?_⟩, Or.inr (bm_o2 (t := 0) (by decide)), ?_, bm_io3 (t := 0) (by decide), fun i h => absurd h (Nat.not_lt_zero i)⟩, ⟨bm_i66 (t := 0) (by decide), bm_i67 (t := 0) (by decide), bm_i68 (t := 0) (by decide)⟩, ⟨bm_i31 (t := 0) (by decide), fun k h => absurd h (Nat.not_lt_zero k)⟩, fun i hi => bm_i5 hi⟩
  · rw [Nat.le_zero.mp h]
    exact bm_i92 (t := 0) (by decide)
  · rw [bm_o2 (t := 0) (by decide), bm_o0 (t := 0) (by decide)]
    decide
theorem s0_M : LM s0 (fun a j => mj_i (mv_dG ρ mw_h_a2) a j) := by
  refine ⟨⟨fun t ht => ⟨⟨ht, s0_W, bm_m17 ht, fun k h => absurd h (Nat.not_lt_zero k)⟩, Nat.zero_le _, Or.inl ⟨rfl, fun h => absurd h.1 s0_x⟩⟩, fun j hj => ⟨s0_F, rfl, Nat.zero_le _, bm_m19 hj, fun i h => absurd h (Nat.not_lt_zero i)⟩, fun l hl => ⟨rv_ok0, bm_m20 hl, fun h => absurd h s0_1, fun h => absurd h s0_20, fun h => absurd h s0_2, fun h => absurd h s0_3⟩, bm_m67 (t := 0) (by decide)⟩, fun i hi => ⟨fun _ => bm_m49 hi, fun h => by cases h⟩, ⟨⟨s0_o, ⟨s0_O, bm_m61 (t := 0) (by decide), bm_m62 (t := 0) (by decide), fun i h => absurd h (Nat.not_lt_zero i), fun i h => ?_⟩, rfl, fun i h => absurd h (Nat.not_lt_zero i)⟩, bm_m64 (t := 0) (by decide), fun i h => absurd h (Nat.not_lt_zero i)⟩, ⟨bm_m68 (t := 0) (by decide), bm_m69 (t := 0) (by decide)⟩, ⟨bm_m2 (t := 0) (by decide), fun k h => absurd h (Nat.not_lt_zero k)⟩, fun i hi => bm_m63 hi⟩
  rw [Nat.le_zero.mp h]
  exact bm_m60 (t := 0) (by decide)
end BN
