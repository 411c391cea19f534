/-! ONE CALL ON FRESH OBJECTS: every way of it, walked by the kernel (wip/tools/gen27.py, gen27b.py) -/
def mw_eF (y z : Nat × mv_I × mv_I × Bool) : Bool := (Nat.beq y.1 z.1 && decide (y.2.1 = z.2.1)) && (decide (y.2.2.1 = z.2.2.1) && decide (y.2.2.2 = z.2.2.2))
theorem mw_eF_e {y z : Nat × mv_I × mv_I × Bool} (h : mw_eF y z = true) : y = z := by
  unfold mw_eF at h
  simp only [Bool.and_eq_true, decide_eq_true_eq] at h
  exact Prod.ext (Nat.eq_of_beq_eq_true h.1.1) (Prod.ext h.1.2 (Prod.ext h.2.1 h.2.2))
def mw_ck (A : mv_F) (r : Option (mv_O × mv_H × List Bool × mv_F)) : Bool := match r with
  | some (.inl (some (.inl (.inl x))), H, _, fs) => (decide (x = 1) && (Nat.ble H.1 1800 && Nat.ble H.2.1 240000)) && fs.all (fun z => A.any (fun y => mw_eF y z))
  | _ => false
def mw_Q : mj_O → mj_G → Prop := fun o G => o = .inl (some (.inl 1)) ∧ mj_n G ≤ 1800 ∧ mj_u G ≤ 240000
def mw_S (ρ : Nat → Int32) : Prop := mj_X 2047 14018 23 (mv_dL ρ mw_l_a2) (mv_dS ρ []) (mv_dG ρ mw_h_a2) mw_Q
def mw_r (tb : mv_T) (bs : List Bool) : Option (mv_O × mv_H × List Bool × mv_F) := mv_ev tb 20000 2047 14018 23 mw_l_a2 [] mw_h_a2 bs []
theorem mw_op {ρ : Nat → Int32} {tb : mv_T} {bs : List Bool} {A : mv_F} (ht : mv_okT ρ tb) (h : mw_ck A (mw_r tb bs) = true) (hA : ∀ z ∈ A, mv_hold ρ z) : mw_S ρ := by
  unfold mw_ck mw_r at h
  split at h
  · rename_i x H bs2 fs he
    simp only [Bool.and_eq_true, decide_eq_true_eq, List.all_eq_true, List.any_eq_true] at h
    obtain ⟨⟨h1, h2, h3⟩, h4⟩ := h
    subst h1
    refine ⟨20000, mj_XF_mono ((mv_ev_e ht he).2 (fun z hz => by
      obtain ⟨y, hy, hyz⟩ := h4 z hz
      rw [← mw_eF_e hyz]
      exact hA y hy)) fun o G hG => ?_⟩
    obtain ⟨rfl, rfl⟩ := hG
    exact ⟨rfl, Nat.le_of_ble_eq_true h2, Nat.le_of_ble_eq_true h3⟩
  · cases h
def mw_b (op : Int32) (l : mv_T) : mv_T := (1, .inr 0, .inl 3, .inl 0) :: (3, .inr 1, .inl 31, .inl op) :: l
set_option maxRecDepth 1000000 in
theorem mw_t_o1 : mw_ck [(2, Sum.inl 0, Sum.inr 0, true)] (mw_r (mw_b 1 []) []) = true := by decide +kernel
set_option maxRecDepth 1000000 in
theorem mw_t_o2 : mw_ck [(2, Sum.inl 0, Sum.inr 0, true)] (mw_r (mw_b 2 []) []) = true := by decide +kernel
set_option maxRecDepth 1000000 in
theorem mw_t_o13 : mw_ck [(2, Sum.inl 0, Sum.inr 0, true)] (mw_r (mw_b 13 []) []) = true := by decide +kernel
set_option maxRecDepth 1000000 in
theorem mw_t_o14 : mw_ck [(2, Sum.inl 0, Sum.inr 0, true)] (mw_r (mw_b 14 []) []) = true := by decide +kernel
set_option maxRecDepth 1000000 in
theorem mw_t_o15 : mw_ck [(2, Sum.inl 0, Sum.inr 0, true)] (mw_r (mw_b 15 []) []) = true := by decide +kernel
set_option maxRecDepth 1000000 in
theorem mw_t_o20 : mw_ck [(2, Sum.inl 0, Sum.inr 0, true)] (mw_r (mw_b 20 []) []) = true := by decide +kernel
set_option maxRecDepth 1000000 in
theorem mw_t_o21 : mw_ck [(2, Sum.inl 0, Sum.inr 0, true)] (mw_r (mw_b 21 []) []) = true := by decide +kernel
set_option maxRecDepth 1000000 in
theorem mw_t_o25 : mw_ck [(2, Sum.inl 0, Sum.inr 0, true)] (mw_r (mw_b 25 []) []) = true := by decide +kernel
set_option maxRecDepth 1000000 in
theorem mw_t_o26 : mw_ck [(2, Sum.inl 0, Sum.inr 0, true)] (mw_r (mw_b 26 []) []) = true := by decide +kernel
set_option maxRecDepth 1000000 in
theorem mw_t_o27 : mw_ck [(2, Sum.inl 0, Sum.inr 0, true)] (mw_r (mw_b 27 []) []) = true := by decide +kernel
set_option maxRecDepth 1000000 in
theorem mw_t_o28 : mw_ck [(2, Sum.inl 0, Sum.inr 0, true)] (mw_r (mw_b 28 []) []) = true := by decide +kernel
set_option maxRecDepth 1000000 in
theorem mw_t_o29 : mw_ck [(2, Sum.inl 0, Sum.inr 0, true)] (mw_r (mw_b 29 []) []) = true := by decide +kernel
set_option maxRecDepth 1000000 in
theorem mw_t_o30 : mw_ck [(2, Sum.inl 0, Sum.inr 0, true)] (mw_r (mw_b 30 []) []) = true := by decide +kernel
set_option maxRecDepth 1000000 in
theorem mw_t_o31 : mw_ck [(2, Sum.inl 0, Sum.inr 0, true)] (mw_r (mw_b 31 []) []) = true := by decide +kernel
set_option maxRecDepth 1000000 in
theorem mw_t_o5_lo : mw_ck [(2, Sum.inr 2, Sum.inl 97, true), (2, Sum.inl 2, Sum.inr 0, true), (2, Sum.inl 1, Sum.inr 0, true), (2, Sum.inl 0, Sum.inr 0, true)] (mw_r (mw_b 5 [(8, .inr 3, .inl 0, .inr 2)]) [true, true]) = true := by decide +kernel
set_option maxRecDepth 1000000 in
theorem mw_t_o5_hi : mw_ck [(4, Sum.inr 2, Sum.inl 122, true), (2, Sum.inr 2, Sum.inl 97, false), (2, Sum.inl 2, Sum.inr 0, true), (2, Sum.inl 1, Sum.inr 0, true), (2, Sum.inl 0, Sum.inr 0, true)] (mw_r (mw_b 5 [(8, .inr 3, .inl 0, .inr 2)]) [false, true, false, true]) = true := by decide +kernel
set_option maxRecDepth 1000000 in
theorem mw_t_o6_lo : mw_ck [(2, Sum.inr 2, Sum.inl 97, true), (2, Sum.inl 1, Sum.inr 0, true), (2, Sum.inl 0, Sum.inr 0, true)] (mw_r (mw_b 6 [(8, .inr 3, .inl 0, .inr 2)]) [true, true]) = true := by decide +kernel
set_option maxRecDepth 1000000 in
theorem mw_t_o6_hi : mw_ck [(4, Sum.inr 2, Sum.inl 122, true), (2, Sum.inr 2, Sum.inl 97, false), (2, Sum.inl 1, Sum.inr 0, true), (2, Sum.inl 0, Sum.inr 0, true)] (mw_r (mw_b 6 [(8, .inr 3, .inl 0, .inr 2)]) [false, true, false, true]) = true := by decide +kernel
set_option maxRecDepth 1000000 in
theorem mw_t_o7_lo : mw_ck [(2, Sum.inr 2, Sum.inl 97, true), (2, Sum.inl 1, Sum.inr 0, true), (2, Sum.inl 0, Sum.inr 0, true)] (mw_r (mw_b 7 [(8, .inr 3, .inl 0, .inr 2)]) [true, true]) = true := by decide +kernel
set_option maxRecDepth 1000000 in
theorem mw_t_o7_hi : mw_ck [(4, Sum.inr 2, Sum.inl 122, true), (2, Sum.inr 2, Sum.inl 97, false), (2, Sum.inl 1, Sum.inr 0, true), (2, Sum.inl 0, Sum.inr 0, true)] (mw_r (mw_b 7 [(8, .inr 3, .inl 0, .inr 2)]) [false, true, false, true]) = true := by decide +kernel
set_option maxRecDepth 1000000 in
theorem mw_t_o8_lo : mw_ck [(2, Sum.inr 2, Sum.inl 97, true), (2, Sum.inl 2, Sum.inr 0, true), (2, Sum.inl 1, Sum.inr 0, true), (2, Sum.inl 0, Sum.inr 0, true)] (mw_r (mw_b 8 [(8, .inr 3, .inl 0, .inr 2)]) [true, true]) = true := by decide +kernel
set_option maxRecDepth 1000000 in
theorem mw_t_o8_hi : mw_ck [(4, Sum.inr 2, Sum.inl 122, true), (2, Sum.inr 2, Sum.inl 97, false), (2, Sum.inl 2, Sum.inr 0, true), (2, Sum.inl 1, Sum.inr 0, true), (2, Sum.inl 0, Sum.inr 0, true)] (mw_r (mw_b 8 [(8, .inr 3, .inl 0, .inr 2)]) [false, true, false, true]) = true := by decide +kernel
set_option maxRecDepth 1000000 in
theorem mw_t_o9_lo : mw_ck [(2, Sum.inr 2, Sum.inl 97, true), (2, Sum.inl 1, Sum.inr 0, true), (2, Sum.inl 0, Sum.inr 0, true)] (mw_r (mw_b 9 [(8, .inr 3, .inl 0, .inr 2)]) [true, true]) = true := by decide +kernel
set_option maxRecDepth 1000000 in
theorem mw_t_o9_hi : mw_ck [(4, Sum.inr 2, Sum.inl 122, true), (2, Sum.inr 2, Sum.inl 97, false), (2, Sum.inl 1, Sum.inr 0, true), (2, Sum.inl 0, Sum.inr 0, true)] (mw_r (mw_b 9 [(8, .inr 3, .inl 0, .inr 2)]) [false, true, false, true]) = true := by decide +kernel
set_option maxRecDepth 1000000 in
theorem mw_t_o10_lo : mw_ck [(2, Sum.inr 2, Sum.inl 97, true), (2, Sum.inl 1, Sum.inr 0, true), (2, Sum.inl 0, Sum.inr 0, true)] (mw_r (mw_b 10 [(8, .inr 3, .inl 0, .inr 2)]) [true, true]) = true := by decide +kernel
set_option maxRecDepth 1000000 in
theorem mw_t_o10_hi : mw_ck [(4, Sum.inr 2, Sum.inl 122, true), (2, Sum.inr 2, Sum.inl 97, false), (2, Sum.inl 1, Sum.inr 0, true), (2, Sum.inl 0, Sum.inr 0, true)] (mw_r (mw_b 10 [(8, .inr 3, .inl 0, .inr 2)]) [false, true, false, true]) = true := by decide +kernel
set_option maxRecDepth 1000000 in
theorem mw_t_o23_lo : mw_ck [(2, Sum.inr 2, Sum.inl 97, true), (2, Sum.inl 2, Sum.inr 0, true), (2, Sum.inl 1, Sum.inr 0, true), (2, Sum.inl 0, Sum.inr 0, true)] (mw_r (mw_b 23 [(8, .inr 3, .inl 0, .inr 2)]) [true, true]) = true := by decide +kernel
set_option maxRecDepth 1000000 in
theorem mw_t_o23_hi : mw_ck [(4, Sum.inr 2, Sum.inl 122, true), (2, Sum.inr 2, Sum.inl 97, false), (2, Sum.inl 2, Sum.inr 0, true), (2, Sum.inl 1, Sum.inr 0, true), (2, Sum.inl 0, Sum.inr 0, true)] (mw_r (mw_b 23 [(8, .inr 3, .inl 0, .inr 2)]) [false, true, false, true]) = true := by decide +kernel
set_option maxRecDepth 1000000 in
theorem mw_t_o0_lo : mw_ck [(2, Sum.inr 2, Sum.inl 32, true), (2, Sum.inl 1, Sum.inr 0, true), (2, Sum.inl 0, Sum.inr 0, true)] (mw_r (mw_b 0 [(8, .inr 3, .inl 0, .inr 2)]) [true, true]) = true := by decide +kernel
set_option maxRecDepth 1000000 in
theorem mw_t_o0_hi : mw_ck [(4, Sum.inr 2, Sum.inl 126, true), (2, Sum.inr 2, Sum.inl 32, false), (2, Sum.inl 1, Sum.inr 0, true), (5, Sum.inr 2, Sum.inl 126, false), (2, Sum.inl 0, Sum.inr 0, true)] (mw_r (mw_b 0 [(8, .inr 3, .inl 0, .inr 2)]) [false, false, false, true]) = true := by decide +kernel
set_option maxRecDepth 1000000 in
theorem mw_t_o0_in : mw_ck [(4, Sum.inr 2, Sum.inl 126, false), (2, Sum.inr 2, Sum.inl 32, false), (2, Sum.inl 1, Sum.inr 0, true), (6, Sum.inr 2, Sum.inl 0, true), (5, Sum.inr 2, Sum.inl 126, true), (2, Sum.inl 0, Sum.inr 0, true)] (mw_r (mw_b 0 [(8, .inr 3, .inl 0, .inr 2)]) [false, true, false, false]) = true := by decide +kernel
set_option maxRecDepth 1000000 in
theorem mw_t_o3_lo : mw_ck [(2, Sum.inr 3, Sum.inl 0, true), (2, Sum.inl 1, Sum.inr 0, true), (2, Sum.inl 0, Sum.inr 0, true)] (mw_r (mw_b 3 []) [true, true]) = true := by decide +kernel
set_option maxRecDepth 1000000 in
theorem mw_t_o3_hi : mw_ck [(4, Sum.inr 3, Sum.inl 9, true), (2, Sum.inr 3, Sum.inl 0, false), (2, Sum.inl 1, Sum.inr 0, true), (2, Sum.inr 3, Sum.inl 10, false), (2, Sum.inl 0, Sum.inr 0, true)] (mw_r (mw_b 3 []) [false, false, false, true]) = true := by decide +kernel
set_option maxRecDepth 1000000 in
theorem mw_t_o12_lo : mw_ck [(2, Sum.inr 3, Sum.inl 0, true), (2, Sum.inl 1, Sum.inr 0, true), (2, Sum.inl 0, Sum.inr 0, true)] (mw_r (mw_b 12 []) [true, true]) = true := by decide +kernel
set_option maxRecDepth 1000000 in
theorem mw_t_o12_hi : mw_ck [(4, Sum.inr 3, Sum.inl 9, true), (2, Sum.inr 3, Sum.inl 0, false), (2, Sum.inl 1, Sum.inr 0, true), (2, Sum.inr 3, Sum.inl 10, false), (2, Sum.inl 0, Sum.inr 0, true)] (mw_r (mw_b 12 []) [false, false, false, true]) = true := by decide +kernel
set_option maxRecDepth 1000000 in
theorem mw_t_o22_lo : mw_ck [(2, Sum.inr 3, Sum.inl 0, true), (2, Sum.inl 1, Sum.inr 0, true), (2, Sum.inl 0, Sum.inr 0, true)] (mw_r (mw_b 22 []) [true, true]) = true := by decide +kernel
set_option maxRecDepth 1000000 in
theorem mw_t_o22_hi : mw_ck [(4, Sum.inr 3, Sum.inl 9, true), (2, Sum.inr 3, Sum.inl 0, false), (2, Sum.inl 1, Sum.inr 0, true), (2, Sum.inr 3, Sum.inl 10, false), (2, Sum.inl 0, Sum.inr 0, true)] (mw_r (mw_b 22 []) [false, false, false, true]) = true := by decide +kernel
set_option maxRecDepth 1000000 in
theorem mw_t_o24_lo : mw_ck [(2, Sum.inr 3, Sum.inl 0, true), (2, Sum.inl 1, Sum.inr 0, true), (2, Sum.inl 0, Sum.inr 0, true)] (mw_r (mw_b 24 []) [true, true]) = true := by decide +kernel
set_option maxRecDepth 1000000 in
theorem mw_t_o24_hi : mw_ck [(4, Sum.inr 3, Sum.inl 9, true), (2, Sum.inr 3, Sum.inl 0, false), (2, Sum.inl 1, Sum.inr 0, true), (2, Sum.inr 3, Sum.inl 10, false), (2, Sum.inl 0, Sum.inr 0, true)] (mw_r (mw_b 24 []) [false, false, false, true]) = true := by decide +kernel
set_option maxRecDepth 1000000 in
theorem mw_t_o16_lo : mw_ck [(2, Sum.inr 3, Sum.inl 0, true), (2, Sum.inl 1, Sum.inr 0, true), (2, Sum.inl 0, Sum.inr 0, true)] (mw_r (mw_b 16 []) [true, true]) = true := by decide +kernel
set_option maxRecDepth 1000000 in
theorem mw_t_o16_hi : mw_ck [(4, Sum.inr 3, Sum.inl (-1), true), (2, Sum.inr 3, Sum.inl 0, false), (2, Sum.inl 1, Sum.inr 0, true), (2, Sum.inl 0, Sum.inr 0, true)] (mw_r (mw_b 16 []) [false, false, false, true]) = true := by decide +kernel
set_option maxRecDepth 1000000 in
theorem mw_t_o17_lo : mw_ck [(2, Sum.inr 3, Sum.inl 0, true), (2, Sum.inl 1, Sum.inr 0, true), (2, Sum.inl 0, Sum.inr 0, true)] (mw_r (mw_b 17 []) [true, true]) = true := by decide +kernel
set_option maxRecDepth 1000000 in
theorem mw_t_o17_hi : mw_ck [(4, Sum.inr 3, Sum.inl (-1), true), (2, Sum.inr 3, Sum.inl 0, false), (2, Sum.inl 1, Sum.inr 0, true), (2, Sum.inl 0, Sum.inr 0, true)] (mw_r (mw_b 17 []) [false, false, false, true]) = true := by decide +kernel
set_option maxRecDepth 1000000 in
theorem mw_t_o18_lo : mw_ck [(2, Sum.inr 3, Sum.inl 0, true), (2, Sum.inl 1, Sum.inr 0, true), (2, Sum.inl 0, Sum.inr 0, true)] (mw_r (mw_b 18 []) [true, true]) = true := by decide +kernel
set_option maxRecDepth 1000000 in
theorem mw_t_o18_hi : mw_ck [(4, Sum.inr 3, Sum.inl (-1), true), (2, Sum.inr 3, Sum.inl 0, false), (2, Sum.inl 1, Sum.inr 0, true), (2, Sum.inl 0, Sum.inr 0, true)] (mw_r (mw_b 18 []) [false, false, false, true]) = true := by decide +kernel
set_option maxRecDepth 1000000 in
theorem mw_t_o19_lo : mw_ck [(2, Sum.inr 3, Sum.inl 0, true), (2, Sum.inl 1, Sum.inr 0, true), (2, Sum.inl 0, Sum.inr 0, true)] (mw_r (mw_b 19 []) [true, true]) = true := by decide +kernel
set_option maxRecDepth 1000000 in
theorem mw_t_o19_hi : mw_ck [(4, Sum.inr 3, Sum.inl 0, true), (2, Sum.inr 3, Sum.inl 0, false), (2, Sum.inl 1, Sum.inr 0, true), (5, Sum.inr 3, Sum.inl 0, false), (2, Sum.inl 0, Sum.inr 0, true)] (mw_r (mw_b 19 []) [false, false, false, true]) = true := by decide +kernel
set_option maxRecDepth 1000000 in
theorem mw_t_o11_lo : mw_ck [(2, Sum.inr 3, Sum.inl 1, true), (2, Sum.inl 1, Sum.inr 0, true), (2, Sum.inl 0, Sum.inr 0, true)] (mw_r (mw_b 11 []) [true, true]) = true := by decide +kernel
set_option maxRecDepth 1000000 in
theorem mw_t_o11_in : mw_ck [(4, Sum.inr 3, Sum.inl 2000, false), (2, Sum.inr 3, Sum.inl 1, false), (2, Sum.inl 1, Sum.inr 0, true), (5, Sum.inr 3, Sum.inl 2000, true), (2, Sum.inl 0, Sum.inr 0, true)] (mw_r (mw_b 11 []) [false, true, false, false]) = true := by decide +kernel
set_option maxRecDepth 1000000 in
theorem mw_t_o11_hi : mw_ck [(4, Sum.inr 3, Sum.inl 2000, true), (2, Sum.inr 3, Sum.inl 1, false), (2, Sum.inl 1, Sum.inr 0, true), (5, Sum.inr 3, Sum.inl 2000, false), (2, Sum.inl 0, Sum.inr 0, true)] (mw_r (mw_b 11 []) [false, false, false, true]) = true := by decide +kernel
set_option maxRecDepth 1000000 in
theorem mw_t_o4_lo : mw_ck [(2, Sum.inr 3, Sum.inl 0, true), (2, Sum.inl 2, Sum.inr 0, true), (2, Sum.inl 1, Sum.inr 0, true), (2, Sum.inl 0, Sum.inr 0, true)] (mw_r (mw_b 4 []) [true, true]) = true := by decide +kernel
set_option maxRecDepth 1000000 in
theorem mw_t_o4_hi : mw_ck [(4, Sum.inr 3, Sum.inl 9, true), (2, Sum.inr 3, Sum.inl 0, false), (2, Sum.inl 2, Sum.inr 0, true), (2, Sum.inl 1, Sum.inr 0, true), (2, Sum.inr 3, Sum.inl 10, false), (2, Sum.inl 0, Sum.inr 0, true)] (mw_r (mw_b 4 []) [false, false, false, true]) = true := by decide +kernel
set_option maxRecDepth 1000000 in
theorem mw_t_o4_flo : mw_ck [(2, Sum.inr 5, Sum.inl 0, true), (4, Sum.inr 3, Sum.inl 9, false), (2, Sum.inr 3, Sum.inl 0, false), (2, Sum.inl 2, Sum.inr 0, true), (2, Sum.inl 1, Sum.inr 0, true), (2, Sum.inr 3, Sum.inl 10, true), (2, Sum.inl 0, Sum.inr 0, true)] (mw_r (mw_b 4 []) [false, true, true, false, false, true]) = true := by decide +kernel
set_option maxRecDepth 1000000 in
theorem mw_t_o4_fhi : mw_ck [(4, Sum.inr 5, Sum.inl 1, true), (2, Sum.inr 5, Sum.inl 0, false), (4, Sum.inr 3, Sum.inl 9, false), (2, Sum.inr 3, Sum.inl 0, false), (2, Sum.inl 2, Sum.inr 0, true), (2, Sum.inl 1, Sum.inr 0, true), (5, Sum.inr 5, Sum.inl 1, false), (2, Sum.inr 3, Sum.inl 10, true), (2, Sum.inl 0, Sum.inr 0, true)] (mw_r (mw_b 4 []) [false, true, false, false, false, false, false, true]) = true := by decide +kernel
set_option maxRecDepth 1000000 in
theorem mw_t_o5_a : (List.range 26).all (fun k => mw_ck [(2, Sum.inl 2, Sum.inr 0, true), (2, Sum.inl 1, Sum.inr 0, true), (2, Sum.inl 0, Sum.inr 0, true)] (mw_r (mw_b 5 [(8, .inr 3, .inl 0, .inl (Int32.ofNat (97 + k)))]) [])) = true := by decide +kernel
set_option maxRecDepth 1000000 in
theorem mw_t_o6_a : (List.range 26).all (fun k => mw_ck [(2, Sum.inl 1, Sum.inr 0, true), (2, Sum.inl 0, Sum.inr 0, true)] (mw_r (mw_b 6 [(8, .inr 3, .inl 0, .inl (Int32.ofNat (97 + k)))]) [])) = true := by decide +kernel
set_option maxRecDepth 1000000 in
theorem mw_t_o7_a : (List.range 26).all (fun k => mw_ck [(2, Sum.inl 1, Sum.inr 0, true), (2, Sum.inl 0, Sum.inr 0, true)] (mw_r (mw_b 7 [(8, .inr 3, .inl 0, .inl (Int32.ofNat (97 + k)))]) [])) = true := by decide +kernel
set_option maxRecDepth 1000000 in
theorem mw_t_o8_a : (List.range 26).all (fun k => mw_ck [(2, Sum.inl 2, Sum.inr 0, true), (2, Sum.inl 1, Sum.inr 0, true), (2, Sum.inl 0, Sum.inr 0, true)] (mw_r (mw_b 8 [(8, .inr 3, .inl 0, .inl (Int32.ofNat (97 + k)))]) [])) = true := by decide +kernel
set_option maxRecDepth 1000000 in
theorem mw_t_o9_a : (List.range 26).all (fun k => mw_ck [(2, Sum.inl 1, Sum.inr 0, true), (2, Sum.inl 0, Sum.inr 0, true)] (mw_r (mw_b 9 [(8, .inr 3, .inl 0, .inl (Int32.ofNat (97 + k)))]) [])) = true := by decide +kernel
set_option maxRecDepth 1000000 in
theorem mw_t_o10_a : (List.range 26).all (fun k => mw_ck [(2, Sum.inl 1, Sum.inr 0, true), (2, Sum.inl 0, Sum.inr 0, true)] (mw_r (mw_b 10 [(8, .inr 3, .inl 0, .inl (Int32.ofNat (97 + k)))]) [])) = true := by decide +kernel
set_option maxRecDepth 1000000 in
theorem mw_t_o23_alo : (List.range 26).all (fun k => mw_ck [(2, Sum.inr 5, Sum.inl 1, true), (2, Sum.inl 2, Sum.inr 0, true), (2, Sum.inl 1, Sum.inr 0, true), (2, Sum.inl 0, Sum.inr 0, true)] (mw_r (mw_b 23 [(8, .inr 3, .inl 0, .inl (Int32.ofNat (97 + k)))]) [true, true])) = true := by decide +kernel
set_option maxRecDepth 1000000 in
theorem mw_t_o23_ahi : (List.range 26).all (fun k => mw_ck [(4, Sum.inr 5, Sum.inl 15, true), (2, Sum.inr 5, Sum.inl 1, false), (2, Sum.inl 2, Sum.inr 0, true), (2, Sum.inl 1, Sum.inr 0, true), (5, Sum.inr 5, Sum.inl 15, false), (2, Sum.inl 0, Sum.inr 0, true)] (mw_r (mw_b 23 [(8, .inr 3, .inl 0, .inl (Int32.ofNat (97 + k)))]) [false, false, false, true])) = true := by decide +kernel
set_option maxRecDepth 1000000 in
theorem mw_t_o23_ain : (List.range 26).all (fun k => mw_ck [(4, Sum.inr 5, Sum.inl 15, false), (2, Sum.inr 5, Sum.inl 1, false), (2, Sum.inl 2, Sum.inr 0, true), (2, Sum.inl 1, Sum.inr 0, true), (5, Sum.inr 5, Sum.inl 15, true), (2, Sum.inl 0, Sum.inr 0, true)] (mw_r (mw_b 23 [(8, .inr 3, .inl 0, .inl (Int32.ofNat (97 + k)))]) [false, true, false, false])) = true := by decide +kernel
set_option maxRecDepth 1000000 in
theorem mw_t_o3_a : (List.range 10).all (fun k => mw_ck [(2, Sum.inl 1, Sum.inr 0, true), (2, Sum.inl 0, Sum.inr 0, true)] (mw_r (mw_b 3 [(9, .inr 3, .inl 0, .inl (Int32.ofNat k))]) [])) = true := by decide +kernel
set_option maxRecDepth 1000000 in
theorem mw_t_o12_a : (List.range 10).all (fun k => mw_ck [(2, Sum.inl 1, Sum.inr 0, true), (2, Sum.inl 0, Sum.inr 0, true)] (mw_r (mw_b 12 [(9, .inr 3, .inl 0, .inl (Int32.ofNat k))]) [])) = true := by decide +kernel
set_option maxRecDepth 1000000 in
theorem mw_t_o22_a : (List.range 10).all (fun k => mw_ck [(2, Sum.inl 1, Sum.inr 0, true), (2, Sum.inl 0, Sum.inr 0, true)] (mw_r (mw_b 22 [(9, .inr 3, .inl 0, .inl (Int32.ofNat k))]) [])) = true := by decide +kernel
set_option maxRecDepth 1000000 in
theorem mw_t_o24_a : (List.range 10).all (fun k => mw_ck [(2, Sum.inl 1, Sum.inr 0, true), (2, Sum.inl 0, Sum.inr 0, true)] (mw_r (mw_b 24 [(9, .inr 3, .inl 0, .inl (Int32.ofNat k))]) [])) = true := by decide +kernel
set_option maxRecDepth 1000000 in
theorem mw_t_o19_a : (List.range 1).all (fun k => mw_ck [(2, Sum.inl 1, Sum.inr 0, true), (2, Sum.inl 0, Sum.inr 0, true)] (mw_r (mw_b 19 [(9, .inr 3, .inl 0, .inl (Int32.ofNat k))]) [])) = true := by decide +kernel
set_option maxRecDepth 1000000 in
theorem mw_t_o4_a0 : (List.range 10).all (fun k => mw_ck [(2, Sum.inl 2, Sum.inr 0, true), (2, Sum.inl 1, Sum.inr 0, true), (2, Sum.inl 0, Sum.inr 0, true)] (mw_r (mw_b 4 [(9, .inr 3, .inl 0, .inl (Int32.ofNat k)), (9, .inr 5, .inl 0, .inl 0)]) [])) = true := by decide +kernel
set_option maxRecDepth 1000000 in
theorem mw_t_o4_a1 : (List.range 10).all (fun k => mw_ck [(2, Sum.inl 2, Sum.inr 0, true), (2, Sum.inl 1, Sum.inr 0, true), (2, Sum.inl 0, Sum.inr 0, true)] (mw_r (mw_b 4 [(9, .inr 3, .inl 0, .inl (Int32.ofNat k)), (9, .inr 5, .inl 0, .inl 1)]) [])) = true := by decide +kernel
