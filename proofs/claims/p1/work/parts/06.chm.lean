/-! METHODS: their words, their instructions, decided once (wip/tools/gen_chm.py) -/
def mj_ck_b (c : Nat) (r : mj_MT × Nat × Nat × Nat × Nat × Nat × Nat) : Bool := match r with
  | ((bytes, mL, rt, y, sc, na, kd, hh), kc, pc, ks, ps, kx, px) => decide ((mj_tb ks)[ps]? = some (match sc with | true => .static y | false => .instanceMethod y))
set_option maxRecDepth 100000 in
theorem mj_ok_b_0 : ((mj_M 0).zip (mj_Q 0)).all (mj_ck_b 0) = true := by decide +kernel
set_option maxRecDepth 100000 in
theorem mj_ok_b_1 : ((mj_M 1).zip (mj_Q 1)).all (mj_ck_b 1) = true := by decide +kernel
set_option maxRecDepth 100000 in
theorem mj_ok_b_2 : ((mj_M 2).zip (mj_Q 2)).all (mj_ck_b 2) = true := by decide +kernel
set_option maxRecDepth 100000 in
theorem mj_ok_b_3 : ((mj_M 3).zip (mj_Q 3)).all (mj_ck_b 3) = true := by decide +kernel
set_option maxRecDepth 100000 in
theorem mj_ok_b_4 : ((mj_M 4).zip (mj_Q 4)).all (mj_ck_b 4) = true := by decide +kernel
set_option maxRecDepth 100000 in
theorem mj_ok_b_5 : ((mj_M 5).zip (mj_Q 5)).all (mj_ck_b 5) = true := by decide +kernel
set_option maxRecDepth 100000 in
theorem mj_ok_b_6 : ((mj_M 6).zip (mj_Q 6)).all (mj_ck_b 6) = true := by decide +kernel
set_option maxRecDepth 100000 in
theorem mj_ok_b_7 : ((mj_M 7).zip (mj_Q 7)).all (mj_ck_b 7) = true := by decide +kernel
set_option maxRecDepth 100000 in
theorem mj_ok_b_8 : ((mj_M 8).zip (mj_Q 8)).all (mj_ck_b 8) = true := by decide +kernel
set_option maxRecDepth 100000 in
theorem mj_ok_b_9 : ((mj_M 9).zip (mj_Q 9)).all (mj_ck_b 9) = true := by decide +kernel
set_option maxRecDepth 100000 in
theorem mj_ok_b_10 : ((mj_M 10).zip (mj_Q 10)).all (mj_ck_b 10) = true := by decide +kernel
set_option maxRecDepth 100000 in
theorem mj_ok_b_11 : ((mj_M 11).zip (mj_Q 11)).all (mj_ck_b 11) = true := by decide +kernel
set_option maxRecDepth 100000 in
theorem mj_ok_b_12 : ((mj_M 12).zip (mj_Q 12)).all (mj_ck_b 12) = true := by decide +kernel
set_option maxRecDepth 100000 in
theorem mj_ok_b_13 : ((mj_M 13).zip (mj_Q 13)).all (mj_ck_b 13) = true := by decide +kernel
set_option maxRecDepth 100000 in
theorem mj_ok_b_14 : ((mj_M 14).zip (mj_Q 14)).all (mj_ck_b 14) = true := by decide +kernel
theorem mj_ok_b : ∀ c, c < 15 → ((mj_M c).zip (mj_Q c)).all (mj_ck_b c) = true
  | 0, _ => mj_ok_b_0
  | 1, _ => mj_ok_b_1
  | 2, _ => mj_ok_b_2
  | 3, _ => mj_ok_b_3
  | 4, _ => mj_ok_b_4
  | 5, _ => mj_ok_b_5
  | 6, _ => mj_ok_b_6
  | 7, _ => mj_ok_b_7
  | 8, _ => mj_ok_b_8
  | 9, _ => mj_ok_b_9
  | 10, _ => mj_ok_b_10
  | 11, _ => mj_ok_b_11
  | 12, _ => mj_ok_b_12
  | 13, _ => mj_ok_b_13
  | 14, _ => mj_ok_b_14
  | n + 15, h => absurd h (by omega)
def mj_ck_c (c : Nat) (r : mj_MT × Nat × Nat × Nat × Nat × Nat × Nat) : Bool := match r with
  | ((bytes, mL, rt, y, sc, na, kd, hh), kc, pc, ks, ps, kx, px) => (Nat.beq kx 99 || decide ((mj_tb kx)[px]? = some (.selects y.cls y y))) && (!(Nat.beq kx 99) || sc || decide (y.name = "<init>"))
set_option maxRecDepth 100000 in
theorem mj_ok_c_0 : ((mj_M 0).zip (mj_Q 0)).all (mj_ck_c 0) = true := by decide +kernel
set_option maxRecDepth 100000 in
theorem mj_ok_c_1 : ((mj_M 1).zip (mj_Q 1)).all (mj_ck_c 1) = true := by decide +kernel
set_option maxRecDepth 100000 in
theorem mj_ok_c_2 : ((mj_M 2).zip (mj_Q 2)).all (mj_ck_c 2) = true := by decide +kernel
set_option maxRecDepth 100000 in
theorem mj_ok_c_3 : ((mj_M 3).zip (mj_Q 3)).all (mj_ck_c 3) = true := by decide +kernel
set_option maxRecDepth 100000 in
theorem mj_ok_c_4 : ((mj_M 4).zip (mj_Q 4)).all (mj_ck_c 4) = true := by decide +kernel
set_option maxRecDepth 100000 in
theorem mj_ok_c_5 : ((mj_M 5).zip (mj_Q 5)).all (mj_ck_c 5) = true := by decide +kernel
set_option maxRecDepth 100000 in
theorem mj_ok_c_6 : ((mj_M 6).zip (mj_Q 6)).all (mj_ck_c 6) = true := by decide +kernel
set_option maxRecDepth 100000 in
theorem mj_ok_c_7 : ((mj_M 7).zip (mj_Q 7)).all (mj_ck_c 7) = true := by decide +kernel
set_option maxRecDepth 100000 in
theorem mj_ok_c_8 : ((mj_M 8).zip (mj_Q 8)).all (mj_ck_c 8) = true := by decide +kernel
set_option maxRecDepth 100000 in
theorem mj_ok_c_9 : ((mj_M 9).zip (mj_Q 9)).all (mj_ck_c 9) = true := by decide +kernel
set_option maxRecDepth 100000 in
theorem mj_ok_c_10 : ((mj_M 10).zip (mj_Q 10)).all (mj_ck_c 10) = true := by decide +kernel
set_option maxRecDepth 100000 in
theorem mj_ok_c_11 : ((mj_M 11).zip (mj_Q 11)).all (mj_ck_c 11) = true := by decide +kernel
set_option maxRecDepth 100000 in
theorem mj_ok_c_12 : ((mj_M 12).zip (mj_Q 12)).all (mj_ck_c 12) = true := by decide +kernel
set_option maxRecDepth 100000 in
theorem mj_ok_c_13 : ((mj_M 13).zip (mj_Q 13)).all (mj_ck_c 13) = true := by decide +kernel
set_option maxRecDepth 100000 in
theorem mj_ok_c_14 : ((mj_M 14).zip (mj_Q 14)).all (mj_ck_c 14) = true := by decide +kernel
theorem mj_ok_c : ∀ c, c < 15 → ((mj_M c).zip (mj_Q c)).all (mj_ck_c c) = true
  | 0, _ => mj_ok_c_0
  | 1, _ => mj_ok_c_1
  | 2, _ => mj_ok_c_2
  | 3, _ => mj_ok_c_3
  | 4, _ => mj_ok_c_4
  | 5, _ => mj_ok_c_5
  | 6, _ => mj_ok_c_6
  | 7, _ => mj_ok_c_7
  | 8, _ => mj_ok_c_8
  | 9, _ => mj_ok_c_9
  | 10, _ => mj_ok_c_10
  | 11, _ => mj_ok_c_11
  | 12, _ => mj_ok_c_12
  | 13, _ => mj_ok_c_13
  | 14, _ => mj_ok_c_14
  | n + 15, h => absurd h (by omega)
def mj_ck_d (c : Nat) (r : mj_MT × Nat × Nat × Nat × Nat × Nat × Nat) : Bool := match r with
  | ((bytes, mL, rt, y, sc, na, kd, hh), kc, pc, ks, ps, kx, px) => decide (y.cls = mj_R c) && decide ((parseMethodDescriptor y.desc).map (fun d => d.parameters.length) = some (bif sc then na else na - 1)) && (sc || Nat.blt 0 na)
set_option maxRecDepth 100000 in
theorem mj_ok_d_0 : ((mj_M 0).zip (mj_Q 0)).all (mj_ck_d 0) = true := by decide +kernel
set_option maxRecDepth 100000 in
theorem mj_ok_d_1 : ((mj_M 1).zip (mj_Q 1)).all (mj_ck_d 1) = true := by decide +kernel
set_option maxRecDepth 100000 in
theorem mj_ok_d_2 : ((mj_M 2).zip (mj_Q 2)).all (mj_ck_d 2) = true := by decide +kernel
set_option maxRecDepth 100000 in
theorem mj_ok_d_3 : ((mj_M 3).zip (mj_Q 3)).all (mj_ck_d 3) = true := by decide +kernel
set_option maxRecDepth 100000 in
theorem mj_ok_d_4 : ((mj_M 4).zip (mj_Q 4)).all (mj_ck_d 4) = true := by decide +kernel
set_option maxRecDepth 100000 in
theorem mj_ok_d_5 : ((mj_M 5).zip (mj_Q 5)).all (mj_ck_d 5) = true := by decide +kernel
set_option maxRecDepth 100000 in
theorem mj_ok_d_6 : ((mj_M 6).zip (mj_Q 6)).all (mj_ck_d 6) = true := by decide +kernel
set_option maxRecDepth 100000 in
theorem mj_ok_d_7 : ((mj_M 7).zip (mj_Q 7)).all (mj_ck_d 7) = true := by decide +kernel
set_option maxRecDepth 100000 in
theorem mj_ok_d_8 : ((mj_M 8).zip (mj_Q 8)).all (mj_ck_d 8) = true := by decide +kernel
set_option maxRecDepth 100000 in
theorem mj_ok_d_9 : ((mj_M 9).zip (mj_Q 9)).all (mj_ck_d 9) = true := by decide +kernel
set_option maxRecDepth 100000 in
theorem mj_ok_d_10 : ((mj_M 10).zip (mj_Q 10)).all (mj_ck_d 10) = true := by decide +kernel
set_option maxRecDepth 100000 in
theorem mj_ok_d_11 : ((mj_M 11).zip (mj_Q 11)).all (mj_ck_d 11) = true := by decide +kernel
set_option maxRecDepth 100000 in
theorem mj_ok_d_12 : ((mj_M 12).zip (mj_Q 12)).all (mj_ck_d 12) = true := by decide +kernel
set_option maxRecDepth 100000 in
theorem mj_ok_d_13 : ((mj_M 13).zip (mj_Q 13)).all (mj_ck_d 13) = true := by decide +kernel
set_option maxRecDepth 100000 in
theorem mj_ok_d_14 : ((mj_M 14).zip (mj_Q 14)).all (mj_ck_d 14) = true := by decide +kernel
theorem mj_ok_d : ∀ c, c < 15 → ((mj_M c).zip (mj_Q c)).all (mj_ck_d c) = true
  | 0, _ => mj_ok_d_0
  | 1, _ => mj_ok_d_1
  | 2, _ => mj_ok_d_2
  | 3, _ => mj_ok_d_3
  | 4, _ => mj_ok_d_4
  | 5, _ => mj_ok_d_5
  | 6, _ => mj_ok_d_6
  | 7, _ => mj_ok_d_7
  | 8, _ => mj_ok_d_8
  | 9, _ => mj_ok_d_9
  | 10, _ => mj_ok_d_10
  | 11, _ => mj_ok_d_11
  | 12, _ => mj_ok_d_12
  | 13, _ => mj_ok_d_13
  | 14, _ => mj_ok_d_14
  | n + 15, h => absurd h (by omega)
def mj_ck_e (c : Nat) (r : mj_MT × Nat × Nat × Nat × Nat × Nat × Nat) : Bool := match r with
  | ((bytes, mL, rt, y, sc, na, kd, hh), kc, pc, ks, ps, kx, px) => decide (y.cls ≠ "java/lang/invoke/MethodHandle") && decide (y.cls ≠ "java/lang/invoke/VarHandle") && plainName y.cls && Nat.ble mL 22 && Nat.blt kd 3 && (Nat.beq kd 2 || hh.isEmpty)
set_option maxRecDepth 100000 in
theorem mj_ok_e_0 : ((mj_M 0).zip (mj_Q 0)).all (mj_ck_e 0) = true := by decide +kernel
set_option maxRecDepth 100000 in
theorem mj_ok_e_1 : ((mj_M 1).zip (mj_Q 1)).all (mj_ck_e 1) = true := by decide +kernel
set_option maxRecDepth 100000 in
theorem mj_ok_e_2 : ((mj_M 2).zip (mj_Q 2)).all (mj_ck_e 2) = true := by decide +kernel
set_option maxRecDepth 100000 in
theorem mj_ok_e_3 : ((mj_M 3).zip (mj_Q 3)).all (mj_ck_e 3) = true := by decide +kernel
set_option maxRecDepth 100000 in
theorem mj_ok_e_4 : ((mj_M 4).zip (mj_Q 4)).all (mj_ck_e 4) = true := by decide +kernel
set_option maxRecDepth 100000 in
theorem mj_ok_e_5 : ((mj_M 5).zip (mj_Q 5)).all (mj_ck_e 5) = true := by decide +kernel
set_option maxRecDepth 100000 in
theorem mj_ok_e_6 : ((mj_M 6).zip (mj_Q 6)).all (mj_ck_e 6) = true := by decide +kernel
set_option maxRecDepth 100000 in
theorem mj_ok_e_7 : ((mj_M 7).zip (mj_Q 7)).all (mj_ck_e 7) = true := by decide +kernel
set_option maxRecDepth 100000 in
theorem mj_ok_e_8 : ((mj_M 8).zip (mj_Q 8)).all (mj_ck_e 8) = true := by decide +kernel
set_option maxRecDepth 100000 in
theorem mj_ok_e_9 : ((mj_M 9).zip (mj_Q 9)).all (mj_ck_e 9) = true := by decide +kernel
set_option maxRecDepth 100000 in
theorem mj_ok_e_10 : ((mj_M 10).zip (mj_Q 10)).all (mj_ck_e 10) = true := by decide +kernel
set_option maxRecDepth 100000 in
theorem mj_ok_e_11 : ((mj_M 11).zip (mj_Q 11)).all (mj_ck_e 11) = true := by decide +kernel
set_option maxRecDepth 100000 in
theorem mj_ok_e_12 : ((mj_M 12).zip (mj_Q 12)).all (mj_ck_e 12) = true := by decide +kernel
set_option maxRecDepth 100000 in
theorem mj_ok_e_13 : ((mj_M 13).zip (mj_Q 13)).all (mj_ck_e 13) = true := by decide +kernel
set_option maxRecDepth 100000 in
theorem mj_ok_e_14 : ((mj_M 14).zip (mj_Q 14)).all (mj_ck_e 14) = true := by decide +kernel
theorem mj_ok_e : ∀ c, c < 15 → ((mj_M c).zip (mj_Q c)).all (mj_ck_e c) = true
  | 0, _ => mj_ok_e_0
  | 1, _ => mj_ok_e_1
  | 2, _ => mj_ok_e_2
  | 3, _ => mj_ok_e_3
  | 4, _ => mj_ok_e_4
  | 5, _ => mj_ok_e_5
  | 6, _ => mj_ok_e_6
  | 7, _ => mj_ok_e_7
  | 8, _ => mj_ok_e_8
  | 9, _ => mj_ok_e_9
  | 10, _ => mj_ok_e_10
  | 11, _ => mj_ok_e_11
  | 12, _ => mj_ok_e_12
  | 13, _ => mj_ok_e_13
  | 14, _ => mj_ok_e_14
  | n + 15, h => absurd h (by omega)
def mj_cw (m : mj_MT) : Jvm.Cond := match m with
  | (bytes, mL, rt, y, _, _, kd, hh) => (match kd with | 2 => .codeWith y bytes mL rt hh | _ => .code y bytes mL rt)
set_option maxRecDepth 100000 in
theorem mj_ok_a_0 : (mj_Q 0).map (fun r => (mj_tb r.1)[r.2.1]?) = (mj_M 0).map (fun m => some (mj_cw m)) := rfl
set_option maxRecDepth 100000 in
theorem mj_ok_a_1 : (mj_Q 1).map (fun r => (mj_tb r.1)[r.2.1]?) = (mj_M 1).map (fun m => some (mj_cw m)) := rfl
set_option maxRecDepth 100000 in
theorem mj_ok_a_2 : (mj_Q 2).map (fun r => (mj_tb r.1)[r.2.1]?) = (mj_M 2).map (fun m => some (mj_cw m)) := rfl
set_option maxRecDepth 100000 in
theorem mj_ok_a_3 : (mj_Q 3).map (fun r => (mj_tb r.1)[r.2.1]?) = (mj_M 3).map (fun m => some (mj_cw m)) := rfl
set_option maxRecDepth 100000 in
theorem mj_ok_a_4 : (mj_Q 4).map (fun r => (mj_tb r.1)[r.2.1]?) = (mj_M 4).map (fun m => some (mj_cw m)) := rfl
set_option maxRecDepth 100000 in
theorem mj_ok_a_5 : (mj_Q 5).map (fun r => (mj_tb r.1)[r.2.1]?) = (mj_M 5).map (fun m => some (mj_cw m)) := rfl
set_option maxRecDepth 100000 in
theorem mj_ok_a_6 : (mj_Q 6).map (fun r => (mj_tb r.1)[r.2.1]?) = (mj_M 6).map (fun m => some (mj_cw m)) := rfl
set_option maxRecDepth 100000 in
theorem mj_ok_a_7 : (mj_Q 7).map (fun r => (mj_tb r.1)[r.2.1]?) = (mj_M 7).map (fun m => some (mj_cw m)) := rfl
set_option maxRecDepth 100000 in
theorem mj_ok_a_8 : (mj_Q 8).map (fun r => (mj_tb r.1)[r.2.1]?) = (mj_M 8).map (fun m => some (mj_cw m)) := rfl
set_option maxRecDepth 100000 in
theorem mj_ok_a_9 : (mj_Q 9).map (fun r => (mj_tb r.1)[r.2.1]?) = (mj_M 9).map (fun m => some (mj_cw m)) := rfl
set_option maxRecDepth 100000 in
theorem mj_ok_a_10 : (mj_Q 10).map (fun r => (mj_tb r.1)[r.2.1]?) = (mj_M 10).map (fun m => some (mj_cw m)) := rfl
set_option maxRecDepth 100000 in
theorem mj_ok_a_11 : (mj_Q 11).map (fun r => (mj_tb r.1)[r.2.1]?) = (mj_M 11).map (fun m => some (mj_cw m)) := rfl
set_option maxRecDepth 100000 in
theorem mj_ok_a_12 : (mj_Q 12).map (fun r => (mj_tb r.1)[r.2.1]?) = (mj_M 12).map (fun m => some (mj_cw m)) := rfl
set_option maxRecDepth 100000 in
theorem mj_ok_a_13 : (mj_Q 13).map (fun r => (mj_tb r.1)[r.2.1]?) = (mj_M 13).map (fun m => some (mj_cw m)) := rfl
set_option maxRecDepth 100000 in
theorem mj_ok_a_14 : (mj_Q 14).map (fun r => (mj_tb r.1)[r.2.1]?) = ((mj_M 14).take 18).map (fun m => some (mj_cw m)) := rfl
theorem mj_ok_a : ∀ c, c < 15 → (mj_Q c).map (fun r => (mj_tb r.1)[r.2.1]?) = (bif Nat.beq c 14 then (mj_M c).take 18 else mj_M c).map (fun m => some (mj_cw m))
  | 0, _ => mj_ok_a_0
  | 1, _ => mj_ok_a_1
  | 2, _ => mj_ok_a_2
  | 3, _ => mj_ok_a_3
  | 4, _ => mj_ok_a_4
  | 5, _ => mj_ok_a_5
  | 6, _ => mj_ok_a_6
  | 7, _ => mj_ok_a_7
  | 8, _ => mj_ok_a_8
  | 9, _ => mj_ok_a_9
  | 10, _ => mj_ok_a_10
  | 11, _ => mj_ok_a_11
  | 12, _ => mj_ok_a_12
  | 13, _ => mj_ok_a_13
  | 14, _ => mj_ok_a_14
  | n + 15, h => absurd h (by omega)
theorem mj_q_len : ∀ c, c < 15 → (mj_Q c).length = (bif Nat.beq c 14 then 18 else (mj_M c).length) := by decide +kernel
theorem mj_m_14 : (mj_M 14).length = 19 := by decide +kernel
theorem mj_m_lt {c j : Nat} (h : j < (mj_M c).length) : c < 15 := by
  refine Nat.lt_of_not_le fun hc => ?_
  have h0 : mj_M c = [] := by
    obtain ⟨k, rfl⟩ := Nat.exists_eq_add_of_le hc
    rw [Nat.add_comm]
    rfl
  rw [h0] at h
  cases h
