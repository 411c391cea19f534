/-! METHODS: their words, their instructions, decided once (wip/tools/gen_chm.py) -/
def rj_ck_b (c : Nat) (r : mj_MT × Nat × Nat × Nat × Nat × Nat × Nat) : Bool := match r with
  | ((bytes, mL, rt, y, sc, na, kd, hh), kc, pc, ks, ps, kx, px) => decide ((rj_tb ks)[ps]? = some (match sc with | true => .static y | false => .instanceMethod y))
set_option maxRecDepth 100000 in
theorem rj_ok_b_0 : ((rj_M 0).zip (rj_Q 0)).all (rj_ck_b 0) = true := by decide +kernel
set_option maxRecDepth 100000 in
theorem rj_ok_b_1 : ((rj_M 1).zip (rj_Q 1)).all (rj_ck_b 1) = true := by decide +kernel
set_option maxRecDepth 100000 in
theorem rj_ok_b_2 : ((rj_M 2).zip (rj_Q 2)).all (rj_ck_b 2) = true := by decide +kernel
set_option maxRecDepth 100000 in
theorem rj_ok_b_3 : ((rj_M 3).zip (rj_Q 3)).all (rj_ck_b 3) = true := by decide +kernel
set_option maxRecDepth 100000 in
theorem rj_ok_b_4 : ((rj_M 4).zip (rj_Q 4)).all (rj_ck_b 4) = true := by decide +kernel
set_option maxRecDepth 100000 in
theorem rj_ok_b_5 : ((rj_M 5).zip (rj_Q 5)).all (rj_ck_b 5) = true := by decide +kernel
set_option maxRecDepth 100000 in
theorem rj_ok_b_6 : ((rj_M 6).zip (rj_Q 6)).all (rj_ck_b 6) = true := by decide +kernel
set_option maxRecDepth 100000 in
theorem rj_ok_b_7 : ((rj_M 7).zip (rj_Q 7)).all (rj_ck_b 7) = true := by decide +kernel
set_option maxRecDepth 100000 in
theorem rj_ok_b_8 : ((rj_M 8).zip (rj_Q 8)).all (rj_ck_b 8) = true := by decide +kernel
set_option maxRecDepth 100000 in
theorem rj_ok_b_9 : ((rj_M 9).zip (rj_Q 9)).all (rj_ck_b 9) = true := by decide +kernel
set_option maxRecDepth 100000 in
theorem rj_ok_b_10 : ((rj_M 10).zip (rj_Q 10)).all (rj_ck_b 10) = true := by decide +kernel
set_option maxRecDepth 100000 in
theorem rj_ok_b_11 : ((rj_M 11).zip (rj_Q 11)).all (rj_ck_b 11) = true := by decide +kernel
set_option maxRecDepth 100000 in
theorem rj_ok_b_12 : ((rj_M 12).zip (rj_Q 12)).all (rj_ck_b 12) = true := by decide +kernel
set_option maxRecDepth 100000 in
theorem rj_ok_b_13 : ((rj_M 13).zip (rj_Q 13)).all (rj_ck_b 13) = true := by decide +kernel
set_option maxRecDepth 100000 in
theorem rj_ok_b_14 : ((rj_M 14).zip (rj_Q 14)).all (rj_ck_b 14) = true := by decide +kernel
theorem rj_ok_b : ∀ c, c < 15 → ((rj_M c).zip (rj_Q c)).all (rj_ck_b c) = true
  | 0, _ => rj_ok_b_0
  | 1, _ => rj_ok_b_1
  | 2, _ => rj_ok_b_2
  | 3, _ => rj_ok_b_3
  | 4, _ => rj_ok_b_4
  | 5, _ => rj_ok_b_5
  | 6, _ => rj_ok_b_6
  | 7, _ => rj_ok_b_7
  | 8, _ => rj_ok_b_8
  | 9, _ => rj_ok_b_9
  | 10, _ => rj_ok_b_10
  | 11, _ => rj_ok_b_11
  | 12, _ => rj_ok_b_12
  | 13, _ => rj_ok_b_13
  | 14, _ => rj_ok_b_14
  | n + 15, h => absurd h (by omega)
def rj_ck_c (c : Nat) (r : mj_MT × Nat × Nat × Nat × Nat × Nat × Nat) : Bool := match r with
  | ((bytes, mL, rt, y, sc, na, kd, hh), kc, pc, ks, ps, kx, px) => (Nat.beq kx 99 || decide ((rj_tb kx)[px]? = some (.selects y.cls y y))) && (!(Nat.beq kx 99) || sc || decide (y.name = "<init>"))
set_option maxRecDepth 100000 in
theorem rj_ok_c_0 : ((rj_M 0).zip (rj_Q 0)).all (rj_ck_c 0) = true := by decide +kernel
set_option maxRecDepth 100000 in
theorem rj_ok_c_1 : ((rj_M 1).zip (rj_Q 1)).all (rj_ck_c 1) = true := by decide +kernel
set_option maxRecDepth 100000 in
theorem rj_ok_c_2 : ((rj_M 2).zip (rj_Q 2)).all (rj_ck_c 2) = true := by decide +kernel
set_option maxRecDepth 100000 in
theorem rj_ok_c_3 : ((rj_M 3).zip (rj_Q 3)).all (rj_ck_c 3) = true := by decide +kernel
set_option maxRecDepth 100000 in
theorem rj_ok_c_4 : ((rj_M 4).zip (rj_Q 4)).all (rj_ck_c 4) = true := by decide +kernel
set_option maxRecDepth 100000 in
theorem rj_ok_c_5 : ((rj_M 5).zip (rj_Q 5)).all (rj_ck_c 5) = true := by decide +kernel
set_option maxRecDepth 100000 in
theorem rj_ok_c_6 : ((rj_M 6).zip (rj_Q 6)).all (rj_ck_c 6) = true := by decide +kernel
set_option maxRecDepth 100000 in
theorem rj_ok_c_7 : ((rj_M 7).zip (rj_Q 7)).all (rj_ck_c 7) = true := by decide +kernel
set_option maxRecDepth 100000 in
theorem rj_ok_c_8 : ((rj_M 8).zip (rj_Q 8)).all (rj_ck_c 8) = true := by decide +kernel
set_option maxRecDepth 100000 in
theorem rj_ok_c_9 : ((rj_M 9).zip (rj_Q 9)).all (rj_ck_c 9) = true := by decide +kernel
set_option maxRecDepth 100000 in
theorem rj_ok_c_10 : ((rj_M 10).zip (rj_Q 10)).all (rj_ck_c 10) = true := by decide +kernel
set_option maxRecDepth 100000 in
theorem rj_ok_c_11 : ((rj_M 11).zip (rj_Q 11)).all (rj_ck_c 11) = true := by decide +kernel
set_option maxRecDepth 100000 in
theorem rj_ok_c_12 : ((rj_M 12).zip (rj_Q 12)).all (rj_ck_c 12) = true := by decide +kernel
set_option maxRecDepth 100000 in
theorem rj_ok_c_13 : ((rj_M 13).zip (rj_Q 13)).all (rj_ck_c 13) = true := by decide +kernel
set_option maxRecDepth 100000 in
theorem rj_ok_c_14 : ((rj_M 14).zip (rj_Q 14)).all (rj_ck_c 14) = true := by decide +kernel
theorem rj_ok_c : ∀ c, c < 15 → ((rj_M c).zip (rj_Q c)).all (rj_ck_c c) = true
  | 0, _ => rj_ok_c_0
  | 1, _ => rj_ok_c_1
  | 2, _ => rj_ok_c_2
  | 3, _ => rj_ok_c_3
  | 4, _ => rj_ok_c_4
  | 5, _ => rj_ok_c_5
  | 6, _ => rj_ok_c_6
  | 7, _ => rj_ok_c_7
  | 8, _ => rj_ok_c_8
  | 9, _ => rj_ok_c_9
  | 10, _ => rj_ok_c_10
  | 11, _ => rj_ok_c_11
  | 12, _ => rj_ok_c_12
  | 13, _ => rj_ok_c_13
  | 14, _ => rj_ok_c_14
  | n + 15, h => absurd h (by omega)
def rj_ck_d (c : Nat) (r : mj_MT × Nat × Nat × Nat × Nat × Nat × Nat) : Bool := match r with
  | ((bytes, mL, rt, y, sc, na, kd, hh), kc, pc, ks, ps, kx, px) => decide (y.cls = rj_R c) && decide ((parseMethodDescriptor y.desc).map (fun d => d.parameters.length) = some (bif sc then na else na - 1)) && (sc || Nat.blt 0 na)
set_option maxRecDepth 100000 in
theorem rj_ok_d_0 : ((rj_M 0).zip (rj_Q 0)).all (rj_ck_d 0) = true := by decide +kernel
set_option maxRecDepth 100000 in
theorem rj_ok_d_1 : ((rj_M 1).zip (rj_Q 1)).all (rj_ck_d 1) = true := by decide +kernel
set_option maxRecDepth 100000 in
theorem rj_ok_d_2 : ((rj_M 2).zip (rj_Q 2)).all (rj_ck_d 2) = true := by decide +kernel
set_option maxRecDepth 100000 in
theorem rj_ok_d_3 : ((rj_M 3).zip (rj_Q 3)).all (rj_ck_d 3) = true := by decide +kernel
set_option maxRecDepth 100000 in
theorem rj_ok_d_4 : ((rj_M 4).zip (rj_Q 4)).all (rj_ck_d 4) = true := by decide +kernel
set_option maxRecDepth 100000 in
theorem rj_ok_d_5 : ((rj_M 5).zip (rj_Q 5)).all (rj_ck_d 5) = true := by decide +kernel
set_option maxRecDepth 100000 in
theorem rj_ok_d_6 : ((rj_M 6).zip (rj_Q 6)).all (rj_ck_d 6) = true := by decide +kernel
set_option maxRecDepth 100000 in
theorem rj_ok_d_7 : ((rj_M 7).zip (rj_Q 7)).all (rj_ck_d 7) = true := by decide +kernel
set_option maxRecDepth 100000 in
theorem rj_ok_d_8 : ((rj_M 8).zip (rj_Q 8)).all (rj_ck_d 8) = true := by decide +kernel
set_option maxRecDepth 100000 in
theorem rj_ok_d_9 : ((rj_M 9).zip (rj_Q 9)).all (rj_ck_d 9) = true := by decide +kernel
set_option maxRecDepth 100000 in
theorem rj_ok_d_10 : ((rj_M 10).zip (rj_Q 10)).all (rj_ck_d 10) = true := by decide +kernel
set_option maxRecDepth 100000 in
theorem rj_ok_d_11 : ((rj_M 11).zip (rj_Q 11)).all (rj_ck_d 11) = true := by decide +kernel
set_option maxRecDepth 100000 in
theorem rj_ok_d_12 : ((rj_M 12).zip (rj_Q 12)).all (rj_ck_d 12) = true := by decide +kernel
set_option maxRecDepth 100000 in
theorem rj_ok_d_13 : ((rj_M 13).zip (rj_Q 13)).all (rj_ck_d 13) = true := by decide +kernel
set_option maxRecDepth 100000 in
theorem rj_ok_d_14 : ((rj_M 14).zip (rj_Q 14)).all (rj_ck_d 14) = true := by decide +kernel
theorem rj_ok_d : ∀ c, c < 15 → ((rj_M c).zip (rj_Q c)).all (rj_ck_d c) = true
  | 0, _ => rj_ok_d_0
  | 1, _ => rj_ok_d_1
  | 2, _ => rj_ok_d_2
  | 3, _ => rj_ok_d_3
  | 4, _ => rj_ok_d_4
  | 5, _ => rj_ok_d_5
  | 6, _ => rj_ok_d_6
  | 7, _ => rj_ok_d_7
  | 8, _ => rj_ok_d_8
  | 9, _ => rj_ok_d_9
  | 10, _ => rj_ok_d_10
  | 11, _ => rj_ok_d_11
  | 12, _ => rj_ok_d_12
  | 13, _ => rj_ok_d_13
  | 14, _ => rj_ok_d_14
  | n + 15, h => absurd h (by omega)
def rj_ck_e (c : Nat) (r : mj_MT × Nat × Nat × Nat × Nat × Nat × Nat) : Bool := match r with
  | ((bytes, mL, rt, y, sc, na, kd, hh), kc, pc, ks, ps, kx, px) => decide (y.cls ≠ "java/lang/invoke/MethodHandle") && decide (y.cls ≠ "java/lang/invoke/VarHandle") && plainName y.cls && Nat.ble mL 22 && Nat.blt kd 3 && (Nat.beq kd 2 || hh.isEmpty)
set_option maxRecDepth 100000 in
theorem rj_ok_e_0 : ((rj_M 0).zip (rj_Q 0)).all (rj_ck_e 0) = true := by decide +kernel
set_option maxRecDepth 100000 in
theorem rj_ok_e_1 : ((rj_M 1).zip (rj_Q 1)).all (rj_ck_e 1) = true := by decide +kernel
set_option maxRecDepth 100000 in
theorem rj_ok_e_2 : ((rj_M 2).zip (rj_Q 2)).all (rj_ck_e 2) = true := by decide +kernel
set_option maxRecDepth 100000 in
theorem rj_ok_e_3 : ((rj_M 3).zip (rj_Q 3)).all (rj_ck_e 3) = true := by decide +kernel
set_option maxRecDepth 100000 in
theorem rj_ok_e_4 : ((rj_M 4).zip (rj_Q 4)).all (rj_ck_e 4) = true := by decide +kernel
set_option maxRecDepth 100000 in
theorem rj_ok_e_5 : ((rj_M 5).zip (rj_Q 5)).all (rj_ck_e 5) = true := by decide +kernel
set_option maxRecDepth 100000 in
theorem rj_ok_e_6 : ((rj_M 6).zip (rj_Q 6)).all (rj_ck_e 6) = true := by decide +kernel
set_option maxRecDepth 100000 in
theorem rj_ok_e_7 : ((rj_M 7).zip (rj_Q 7)).all (rj_ck_e 7) = true := by decide +kernel
set_option maxRecDepth 100000 in
theorem rj_ok_e_8 : ((rj_M 8).zip (rj_Q 8)).all (rj_ck_e 8) = true := by decide +kernel
set_option maxRecDepth 100000 in
theorem rj_ok_e_9 : ((rj_M 9).zip (rj_Q 9)).all (rj_ck_e 9) = true := by decide +kernel
set_option maxRecDepth 100000 in
theorem rj_ok_e_10 : ((rj_M 10).zip (rj_Q 10)).all (rj_ck_e 10) = true := by decide +kernel
set_option maxRecDepth 100000 in
theorem rj_ok_e_11 : ((rj_M 11).zip (rj_Q 11)).all (rj_ck_e 11) = true := by decide +kernel
set_option maxRecDepth 100000 in
theorem rj_ok_e_12 : ((rj_M 12).zip (rj_Q 12)).all (rj_ck_e 12) = true := by decide +kernel
set_option maxRecDepth 100000 in
theorem rj_ok_e_13 : ((rj_M 13).zip (rj_Q 13)).all (rj_ck_e 13) = true := by decide +kernel
set_option maxRecDepth 100000 in
theorem rj_ok_e_14 : ((rj_M 14).zip (rj_Q 14)).all (rj_ck_e 14) = true := by decide +kernel
theorem rj_ok_e : ∀ c, c < 15 → ((rj_M c).zip (rj_Q c)).all (rj_ck_e c) = true
  | 0, _ => rj_ok_e_0
  | 1, _ => rj_ok_e_1
  | 2, _ => rj_ok_e_2
  | 3, _ => rj_ok_e_3
  | 4, _ => rj_ok_e_4
  | 5, _ => rj_ok_e_5
  | 6, _ => rj_ok_e_6
  | 7, _ => rj_ok_e_7
  | 8, _ => rj_ok_e_8
  | 9, _ => rj_ok_e_9
  | 10, _ => rj_ok_e_10
  | 11, _ => rj_ok_e_11
  | 12, _ => rj_ok_e_12
  | 13, _ => rj_ok_e_13
  | 14, _ => rj_ok_e_14
  | n + 15, h => absurd h (by omega)
def rj_cw (m : mj_MT) : Jvm.Cond := match m with
  | (bytes, mL, rt, y, _, _, kd, hh) => (match kd with | 2 => .codeWith y bytes mL rt hh | _ => .code y bytes mL rt)
set_option maxRecDepth 100000 in
theorem rj_ok_a_0 : (rj_Q 0).map (fun r => (rj_tb r.1)[r.2.1]?) = (rj_M 0).map (fun m => some (rj_cw m)) := rfl
set_option maxRecDepth 100000 in
theorem rj_ok_a_1 : (rj_Q 1).map (fun r => (rj_tb r.1)[r.2.1]?) = (rj_M 1).map (fun m => some (rj_cw m)) := rfl
set_option maxRecDepth 100000 in
theorem rj_ok_a_2 : (rj_Q 2).map (fun r => (rj_tb r.1)[r.2.1]?) = (rj_M 2).map (fun m => some (rj_cw m)) := rfl
set_option maxRecDepth 100000 in
theorem rj_ok_a_3 : (rj_Q 3).map (fun r => (rj_tb r.1)[r.2.1]?) = (rj_M 3).map (fun m => some (rj_cw m)) := rfl
set_option maxRecDepth 100000 in
theorem rj_ok_a_4 : (rj_Q 4).map (fun r => (rj_tb r.1)[r.2.1]?) = (rj_M 4).map (fun m => some (rj_cw m)) := rfl
set_option maxRecDepth 100000 in
theorem rj_ok_a_5 : (rj_Q 5).map (fun r => (rj_tb r.1)[r.2.1]?) = (rj_M 5).map (fun m => some (rj_cw m)) := rfl
set_option maxRecDepth 100000 in
theorem rj_ok_a_6 : (rj_Q 6).map (fun r => (rj_tb r.1)[r.2.1]?) = (rj_M 6).map (fun m => some (rj_cw m)) := rfl
set_option maxRecDepth 100000 in
theorem rj_ok_a_7 : (rj_Q 7).map (fun r => (rj_tb r.1)[r.2.1]?) = (rj_M 7).map (fun m => some (rj_cw m)) := rfl
set_option maxRecDepth 100000 in
theorem rj_ok_a_8 : (rj_Q 8).map (fun r => (rj_tb r.1)[r.2.1]?) = (rj_M 8).map (fun m => some (rj_cw m)) := rfl
set_option maxRecDepth 100000 in
theorem rj_ok_a_9 : (rj_Q 9).map (fun r => (rj_tb r.1)[r.2.1]?) = (rj_M 9).map (fun m => some (rj_cw m)) := rfl
set_option maxRecDepth 100000 in
theorem rj_ok_a_10 : (rj_Q 10).map (fun r => (rj_tb r.1)[r.2.1]?) = (rj_M 10).map (fun m => some (rj_cw m)) := rfl
set_option maxRecDepth 100000 in
theorem rj_ok_a_11 : (rj_Q 11).map (fun r => (rj_tb r.1)[r.2.1]?) = (rj_M 11).map (fun m => some (rj_cw m)) := rfl
set_option maxRecDepth 100000 in
theorem rj_ok_a_12 : (rj_Q 12).map (fun r => (rj_tb r.1)[r.2.1]?) = (rj_M 12).map (fun m => some (rj_cw m)) := rfl
set_option maxRecDepth 100000 in
theorem rj_ok_a_13 : (rj_Q 13).map (fun r => (rj_tb r.1)[r.2.1]?) = (rj_M 13).map (fun m => some (rj_cw m)) := rfl
set_option maxRecDepth 100000 in
theorem rj_ok_a_14 : (rj_Q 14).map (fun r => (rj_tb r.1)[r.2.1]?) = ((rj_M 14).take 15).map (fun m => some (rj_cw m)) := rfl
theorem rj_ok_a : ∀ c, c < 15 → (rj_Q c).map (fun r => (rj_tb r.1)[r.2.1]?) = (bif Nat.beq c 14 then (rj_M c).take 15 else rj_M c).map (fun m => some (rj_cw m))
  | 0, _ => rj_ok_a_0
  | 1, _ => rj_ok_a_1
  | 2, _ => rj_ok_a_2
  | 3, _ => rj_ok_a_3
  | 4, _ => rj_ok_a_4
  | 5, _ => rj_ok_a_5
  | 6, _ => rj_ok_a_6
  | 7, _ => rj_ok_a_7
  | 8, _ => rj_ok_a_8
  | 9, _ => rj_ok_a_9
  | 10, _ => rj_ok_a_10
  | 11, _ => rj_ok_a_11
  | 12, _ => rj_ok_a_12
  | 13, _ => rj_ok_a_13
  | 14, _ => rj_ok_a_14
  | n + 15, h => absurd h (by omega)
theorem rj_q_len : ∀ c, c < 15 → (rj_Q c).length = (bif Nat.beq c 14 then 15 else (rj_M c).length) := by decide +kernel
theorem rj_m_14 : (rj_M 14).length = 16 := by decide +kernel
theorem rj_m_lt {c j : Nat} (h : j < (rj_M c).length) : c < 15 := by
  refine Nat.lt_of_not_le fun hc => ?_
  have h0 : rj_M c = [] := by
    obtain ⟨k, rfl⟩ := Nat.exists_eq_add_of_le hc
    rw [Nat.add_comm]
    rfl
  rw [h0] at h
  cases h
