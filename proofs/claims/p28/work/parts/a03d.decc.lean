/-! INSTRUCTIONS: each method's list is what its bytes decode to (wip/tools/gen_dec.py) -/
set_option maxRecDepth 100000 in
theorem rj_d_14000 : rj_c_14000.all (fun r => decide (decode method_2_code r.1 = .ok (r.2.1, r.2.2))) = true := by decide +kernel
set_option maxRecDepth 100000 in
theorem rj_d_14001 : rj_c_14001.all (fun r => decide (decode method_3_code r.1 = .ok (r.2.1, r.2.2))) = true := by decide +kernel
set_option maxRecDepth 100000 in
theorem rj_d_14002 : rj_c_14002.all (fun r => decide (decode method_4_code r.1 = .ok (r.2.1, r.2.2))) = true := by decide +kernel
set_option maxRecDepth 100000 in
theorem rj_d_14003 : rj_c_14003.all (fun r => decide (decode method_5_code r.1 = .ok (r.2.1, r.2.2))) = true := by decide +kernel
set_option maxRecDepth 100000 in
theorem rj_d_14004 : rj_c_14004.all (fun r => decide (decode method_6_code r.1 = .ok (r.2.1, r.2.2))) = true := by decide +kernel
set_option maxRecDepth 100000 in
theorem rj_d_14005 : rj_c_14005.all (fun r => decide (decode method_7_code r.1 = .ok (r.2.1, r.2.2))) = true := by decide +kernel
set_option maxRecDepth 100000 in
theorem rj_d_14006 : rj_c_14006.all (fun r => decide (decode method_8_code r.1 = .ok (r.2.1, r.2.2))) = true := by decide +kernel
set_option maxRecDepth 100000 in
theorem rj_d_14007 : rj_c_14007.all (fun r => decide (decode method_9_code r.1 = .ok (r.2.1, r.2.2))) = true := by decide +kernel
set_option maxRecDepth 100000 in
theorem rj_d_14008 : rj_c_14008.all (fun r => decide (decode method_10_code r.1 = .ok (r.2.1, r.2.2))) = true := by decide +kernel
set_option maxRecDepth 100000 in
theorem rj_d_14009 : rj_c_14009.all (fun r => decide (decode method_11_code r.1 = .ok (r.2.1, r.2.2))) = true := by decide +kernel
set_option maxRecDepth 100000 in
theorem rj_d_14010 : rj_c_14010.all (fun r => decide (decode method_12_code r.1 = .ok (r.2.1, r.2.2))) = true := by decide +kernel
set_option maxRecDepth 100000 in
theorem rj_d_14011 : rj_c_14011.all (fun r => decide (decode method_13_code r.1 = .ok (r.2.1, r.2.2))) = true := by decide +kernel
set_option maxRecDepth 100000 in
theorem rj_d_14012 : rj_c_14012.all (fun r => decide (decode method_14_code r.1 = .ok (r.2.1, r.2.2))) = true := by decide +kernel
set_option maxRecDepth 100000 in
theorem rj_d_14013 : rj_c_14013.all (fun r => decide (decode method_15_code r.1 = .ok (r.2.1, r.2.2))) = true := by decide +kernel
set_option maxRecDepth 100000 in
theorem rj_d_14014 : rj_c_14014.all (fun r => decide (decode method_16_code r.1 = .ok (r.2.1, r.2.2))) = true := by decide +kernel
set_option maxRecDepth 100000 in
theorem rj_d_14015_0 : ((rj_c_14015.drop 0).take 40).all (fun r => decide (decode code r.1 = .ok (r.2.1, r.2.2))) = true := by decide +kernel
set_option maxRecDepth 100000 in
theorem rj_d_14015_1 : ((rj_c_14015.drop 40).take 40).all (fun r => decide (decode code r.1 = .ok (r.2.1, r.2.2))) = true := by decide +kernel
set_option maxRecDepth 100000 in
theorem rj_d_14015_2 : ((rj_c_14015.drop 80).take 40).all (fun r => decide (decode code r.1 = .ok (r.2.1, r.2.2))) = true := by decide +kernel
set_option maxRecDepth 100000 in
theorem rj_d_14015_3 : ((rj_c_14015.drop 120).take 40).all (fun r => decide (decode code r.1 = .ok (r.2.1, r.2.2))) = true := by decide +kernel
theorem rj_all_td {α : Type} (p : α → Bool) (l : List α) (n : Nat) (h1 : (l.take n).all p = true) (h2 : (l.drop n).all p = true) : l.all p = true := by
  rw [← List.take_append_drop n l, List.all_append, h1, h2]; rfl
set_option maxRecDepth 100000 in
theorem rj_d_14015_e : (rj_c_14015.drop 160).all (fun r => decide (decode code r.1 = .ok (r.2.1, r.2.2))) = true := by decide +kernel
theorem rj_d_14015_r3 : (rj_c_14015.drop 120).all (fun r => decide (decode code r.1 = .ok (r.2.1, r.2.2))) = true := rj_all_td _ _ 40 rj_d_14015_3 (by rw [List.drop_drop]; exact rj_d_14015_e)
theorem rj_d_14015_r2 : (rj_c_14015.drop 80).all (fun r => decide (decode code r.1 = .ok (r.2.1, r.2.2))) = true := rj_all_td _ _ 40 rj_d_14015_2 (by rw [List.drop_drop]; exact rj_d_14015_r3)
theorem rj_d_14015_r1 : (rj_c_14015.drop 40).all (fun r => decide (decode code r.1 = .ok (r.2.1, r.2.2))) = true := rj_all_td _ _ 40 rj_d_14015_1 (by rw [List.drop_drop]; exact rj_d_14015_r2)
theorem rj_d_14015_r0 : (rj_c_14015.drop 0).all (fun r => decide (decode code r.1 = .ok (r.2.1, r.2.2))) = true := rj_all_td _ _ 40 rj_d_14015_0 (by rw [List.drop_drop]; exact rj_d_14015_r1)
theorem rj_d_14015 : rj_c_14015.all (fun r => decide (decode code r.1 = .ok (r.2.1, r.2.2))) = true := rj_d_14015_r0
