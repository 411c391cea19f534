/-! INSTRUCTIONS: each method's list is what its bytes decode to (wip/tools/gen_dec.py) -/
set_option maxRecDepth 100000 in
theorem mj_d_14000 : mj_c_14000.all (fun r => decide (decode method_3_code r.1 = .ok (r.2.1, r.2.2))) = true := by decide +kernel
set_option maxRecDepth 100000 in
theorem mj_d_14001 : mj_c_14001.all (fun r => decide (decode method_4_code r.1 = .ok (r.2.1, r.2.2))) = true := by decide +kernel
set_option maxRecDepth 100000 in
theorem mj_d_14002 : mj_c_14002.all (fun r => decide (decode method_5_code r.1 = .ok (r.2.1, r.2.2))) = true := by decide +kernel
set_option maxRecDepth 100000 in
theorem mj_d_14003 : mj_c_14003.all (fun r => decide (decode method_6_code r.1 = .ok (r.2.1, r.2.2))) = true := by decide +kernel
set_option maxRecDepth 100000 in
theorem mj_d_14004 : mj_c_14004.all (fun r => decide (decode method_7_code r.1 = .ok (r.2.1, r.2.2))) = true := by decide +kernel
set_option maxRecDepth 100000 in
theorem mj_d_14005 : mj_c_14005.all (fun r => decide (decode method_8_code r.1 = .ok (r.2.1, r.2.2))) = true := by decide +kernel
set_option maxRecDepth 100000 in
theorem mj_d_14006 : mj_c_14006.all (fun r => decide (decode method_9_code r.1 = .ok (r.2.1, r.2.2))) = true := by decide +kernel
set_option maxRecDepth 100000 in
theorem mj_d_14007 : mj_c_14007.all (fun r => decide (decode method_10_code r.1 = .ok (r.2.1, r.2.2))) = true := by decide +kernel
set_option maxRecDepth 100000 in
theorem mj_d_14008 : mj_c_14008.all (fun r => decide (decode method_11_code r.1 = .ok (r.2.1, r.2.2))) = true := by decide +kernel
set_option maxRecDepth 100000 in
theorem mj_d_14009 : mj_c_14009.all (fun r => decide (decode method_12_code r.1 = .ok (r.2.1, r.2.2))) = true := by decide +kernel
set_option maxRecDepth 100000 in
theorem mj_d_14010 : mj_c_14010.all (fun r => decide (decode method_13_code r.1 = .ok (r.2.1, r.2.2))) = true := by decide +kernel
set_option maxRecDepth 100000 in
theorem mj_d_14011 : mj_c_14011.all (fun r => decide (decode method_14_code r.1 = .ok (r.2.1, r.2.2))) = true := by decide +kernel
set_option maxRecDepth 100000 in
theorem mj_d_14012 : mj_c_14012.all (fun r => decide (decode method_15_code r.1 = .ok (r.2.1, r.2.2))) = true := by decide +kernel
set_option maxRecDepth 100000 in
theorem mj_d_14013 : mj_c_14013.all (fun r => decide (decode method_16_code r.1 = .ok (r.2.1, r.2.2))) = true := by decide +kernel
set_option maxRecDepth 100000 in
theorem mj_d_14014 : mj_c_14014.all (fun r => decide (decode method_17_code r.1 = .ok (r.2.1, r.2.2))) = true := by decide +kernel
set_option maxRecDepth 100000 in
theorem mj_d_14015 : mj_c_14015.all (fun r => decide (decode method_18_code r.1 = .ok (r.2.1, r.2.2))) = true := by decide +kernel
set_option maxRecDepth 100000 in
theorem mj_d_14016 : mj_c_14016.all (fun r => decide (decode method_19_code r.1 = .ok (r.2.1, r.2.2))) = true := by decide +kernel
set_option maxRecDepth 100000 in
theorem mj_d_14017 : mj_c_14017.all (fun r => decide (decode method_20_code r.1 = .ok (r.2.1, r.2.2))) = true := by decide +kernel
set_option maxRecDepth 100000 in
theorem mj_d_14018_0 : ((mj_c_14018.drop 0).take 40).all (fun r => decide (decode code r.1 = .ok (r.2.1, r.2.2))) = true := by decide +kernel
set_option maxRecDepth 100000 in
theorem mj_d_14018_1 : ((mj_c_14018.drop 40).take 40).all (fun r => decide (decode code r.1 = .ok (r.2.1, r.2.2))) = true := by decide +kernel
set_option maxRecDepth 100000 in
theorem mj_d_14018_2 : ((mj_c_14018.drop 80).take 40).all (fun r => decide (decode code r.1 = .ok (r.2.1, r.2.2))) = true := by decide +kernel
set_option maxRecDepth 100000 in
theorem mj_d_14018_3 : ((mj_c_14018.drop 120).take 40).all (fun r => decide (decode code r.1 = .ok (r.2.1, r.2.2))) = true := by decide +kernel
set_option maxRecDepth 100000 in
theorem mj_d_14018_4 : ((mj_c_14018.drop 160).take 40).all (fun r => decide (decode code r.1 = .ok (r.2.1, r.2.2))) = true := by decide +kernel
set_option maxRecDepth 100000 in
theorem mj_d_14018_5 : ((mj_c_14018.drop 200).take 40).all (fun r => decide (decode code r.1 = .ok (r.2.1, r.2.2))) = true := by decide +kernel
set_option maxRecDepth 100000 in
theorem mj_d_14018_6 : ((mj_c_14018.drop 240).take 40).all (fun r => decide (decode code r.1 = .ok (r.2.1, r.2.2))) = true := by decide +kernel
set_option maxRecDepth 100000 in
theorem mj_d_14018_7 : ((mj_c_14018.drop 280).take 40).all (fun r => decide (decode code r.1 = .ok (r.2.1, r.2.2))) = true := by decide +kernel
set_option maxRecDepth 100000 in
theorem mj_d_14018_8 : ((mj_c_14018.drop 320).take 40).all (fun r => decide (decode code r.1 = .ok (r.2.1, r.2.2))) = true := by decide +kernel
set_option maxRecDepth 100000 in
theorem mj_d_14018_9 : ((mj_c_14018.drop 360).take 40).all (fun r => decide (decode code r.1 = .ok (r.2.1, r.2.2))) = true := by decide +kernel
set_option maxRecDepth 100000 in
theorem mj_d_14018_10 : ((mj_c_14018.drop 400).take 40).all (fun r => decide (decode code r.1 = .ok (r.2.1, r.2.2))) = true := by decide +kernel
set_option maxRecDepth 100000 in
theorem mj_d_14018_11 : ((mj_c_14018.drop 440).take 40).all (fun r => decide (decode code r.1 = .ok (r.2.1, r.2.2))) = true := by decide +kernel
set_option maxRecDepth 100000 in
theorem mj_d_14018_12 : ((mj_c_14018.drop 480).take 40).all (fun r => decide (decode code r.1 = .ok (r.2.1, r.2.2))) = true := by decide +kernel
set_option maxRecDepth 100000 in
theorem mj_d_14018_13 : ((mj_c_14018.drop 520).take 40).all (fun r => decide (decode code r.1 = .ok (r.2.1, r.2.2))) = true := by decide +kernel
set_option maxRecDepth 100000 in
theorem mj_d_14018_14 : ((mj_c_14018.drop 560).take 40).all (fun r => decide (decode code r.1 = .ok (r.2.1, r.2.2))) = true := by decide +kernel
set_option maxRecDepth 100000 in
theorem mj_d_14018_15 : ((mj_c_14018.drop 600).take 40).all (fun r => decide (decode code r.1 = .ok (r.2.1, r.2.2))) = true := by decide +kernel
set_option maxRecDepth 100000 in
theorem mj_d_14018_16 : ((mj_c_14018.drop 640).take 40).all (fun r => decide (decode code r.1 = .ok (r.2.1, r.2.2))) = true := by decide +kernel
set_option maxRecDepth 100000 in
theorem mj_d_14018_17 : ((mj_c_14018.drop 680).take 40).all (fun r => decide (decode code r.1 = .ok (r.2.1, r.2.2))) = true := by decide +kernel
set_option maxRecDepth 100000 in
theorem mj_d_14018_18 : ((mj_c_14018.drop 720).take 40).all (fun r => decide (decode code r.1 = .ok (r.2.1, r.2.2))) = true := by decide +kernel
theorem mj_all_td {α : Type} (p : α → Bool) (l : List α) (n : Nat) (h1 : (l.take n).all p = true) (h2 : (l.drop n).all p = true) : l.all p = true := by
  rw [← List.take_append_drop n l, List.all_append, h1, h2]; rfl
set_option maxRecDepth 100000 in
theorem mj_d_14018_e : (mj_c_14018.drop 760).all (fun r => decide (decode code r.1 = .ok (r.2.1, r.2.2))) = true := by decide +kernel
theorem mj_d_14018_r18 : (mj_c_14018.drop 720).all (fun r => decide (decode code r.1 = .ok (r.2.1, r.2.2))) = true := mj_all_td _ _ 40 mj_d_14018_18 (by rw [List.drop_drop]; exact mj_d_14018_e)
theorem mj_d_14018_r17 : (mj_c_14018.drop 680).all (fun r => decide (decode code r.1 = .ok (r.2.1, r.2.2))) = true := mj_all_td _ _ 40 mj_d_14018_17 (by rw [List.drop_drop]; exact mj_d_14018_r18)
theorem mj_d_14018_r16 : (mj_c_14018.drop 640).all (fun r => decide (decode code r.1 = .ok (r.2.1, r.2.2))) = true := mj_all_td _ _ 40 mj_d_14018_16 (by rw [List.drop_drop]; exact mj_d_14018_r17)
theorem mj_d_14018_r15 : (mj_c_14018.drop 600).all (fun r => decide (decode code r.1 = .ok (r.2.1, r.2.2))) = true := mj_all_td _ _ 40 mj_d_14018_15 (by rw [List.drop_drop]; exact mj_d_14018_r16)
theorem mj_d_14018_r14 : (mj_c_14018.drop 560).all (fun r => decide (decode code r.1 = .ok (r.2.1, r.2.2))) = true := mj_all_td _ _ 40 mj_d_14018_14 (by rw [List.drop_drop]; exact mj_d_14018_r15)
theorem mj_d_14018_r13 : (mj_c_14018.drop 520).all (fun r => decide (decode code r.1 = .ok (r.2.1, r.2.2))) = true := mj_all_td _ _ 40 mj_d_14018_13 (by rw [List.drop_drop]; exact mj_d_14018_r14)
theorem mj_d_14018_r12 : (mj_c_14018.drop 480).all (fun r => decide (decode code r.1 = .ok (r.2.1, r.2.2))) = true := mj_all_td _ _ 40 mj_d_14018_12 (by rw [List.drop_drop]; exact mj_d_14018_r13)
theorem mj_d_14018_r11 : (mj_c_14018.drop 440).all (fun r => decide (decode code r.1 = .ok (r.2.1, r.2.2))) = true := mj_all_td _ _ 40 mj_d_14018_11 (by rw [List.drop_drop]; exact mj_d_14018_r12)
theorem mj_d_14018_r10 : (mj_c_14018.drop 400).all (fun r => decide (decode code r.1 = .ok (r.2.1, r.2.2))) = true := mj_all_td _ _ 40 mj_d_14018_10 (by rw [List.drop_drop]; exact mj_d_14018_r11)
theorem mj_d_14018_r9 : (mj_c_14018.drop 360).all (fun r => decide (decode code r.1 = .ok (r.2.1, r.2.2))) = true := mj_all_td _ _ 40 mj_d_14018_9 (by rw [List.drop_drop]; exact mj_d_14018_r10)
theorem mj_d_14018_r8 : (mj_c_14018.drop 320).all (fun r => decide (decode code r.1 = .ok (r.2.1, r.2.2))) = true := mj_all_td _ _ 40 mj_d_14018_8 (by rw [List.drop_drop]; exact mj_d_14018_r9)
theorem mj_d_14018_r7 : (mj_c_14018.drop 280).all (fun r => decide (decode code r.1 = .ok (r.2.1, r.2.2))) = true := mj_all_td _ _ 40 mj_d_14018_7 (by rw [List.drop_drop]; exact mj_d_14018_r8)
theorem mj_d_14018_r6 : (mj_c_14018.drop 240).all (fun r => decide (decode code r.1 = .ok (r.2.1, r.2.2))) = true := mj_all_td _ _ 40 mj_d_14018_6 (by rw [List.drop_drop]; exact mj_d_14018_r7)
theorem mj_d_14018_r5 : (mj_c_14018.drop 200).all (fun r => decide (decode code r.1 = .ok (r.2.1, r.2.2))) = true := mj_all_td _ _ 40 mj_d_14018_5 (by rw [List.drop_drop]; exact mj_d_14018_r6)
theorem mj_d_14018_r4 : (mj_c_14018.drop 160).all (fun r => decide (decode code r.1 = .ok (r.2.1, r.2.2))) = true := mj_all_td _ _ 40 mj_d_14018_4 (by rw [List.drop_drop]; exact mj_d_14018_r5)
theorem mj_d_14018_r3 : (mj_c_14018.drop 120).all (fun r => decide (decode code r.1 = .ok (r.2.1, r.2.2))) = true := mj_all_td _ _ 40 mj_d_14018_3 (by rw [List.drop_drop]; exact mj_d_14018_r4)
theorem mj_d_14018_r2 : (mj_c_14018.drop 80).all (fun r => decide (decode code r.1 = .ok (r.2.1, r.2.2))) = true := mj_all_td _ _ 40 mj_d_14018_2 (by rw [List.drop_drop]; exact mj_d_14018_r3)
theorem mj_d_14018_r1 : (mj_c_14018.drop 40).all (fun r => decide (decode code r.1 = .ok (r.2.1, r.2.2))) = true := mj_all_td _ _ 40 mj_d_14018_1 (by rw [List.drop_drop]; exact mj_d_14018_r2)
theorem mj_d_14018_r0 : (mj_c_14018.drop 0).all (fun r => decide (decode code r.1 = .ok (r.2.1, r.2.2))) = true := mj_all_td _ _ 40 mj_d_14018_0 (by rw [List.drop_drop]; exact mj_d_14018_r1)
theorem mj_d_14018 : mj_c_14018.all (fun r => decide (decode code r.1 = .ok (r.2.1, r.2.2))) = true := mj_d_14018_r0
