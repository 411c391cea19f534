/-! INSTRUCTIONS: each method's list is what its bytes decode to (wip/tools/gen_dec.py) -/
set_option maxRecDepth 100000 in
theorem rj_d_12000 : rj_c_12000.all (fun r => decide (decode prog_1_method_1_code r.1 = .ok (r.2.1, r.2.2))) = true := by decide +kernel
set_option maxRecDepth 100000 in
theorem rj_d_12001 : rj_c_12001.all (fun r => decide (decode prog_1_method_2_code r.1 = .ok (r.2.1, r.2.2))) = true := by decide +kernel
set_option maxRecDepth 100000 in
theorem rj_d_12002 : rj_c_12002.all (fun r => decide (decode prog_1_method_3_code r.1 = .ok (r.2.1, r.2.2))) = true := by decide +kernel
set_option maxRecDepth 100000 in
theorem rj_d_12003 : rj_c_12003.all (fun r => decide (decode prog_1_method_4_code r.1 = .ok (r.2.1, r.2.2))) = true := by decide +kernel
set_option maxRecDepth 100000 in
theorem rj_d_12004 : rj_c_12004.all (fun r => decide (decode prog_1_method_5_code r.1 = .ok (r.2.1, r.2.2))) = true := by decide +kernel
set_option maxRecDepth 100000 in
theorem rj_d_12005 : rj_c_12005.all (fun r => decide (decode prog_1_method_6_code r.1 = .ok (r.2.1, r.2.2))) = true := by decide +kernel
set_option maxRecDepth 100000 in
theorem rj_d_12006 : rj_c_12006.all (fun r => decide (decode prog_1_method_7_code r.1 = .ok (r.2.1, r.2.2))) = true := by decide +kernel
set_option maxRecDepth 100000 in
theorem rj_d_12007 : rj_c_12007.all (fun r => decide (decode prog_1_method_8_code r.1 = .ok (r.2.1, r.2.2))) = true := by decide +kernel
set_option maxRecDepth 100000 in
theorem rj_d_12008 : rj_c_12008.all (fun r => decide (decode prog_1_method_9_code r.1 = .ok (r.2.1, r.2.2))) = true := by decide +kernel
set_option maxRecDepth 100000 in
theorem rj_d_12009 : rj_c_12009.all (fun r => decide (decode prog_1_method_10_code r.1 = .ok (r.2.1, r.2.2))) = true := by decide +kernel
set_option maxRecDepth 100000 in
theorem rj_d_12010 : rj_c_12010.all (fun r => decide (decode prog_1_method_11_code r.1 = .ok (r.2.1, r.2.2))) = true := by decide +kernel
set_option maxRecDepth 100000 in
theorem rj_d_12011 : rj_c_12011.all (fun r => decide (decode prog_1_method_12_code r.1 = .ok (r.2.1, r.2.2))) = true := by decide +kernel
set_option maxRecDepth 100000 in
theorem rj_d_12012 : rj_c_12012.all (fun r => decide (decode prog_1_method_13_code r.1 = .ok (r.2.1, r.2.2))) = true := by decide +kernel
set_option maxRecDepth 100000 in
theorem rj_d_12013 : rj_c_12013.all (fun r => decide (decode prog_1_method_14_code r.1 = .ok (r.2.1, r.2.2))) = true := by decide +kernel
set_option maxRecDepth 100000 in
theorem rj_d_12014 : rj_c_12014.all (fun r => decide (decode prog_1_method_15_code r.1 = .ok (r.2.1, r.2.2))) = true := by decide +kernel
set_option maxRecDepth 100000 in
theorem rj_d_12015 : rj_c_12015.all (fun r => decide (decode prog_1_method_16_code r.1 = .ok (r.2.1, r.2.2))) = true := by decide +kernel
set_option maxRecDepth 100000 in
theorem rj_d_12016 : rj_c_12016.all (fun r => decide (decode prog_1_method_17_code r.1 = .ok (r.2.1, r.2.2))) = true := by decide +kernel
set_option maxRecDepth 100000 in
theorem rj_d_12017 : rj_c_12017.all (fun r => decide (decode prog_1_method_18_code r.1 = .ok (r.2.1, r.2.2))) = true := by decide +kernel
set_option maxRecDepth 100000 in
theorem rj_d_12018 : rj_c_12018.all (fun r => decide (decode prog_1_method_19_code r.1 = .ok (r.2.1, r.2.2))) = true := by decide +kernel
set_option maxRecDepth 100000 in
theorem rj_d_12019 : rj_c_12019.all (fun r => decide (decode prog_1_method_20_code r.1 = .ok (r.2.1, r.2.2))) = true := by decide +kernel
set_option maxRecDepth 100000 in
theorem rj_d_12020 : rj_c_12020.all (fun r => decide (decode prog_1_method_21_code r.1 = .ok (r.2.1, r.2.2))) = true := by decide +kernel
set_option maxRecDepth 100000 in
theorem rj_d_12021 : rj_c_12021.all (fun r => decide (decode prog_1_method_22_code r.1 = .ok (r.2.1, r.2.2))) = true := by decide +kernel
set_option maxRecDepth 100000 in
theorem rj_d_12022 : rj_c_12022.all (fun r => decide (decode prog_1_method_23_code r.1 = .ok (r.2.1, r.2.2))) = true := by decide +kernel
set_option maxRecDepth 100000 in
theorem rj_d_12023 : rj_c_12023.all (fun r => decide (decode prog_1_method_24_code r.1 = .ok (r.2.1, r.2.2))) = true := by decide +kernel
set_option maxRecDepth 100000 in
theorem rj_d_12024 : rj_c_12024.all (fun r => decide (decode prog_1_method_25_code r.1 = .ok (r.2.1, r.2.2))) = true := by decide +kernel
set_option maxRecDepth 100000 in
theorem rj_d_12025 : rj_c_12025.all (fun r => decide (decode prog_1_method_26_code r.1 = .ok (r.2.1, r.2.2))) = true := by decide +kernel
set_option maxRecDepth 100000 in
theorem rj_d_12026 : rj_c_12026.all (fun r => decide (decode prog_1_method_27_code r.1 = .ok (r.2.1, r.2.2))) = true := by decide +kernel
set_option maxRecDepth 100000 in
theorem rj_d_12027 : rj_c_12027.all (fun r => decide (decode prog_1_method_28_code r.1 = .ok (r.2.1, r.2.2))) = true := by decide +kernel
set_option maxRecDepth 100000 in
theorem rj_d_12028 : rj_c_12028.all (fun r => decide (decode prog_1_method_29_code r.1 = .ok (r.2.1, r.2.2))) = true := by decide +kernel
set_option maxRecDepth 100000 in
theorem rj_d_12029 : rj_c_12029.all (fun r => decide (decode prog_1_method_30_code r.1 = .ok (r.2.1, r.2.2))) = true := by decide +kernel
set_option maxRecDepth 100000 in
theorem rj_d_12030 : rj_c_12030.all (fun r => decide (decode prog_1_method_31_code r.1 = .ok (r.2.1, r.2.2))) = true := by decide +kernel
set_option maxRecDepth 100000 in
theorem rj_d_12031 : rj_c_12031.all (fun r => decide (decode prog_1_method_32_code r.1 = .ok (r.2.1, r.2.2))) = true := by decide +kernel
set_option maxRecDepth 100000 in
theorem rj_d_12032 : rj_c_12032.all (fun r => decide (decode prog_1_method_33_code r.1 = .ok (r.2.1, r.2.2))) = true := by decide +kernel
set_option maxRecDepth 100000 in
theorem rj_d_12033 : rj_c_12033.all (fun r => decide (decode prog_1_method_34_code r.1 = .ok (r.2.1, r.2.2))) = true := by decide +kernel
set_option maxRecDepth 100000 in
theorem rj_d_12034 : rj_c_12034.all (fun r => decide (decode prog_1_method_35_code r.1 = .ok (r.2.1, r.2.2))) = true := by decide +kernel
set_option maxRecDepth 100000 in
theorem rj_d_12035 : rj_c_12035.all (fun r => decide (decode prog_1_method_36_code r.1 = .ok (r.2.1, r.2.2))) = true := by decide +kernel
set_option maxRecDepth 100000 in
theorem rj_d_12036 : rj_c_12036.all (fun r => decide (decode prog_1_method_37_code r.1 = .ok (r.2.1, r.2.2))) = true := by decide +kernel
set_option maxRecDepth 100000 in
theorem rj_d_12037 : rj_c_12037.all (fun r => decide (decode prog_1_method_38_code r.1 = .ok (r.2.1, r.2.2))) = true := by decide +kernel
set_option maxRecDepth 100000 in
theorem rj_d_12038 : rj_c_12038.all (fun r => decide (decode prog_1_method_39_code r.1 = .ok (r.2.1, r.2.2))) = true := by decide +kernel
set_option maxRecDepth 100000 in
theorem rj_d_12039 : rj_c_12039.all (fun r => decide (decode prog_1_method_40_code r.1 = .ok (r.2.1, r.2.2))) = true := by decide +kernel
set_option maxRecDepth 100000 in
theorem rj_d_12040 : rj_c_12040.all (fun r => decide (decode prog_1_method_41_code r.1 = .ok (r.2.1, r.2.2))) = true := by decide +kernel
set_option maxRecDepth 100000 in
theorem rj_d_12041 : rj_c_12041.all (fun r => decide (decode prog_1_method_42_code r.1 = .ok (r.2.1, r.2.2))) = true := by decide +kernel
set_option maxRecDepth 100000 in
theorem rj_d_12042 : rj_c_12042.all (fun r => decide (decode prog_1_method_43_code r.1 = .ok (r.2.1, r.2.2))) = true := by decide +kernel
set_option maxRecDepth 100000 in
theorem rj_d_12043 : rj_c_12043.all (fun r => decide (decode prog_1_method_44_code r.1 = .ok (r.2.1, r.2.2))) = true := by decide +kernel
set_option maxRecDepth 100000 in
theorem rj_d_12044 : rj_c_12044.all (fun r => decide (decode prog_1_method_45_code r.1 = .ok (r.2.1, r.2.2))) = true := by decide +kernel
set_option maxRecDepth 100000 in
theorem rj_d_12045 : rj_c_12045.all (fun r => decide (decode prog_1_method_46_code r.1 = .ok (r.2.1, r.2.2))) = true := by decide +kernel
set_option maxRecDepth 100000 in
theorem rj_d_0 : rj_c_0.all (fun r => decide (decode prog_2_method_1_code r.1 = .ok (r.2.1, r.2.2))) = true := by decide +kernel
set_option maxRecDepth 100000 in
theorem rj_d_1000 : rj_c_1000.all (fun r => decide (decode prog_3_method_1_code r.1 = .ok (r.2.1, r.2.2))) = true := by decide +kernel
set_option maxRecDepth 100000 in
theorem rj_d_1001 : rj_c_1001.all (fun r => decide (decode prog_3_method_2_code r.1 = .ok (r.2.1, r.2.2))) = true := by decide +kernel
set_option maxRecDepth 100000 in
theorem rj_d_1002 : rj_c_1002.all (fun r => decide (decode prog_3_method_3_code r.1 = .ok (r.2.1, r.2.2))) = true := by decide +kernel
set_option maxRecDepth 100000 in
theorem rj_d_1003 : rj_c_1003.all (fun r => decide (decode prog_3_method_4_code r.1 = .ok (r.2.1, r.2.2))) = true := by decide +kernel
set_option maxRecDepth 100000 in
theorem rj_d_1004 : rj_c_1004.all (fun r => decide (decode prog_3_method_5_code r.1 = .ok (r.2.1, r.2.2))) = true := by decide +kernel
set_option maxRecDepth 100000 in
theorem rj_d_1005 : rj_c_1005.all (fun r => decide (decode prog_3_method_6_code r.1 = .ok (r.2.1, r.2.2))) = true := by decide +kernel
set_option maxRecDepth 100000 in
theorem rj_d_1006 : rj_c_1006.all (fun r => decide (decode prog_3_method_7_code r.1 = .ok (r.2.1, r.2.2))) = true := by decide +kernel
set_option maxRecDepth 100000 in
theorem rj_d_1007 : rj_c_1007.all (fun r => decide (decode prog_3_method_8_code r.1 = .ok (r.2.1, r.2.2))) = true := by decide +kernel
set_option maxRecDepth 100000 in
theorem rj_d_1008 : rj_c_1008.all (fun r => decide (decode prog_3_method_9_code r.1 = .ok (r.2.1, r.2.2))) = true := by decide +kernel
set_option maxRecDepth 100000 in
theorem rj_d_1009 : rj_c_1009.all (fun r => decide (decode prog_3_method_10_code r.1 = .ok (r.2.1, r.2.2))) = true := by decide +kernel
set_option maxRecDepth 100000 in
theorem rj_d_1010 : rj_c_1010.all (fun r => decide (decode prog_3_method_11_code r.1 = .ok (r.2.1, r.2.2))) = true := by decide +kernel
set_option maxRecDepth 100000 in
theorem rj_d_1011 : rj_c_1011.all (fun r => decide (decode prog_3_method_12_code r.1 = .ok (r.2.1, r.2.2))) = true := by decide +kernel
set_option maxRecDepth 100000 in
theorem rj_d_1012 : rj_c_1012.all (fun r => decide (decode prog_3_method_13_code r.1 = .ok (r.2.1, r.2.2))) = true := by decide +kernel
set_option maxRecDepth 100000 in
theorem rj_d_2000 : rj_c_2000.all (fun r => decide (decode prog_4_method_2_code r.1 = .ok (r.2.1, r.2.2))) = true := by decide +kernel
set_option maxRecDepth 100000 in
theorem rj_d_2001 : rj_c_2001.all (fun r => decide (decode prog_4_method_3_code r.1 = .ok (r.2.1, r.2.2))) = true := by decide +kernel
set_option maxRecDepth 100000 in
theorem rj_d_2002 : rj_c_2002.all (fun r => decide (decode prog_4_method_4_code r.1 = .ok (r.2.1, r.2.2))) = true := by decide +kernel
set_option maxRecDepth 100000 in
theorem rj_d_2003 : rj_c_2003.all (fun r => decide (decode prog_4_method_5_code r.1 = .ok (r.2.1, r.2.2))) = true := by decide +kernel
set_option maxRecDepth 100000 in
theorem rj_d_2004 : rj_c_2004.all (fun r => decide (decode prog_4_method_6_code r.1 = .ok (r.2.1, r.2.2))) = true := by decide +kernel
set_option maxRecDepth 100000 in
theorem rj_d_2005 : rj_c_2005.all (fun r => decide (decode prog_4_method_7_code r.1 = .ok (r.2.1, r.2.2))) = true := by decide +kernel
set_option maxRecDepth 100000 in
theorem rj_d_2006 : rj_c_2006.all (fun r => decide (decode prog_4_method_8_code r.1 = .ok (r.2.1, r.2.2))) = true := by decide +kernel
set_option maxRecDepth 100000 in
theorem rj_d_2007 : rj_c_2007.all (fun r => decide (decode prog_4_method_9_code r.1 = .ok (r.2.1, r.2.2))) = true := by decide +kernel
set_option maxRecDepth 100000 in
theorem rj_d_2008 : rj_c_2008.all (fun r => decide (decode prog_4_method_10_code r.1 = .ok (r.2.1, r.2.2))) = true := by decide +kernel
set_option maxRecDepth 100000 in
theorem rj_d_2009 : rj_c_2009.all (fun r => decide (decode prog_4_method_11_code r.1 = .ok (r.2.1, r.2.2))) = true := by decide +kernel
set_option maxRecDepth 100000 in
theorem rj_d_2010 : rj_c_2010.all (fun r => decide (decode prog_4_method_12_code r.1 = .ok (r.2.1, r.2.2))) = true := by decide +kernel
set_option maxRecDepth 100000 in
theorem rj_d_2011 : rj_c_2011.all (fun r => decide (decode prog_4_method_13_code r.1 = .ok (r.2.1, r.2.2))) = true := by decide +kernel
set_option maxRecDepth 100000 in
theorem rj_d_2012 : rj_c_2012.all (fun r => decide (decode prog_4_method_14_code r.1 = .ok (r.2.1, r.2.2))) = true := by decide +kernel
set_option maxRecDepth 100000 in
theorem rj_d_2013 : rj_c_2013.all (fun r => decide (decode prog_4_method_15_code r.1 = .ok (r.2.1, r.2.2))) = true := by decide +kernel
set_option maxRecDepth 100000 in
theorem rj_d_2014 : rj_c_2014.all (fun r => decide (decode prog_4_method_16_code r.1 = .ok (r.2.1, r.2.2))) = true := by decide +kernel
set_option maxRecDepth 100000 in
theorem rj_d_3000 : rj_c_3000.all (fun r => decide (decode prog_5_method_1_code r.1 = .ok (r.2.1, r.2.2))) = true := by decide +kernel
set_option maxRecDepth 100000 in
theorem rj_d_3001 : rj_c_3001.all (fun r => decide (decode prog_5_method_2_code r.1 = .ok (r.2.1, r.2.2))) = true := by decide +kernel
set_option maxRecDepth 100000 in
theorem rj_d_3002 : rj_c_3002.all (fun r => decide (decode prog_5_method_3_code r.1 = .ok (r.2.1, r.2.2))) = true := by decide +kernel
set_option maxRecDepth 100000 in
theorem rj_d_3003 : rj_c_3003.all (fun r => decide (decode prog_5_method_4_code r.1 = .ok (r.2.1, r.2.2))) = true := by decide +kernel
set_option maxRecDepth 100000 in
theorem rj_d_3004 : rj_c_3004.all (fun r => decide (decode prog_5_method_5_code r.1 = .ok (r.2.1, r.2.2))) = true := by decide +kernel
set_option maxRecDepth 100000 in
theorem rj_d_3005 : rj_c_3005.all (fun r => decide (decode prog_5_method_6_code r.1 = .ok (r.2.1, r.2.2))) = true := by decide +kernel
set_option maxRecDepth 100000 in
theorem rj_d_4000 : rj_c_4000.all (fun r => decide (decode prog_6_method_1_code r.1 = .ok (r.2.1, r.2.2))) = true := by decide +kernel
set_option maxRecDepth 100000 in
theorem rj_d_4001 : rj_c_4001.all (fun r => decide (decode prog_6_method_2_code r.1 = .ok (r.2.1, r.2.2))) = true := by decide +kernel
set_option maxRecDepth 100000 in
theorem rj_d_5000 : rj_c_5000.all (fun r => decide (decode prog_7_method_1_code r.1 = .ok (r.2.1, r.2.2))) = true := by decide +kernel
set_option maxRecDepth 100000 in
theorem rj_d_5001 : rj_c_5001.all (fun r => decide (decode prog_7_method_2_code r.1 = .ok (r.2.1, r.2.2))) = true := by decide +kernel
set_option maxRecDepth 100000 in
theorem rj_d_6000 : rj_c_6000.all (fun r => decide (decode prog_8_method_1_code r.1 = .ok (r.2.1, r.2.2))) = true := by decide +kernel
set_option maxRecDepth 100000 in
theorem rj_d_6001 : rj_c_6001.all (fun r => decide (decode prog_8_method_2_code r.1 = .ok (r.2.1, r.2.2))) = true := by decide +kernel
set_option maxRecDepth 100000 in
theorem rj_d_6002 : rj_c_6002.all (fun r => decide (decode prog_8_method_3_code r.1 = .ok (r.2.1, r.2.2))) = true := by decide +kernel
set_option maxRecDepth 100000 in
theorem rj_d_6003 : rj_c_6003.all (fun r => decide (decode prog_8_method_4_code r.1 = .ok (r.2.1, r.2.2))) = true := by decide +kernel
set_option maxRecDepth 100000 in
theorem rj_d_6004 : rj_c_6004.all (fun r => decide (decode prog_8_method_5_code r.1 = .ok (r.2.1, r.2.2))) = true := by decide +kernel
set_option maxRecDepth 100000 in
theorem rj_d_6005 : rj_c_6005.all (fun r => decide (decode prog_8_method_6_code r.1 = .ok (r.2.1, r.2.2))) = true := by decide +kernel
set_option maxRecDepth 100000 in
theorem rj_d_6006 : rj_c_6006.all (fun r => decide (decode prog_8_method_7_code r.1 = .ok (r.2.1, r.2.2))) = true := by decide +kernel
set_option maxRecDepth 100000 in
theorem rj_d_6007 : rj_c_6007.all (fun r => decide (decode prog_8_method_8_code r.1 = .ok (r.2.1, r.2.2))) = true := by decide +kernel
set_option maxRecDepth 100000 in
theorem rj_d_6008 : rj_c_6008.all (fun r => decide (decode prog_8_method_9_code r.1 = .ok (r.2.1, r.2.2))) = true := by decide +kernel
set_option maxRecDepth 100000 in
theorem rj_d_6009 : rj_c_6009.all (fun r => decide (decode prog_8_method_10_code r.1 = .ok (r.2.1, r.2.2))) = true := by decide +kernel
set_option maxRecDepth 100000 in
theorem rj_d_6010 : rj_c_6010.all (fun r => decide (decode prog_8_method_11_code r.1 = .ok (r.2.1, r.2.2))) = true := by decide +kernel
set_option maxRecDepth 100000 in
theorem rj_d_6011 : rj_c_6011.all (fun r => decide (decode prog_8_method_12_code r.1 = .ok (r.2.1, r.2.2))) = true := by decide +kernel
set_option maxRecDepth 100000 in
theorem rj_d_6012 : rj_c_6012.all (fun r => decide (decode prog_8_method_13_code r.1 = .ok (r.2.1, r.2.2))) = true := by decide +kernel
set_option maxRecDepth 100000 in
theorem rj_d_6013 : rj_c_6013.all (fun r => decide (decode prog_8_method_14_code r.1 = .ok (r.2.1, r.2.2))) = true := by decide +kernel
set_option maxRecDepth 100000 in
theorem rj_d_6014 : rj_c_6014.all (fun r => decide (decode prog_8_method_15_code r.1 = .ok (r.2.1, r.2.2))) = true := by decide +kernel
set_option maxRecDepth 100000 in
theorem rj_d_6015 : rj_c_6015.all (fun r => decide (decode prog_8_method_16_code r.1 = .ok (r.2.1, r.2.2))) = true := by decide +kernel
set_option maxRecDepth 100000 in
theorem rj_d_6016 : rj_c_6016.all (fun r => decide (decode prog_8_method_17_code r.1 = .ok (r.2.1, r.2.2))) = true := by decide +kernel
set_option maxRecDepth 100000 in
theorem rj_d_7000 : rj_c_7000.all (fun r => decide (decode prog_9_method_1_code r.1 = .ok (r.2.1, r.2.2))) = true := by decide +kernel
set_option maxRecDepth 100000 in
theorem rj_d_7001 : rj_c_7001.all (fun r => decide (decode prog_9_method_2_code r.1 = .ok (r.2.1, r.2.2))) = true := by decide +kernel
set_option maxRecDepth 100000 in
theorem rj_d_7002 : rj_c_7002.all (fun r => decide (decode prog_9_method_3_code r.1 = .ok (r.2.1, r.2.2))) = true := by decide +kernel
set_option maxRecDepth 100000 in
theorem rj_d_7003 : rj_c_7003.all (fun r => decide (decode prog_9_method_4_code r.1 = .ok (r.2.1, r.2.2))) = true := by decide +kernel
set_option maxRecDepth 100000 in
theorem rj_d_7004 : rj_c_7004.all (fun r => decide (decode prog_9_method_5_code r.1 = .ok (r.2.1, r.2.2))) = true := by decide +kernel
set_option maxRecDepth 100000 in
theorem rj_d_7005 : rj_c_7005.all (fun r => decide (decode prog_9_method_6_code r.1 = .ok (r.2.1, r.2.2))) = true := by decide +kernel
set_option maxRecDepth 100000 in
theorem rj_d_7006 : rj_c_7006.all (fun r => decide (decode prog_9_method_7_code r.1 = .ok (r.2.1, r.2.2))) = true := by decide +kernel
set_option maxRecDepth 100000 in
theorem rj_d_7007 : rj_c_7007.all (fun r => decide (decode prog_9_method_8_code r.1 = .ok (r.2.1, r.2.2))) = true := by decide +kernel
set_option maxRecDepth 100000 in
theorem rj_d_7008 : rj_c_7008.all (fun r => decide (decode prog_9_method_9_code r.1 = .ok (r.2.1, r.2.2))) = true := by decide +kernel
set_option maxRecDepth 100000 in
theorem rj_d_7009 : rj_c_7009.all (fun r => decide (decode prog_9_method_10_code r.1 = .ok (r.2.1, r.2.2))) = true := by decide +kernel
set_option maxRecDepth 100000 in
theorem rj_d_7010 : rj_c_7010.all (fun r => decide (decode prog_9_method_11_code r.1 = .ok (r.2.1, r.2.2))) = true := by decide +kernel
set_option maxRecDepth 100000 in
theorem rj_d_7011 : rj_c_7011.all (fun r => decide (decode prog_9_method_12_code r.1 = .ok (r.2.1, r.2.2))) = true := by decide +kernel
set_option maxRecDepth 100000 in
theorem rj_d_7012 : rj_c_7012.all (fun r => decide (decode prog_9_method_13_code r.1 = .ok (r.2.1, r.2.2))) = true := by decide +kernel
set_option maxRecDepth 100000 in
theorem rj_d_7013 : rj_c_7013.all (fun r => decide (decode prog_9_method_14_code r.1 = .ok (r.2.1, r.2.2))) = true := by decide +kernel
set_option maxRecDepth 100000 in
theorem rj_d_7014 : rj_c_7014.all (fun r => decide (decode prog_9_method_15_code r.1 = .ok (r.2.1, r.2.2))) = true := by decide +kernel
set_option maxRecDepth 100000 in
theorem rj_d_7015 : rj_c_7015.all (fun r => decide (decode prog_9_method_16_code r.1 = .ok (r.2.1, r.2.2))) = true := by decide +kernel
set_option maxRecDepth 100000 in
theorem rj_d_7016 : rj_c_7016.all (fun r => decide (decode prog_9_method_17_code r.1 = .ok (r.2.1, r.2.2))) = true := by decide +kernel
set_option maxRecDepth 100000 in
theorem rj_d_7017 : rj_c_7017.all (fun r => decide (decode prog_9_method_18_code r.1 = .ok (r.2.1, r.2.2))) = true := by decide +kernel
set_option maxRecDepth 100000 in
theorem rj_d_7018 : rj_c_7018.all (fun r => decide (decode prog_9_method_19_code r.1 = .ok (r.2.1, r.2.2))) = true := by decide +kernel
set_option maxRecDepth 100000 in
theorem rj_d_7019 : rj_c_7019.all (fun r => decide (decode prog_9_method_20_code r.1 = .ok (r.2.1, r.2.2))) = true := by decide +kernel
set_option maxRecDepth 100000 in
theorem rj_d_7020 : rj_c_7020.all (fun r => decide (decode prog_9_method_21_code r.1 = .ok (r.2.1, r.2.2))) = true := by decide +kernel
set_option maxRecDepth 100000 in
theorem rj_d_7021 : rj_c_7021.all (fun r => decide (decode prog_9_method_22_code r.1 = .ok (r.2.1, r.2.2))) = true := by decide +kernel
set_option maxRecDepth 100000 in
theorem rj_d_7022 : rj_c_7022.all (fun r => decide (decode prog_9_method_23_code r.1 = .ok (r.2.1, r.2.2))) = true := by decide +kernel
set_option maxRecDepth 100000 in
theorem rj_d_7023 : rj_c_7023.all (fun r => decide (decode prog_9_method_24_code r.1 = .ok (r.2.1, r.2.2))) = true := by decide +kernel
set_option maxRecDepth 100000 in
theorem rj_d_7024 : rj_c_7024.all (fun r => decide (decode prog_9_method_25_code r.1 = .ok (r.2.1, r.2.2))) = true := by decide +kernel
set_option maxRecDepth 100000 in
theorem rj_d_7025 : rj_c_7025.all (fun r => decide (decode prog_9_method_26_code r.1 = .ok (r.2.1, r.2.2))) = true := by decide +kernel
set_option maxRecDepth 100000 in
theorem rj_d_8000 : rj_c_8000.all (fun r => decide (decode prog_10_method_1_code r.1 = .ok (r.2.1, r.2.2))) = true := by decide +kernel
set_option maxRecDepth 100000 in
theorem rj_d_8001 : rj_c_8001.all (fun r => decide (decode prog_10_method_2_code r.1 = .ok (r.2.1, r.2.2))) = true := by decide +kernel
set_option maxRecDepth 100000 in
theorem rj_d_8002 : rj_c_8002.all (fun r => decide (decode prog_10_method_3_code r.1 = .ok (r.2.1, r.2.2))) = true := by decide +kernel
set_option maxRecDepth 100000 in
theorem rj_d_8003 : rj_c_8003.all (fun r => decide (decode prog_10_method_4_code r.1 = .ok (r.2.1, r.2.2))) = true := by decide +kernel
set_option maxRecDepth 100000 in
theorem rj_d_8004 : rj_c_8004.all (fun r => decide (decode prog_10_method_5_code r.1 = .ok (r.2.1, r.2.2))) = true := by decide +kernel
set_option maxRecDepth 100000 in
theorem rj_d_8005 : rj_c_8005.all (fun r => decide (decode prog_10_method_6_code r.1 = .ok (r.2.1, r.2.2))) = true := by decide +kernel
set_option maxRecDepth 100000 in
theorem rj_d_8006 : rj_c_8006.all (fun r => decide (decode prog_10_method_7_code r.1 = .ok (r.2.1, r.2.2))) = true := by decide +kernel
set_option maxRecDepth 100000 in
theorem rj_d_8007 : rj_c_8007.all (fun r => decide (decode prog_10_method_8_code r.1 = .ok (r.2.1, r.2.2))) = true := by decide +kernel
set_option maxRecDepth 100000 in
theorem rj_d_8008 : rj_c_8008.all (fun r => decide (decode prog_10_method_9_code r.1 = .ok (r.2.1, r.2.2))) = true := by decide +kernel
set_option maxRecDepth 100000 in
theorem rj_d_8009 : rj_c_8009.all (fun r => decide (decode prog_10_method_10_code r.1 = .ok (r.2.1, r.2.2))) = true := by decide +kernel
set_option maxRecDepth 100000 in
theorem rj_d_8010 : rj_c_8010.all (fun r => decide (decode prog_10_method_11_code r.1 = .ok (r.2.1, r.2.2))) = true := by decide +kernel
set_option maxRecDepth 100000 in
theorem rj_d_8011 : rj_c_8011.all (fun r => decide (decode prog_10_method_12_code r.1 = .ok (r.2.1, r.2.2))) = true := by decide +kernel
set_option maxRecDepth 100000 in
theorem rj_d_8012 : rj_c_8012.all (fun r => decide (decode prog_10_method_13_code r.1 = .ok (r.2.1, r.2.2))) = true := by decide +kernel
set_option maxRecDepth 100000 in
theorem rj_d_8013 : rj_c_8013.all (fun r => decide (decode prog_10_method_14_code r.1 = .ok (r.2.1, r.2.2))) = true := by decide +kernel
set_option maxRecDepth 100000 in
theorem rj_d_8014 : rj_c_8014.all (fun r => decide (decode prog_10_method_15_code r.1 = .ok (r.2.1, r.2.2))) = true := by decide +kernel
set_option maxRecDepth 100000 in
theorem rj_d_8015 : rj_c_8015.all (fun r => decide (decode prog_10_method_16_code r.1 = .ok (r.2.1, r.2.2))) = true := by decide +kernel
set_option maxRecDepth 100000 in
theorem rj_d_8016 : rj_c_8016.all (fun r => decide (decode prog_10_method_17_code r.1 = .ok (r.2.1, r.2.2))) = true := by decide +kernel
set_option maxRecDepth 100000 in
theorem rj_d_8017 : rj_c_8017.all (fun r => decide (decode prog_10_method_18_code r.1 = .ok (r.2.1, r.2.2))) = true := by decide +kernel
set_option maxRecDepth 100000 in
theorem rj_d_8018 : rj_c_8018.all (fun r => decide (decode prog_10_method_19_code r.1 = .ok (r.2.1, r.2.2))) = true := by decide +kernel
set_option maxRecDepth 100000 in
theorem rj_d_8019 : rj_c_8019.all (fun r => decide (decode prog_10_method_20_code r.1 = .ok (r.2.1, r.2.2))) = true := by decide +kernel
set_option maxRecDepth 100000 in
theorem rj_d_8020 : rj_c_8020.all (fun r => decide (decode prog_10_method_21_code r.1 = .ok (r.2.1, r.2.2))) = true := by decide +kernel
set_option maxRecDepth 100000 in
theorem rj_d_8021 : rj_c_8021.all (fun r => decide (decode prog_10_method_22_code r.1 = .ok (r.2.1, r.2.2))) = true := by decide +kernel
set_option maxRecDepth 100000 in
theorem rj_d_8022 : rj_c_8022.all (fun r => decide (decode prog_10_method_23_code r.1 = .ok (r.2.1, r.2.2))) = true := by decide +kernel
set_option maxRecDepth 100000 in
theorem rj_d_8023 : rj_c_8023.all (fun r => decide (decode prog_10_method_24_code r.1 = .ok (r.2.1, r.2.2))) = true := by decide +kernel
set_option maxRecDepth 100000 in
theorem rj_d_8024 : rj_c_8024.all (fun r => decide (decode prog_10_method_25_code r.1 = .ok (r.2.1, r.2.2))) = true := by decide +kernel
set_option maxRecDepth 100000 in
theorem rj_d_8025 : rj_c_8025.all (fun r => decide (decode prog_10_method_26_code r.1 = .ok (r.2.1, r.2.2))) = true := by decide +kernel
set_option maxRecDepth 100000 in
theorem rj_d_8026 : rj_c_8026.all (fun r => decide (decode prog_10_method_27_code r.1 = .ok (r.2.1, r.2.2))) = true := by decide +kernel
set_option maxRecDepth 100000 in
theorem rj_d_8027 : rj_c_8027.all (fun r => decide (decode prog_10_method_28_code r.1 = .ok (r.2.1, r.2.2))) = true := by decide +kernel
set_option maxRecDepth 100000 in
theorem rj_d_8028 : rj_c_8028.all (fun r => decide (decode prog_10_method_29_code r.1 = .ok (r.2.1, r.2.2))) = true := by decide +kernel
set_option maxRecDepth 100000 in
theorem rj_d_8029 : rj_c_8029.all (fun r => decide (decode prog_10_method_30_code r.1 = .ok (r.2.1, r.2.2))) = true := by decide +kernel
set_option maxRecDepth 100000 in
theorem rj_d_9000 : rj_c_9000.all (fun r => decide (decode prog_11_method_1_code r.1 = .ok (r.2.1, r.2.2))) = true := by decide +kernel
set_option maxRecDepth 100000 in
theorem rj_d_9001 : rj_c_9001.all (fun r => decide (decode prog_11_method_2_code r.1 = .ok (r.2.1, r.2.2))) = true := by decide +kernel
set_option maxRecDepth 100000 in
theorem rj_d_9002 : rj_c_9002.all (fun r => decide (decode prog_11_method_3_code r.1 = .ok (r.2.1, r.2.2))) = true := by decide +kernel
set_option maxRecDepth 100000 in
theorem rj_d_9003 : rj_c_9003.all (fun r => decide (decode prog_11_method_4_code r.1 = .ok (r.2.1, r.2.2))) = true := by decide +kernel
set_option maxRecDepth 100000 in
theorem rj_d_9004 : rj_c_9004.all (fun r => decide (decode prog_11_method_5_code r.1 = .ok (r.2.1, r.2.2))) = true := by decide +kernel
set_option maxRecDepth 100000 in
theorem rj_d_9005 : rj_c_9005.all (fun r => decide (decode prog_11_method_6_code r.1 = .ok (r.2.1, r.2.2))) = true := by decide +kernel
set_option maxRecDepth 100000 in
theorem rj_d_9006 : rj_c_9006.all (fun r => decide (decode prog_11_method_7_code r.1 = .ok (r.2.1, r.2.2))) = true := by decide +kernel
set_option maxRecDepth 100000 in
theorem rj_d_9007 : rj_c_9007.all (fun r => decide (decode prog_11_method_8_code r.1 = .ok (r.2.1, r.2.2))) = true := by decide +kernel
set_option maxRecDepth 100000 in
theorem rj_d_9008 : rj_c_9008.all (fun r => decide (decode prog_11_method_9_code r.1 = .ok (r.2.1, r.2.2))) = true := by decide +kernel
set_option maxRecDepth 100000 in
theorem rj_d_9009 : rj_c_9009.all (fun r => decide (decode prog_11_method_10_code r.1 = .ok (r.2.1, r.2.2))) = true := by decide +kernel
set_option maxRecDepth 100000 in
theorem rj_d_9010 : rj_c_9010.all (fun r => decide (decode prog_11_method_11_code r.1 = .ok (r.2.1, r.2.2))) = true := by decide +kernel
set_option maxRecDepth 100000 in
theorem rj_d_9011 : rj_c_9011.all (fun r => decide (decode prog_11_method_12_code r.1 = .ok (r.2.1, r.2.2))) = true := by decide +kernel
set_option maxRecDepth 100000 in
theorem rj_d_9012 : rj_c_9012.all (fun r => decide (decode prog_11_method_13_code r.1 = .ok (r.2.1, r.2.2))) = true := by decide +kernel
set_option maxRecDepth 100000 in
theorem rj_d_9013 : rj_c_9013.all (fun r => decide (decode prog_11_method_14_code r.1 = .ok (r.2.1, r.2.2))) = true := by decide +kernel
set_option maxRecDepth 100000 in
theorem rj_d_10000 : rj_c_10000.all (fun r => decide (decode prog_12_method_1_code r.1 = .ok (r.2.1, r.2.2))) = true := by decide +kernel
set_option maxRecDepth 100000 in
theorem rj_d_11000 : rj_c_11000.all (fun r => decide (decode prog_13_method_1_code r.1 = .ok (r.2.1, r.2.2))) = true := by decide +kernel
set_option maxRecDepth 100000 in
theorem rj_d_11001 : rj_c_11001.all (fun r => decide (decode prog_13_method_2_code r.1 = .ok (r.2.1, r.2.2))) = true := by decide +kernel
set_option maxRecDepth 100000 in
theorem rj_d_11002 : rj_c_11002.all (fun r => decide (decode prog_13_method_3_code r.1 = .ok (r.2.1, r.2.2))) = true := by decide +kernel
set_option maxRecDepth 100000 in
theorem rj_d_11003 : rj_c_11003.all (fun r => decide (decode prog_13_method_4_code r.1 = .ok (r.2.1, r.2.2))) = true := by decide +kernel
set_option maxRecDepth 100000 in
theorem rj_d_11004 : rj_c_11004.all (fun r => decide (decode prog_13_method_5_code r.1 = .ok (r.2.1, r.2.2))) = true := by decide +kernel
set_option maxRecDepth 100000 in
theorem rj_d_11005 : rj_c_11005.all (fun r => decide (decode prog_13_method_6_code r.1 = .ok (r.2.1, r.2.2))) = true := by decide +kernel
set_option maxRecDepth 100000 in
theorem rj_d_11006 : rj_c_11006.all (fun r => decide (decode prog_13_method_7_code r.1 = .ok (r.2.1, r.2.2))) = true := by decide +kernel
set_option maxRecDepth 100000 in
theorem rj_d_11007 : rj_c_11007.all (fun r => decide (decode prog_13_method_8_code r.1 = .ok (r.2.1, r.2.2))) = true := by decide +kernel
set_option maxRecDepth 100000 in
theorem rj_d_11008 : rj_c_11008.all (fun r => decide (decode prog_13_method_9_code r.1 = .ok (r.2.1, r.2.2))) = true := by decide +kernel
set_option maxRecDepth 100000 in
theorem rj_d_11009 : rj_c_11009.all (fun r => decide (decode prog_13_method_10_code r.1 = .ok (r.2.1, r.2.2))) = true := by decide +kernel
set_option maxRecDepth 100000 in
theorem rj_d_11010 : rj_c_11010.all (fun r => decide (decode prog_13_method_11_code r.1 = .ok (r.2.1, r.2.2))) = true := by decide +kernel
set_option maxRecDepth 100000 in
theorem rj_d_11011 : rj_c_11011.all (fun r => decide (decode prog_13_method_12_code r.1 = .ok (r.2.1, r.2.2))) = true := by decide +kernel
set_option maxRecDepth 100000 in
theorem rj_d_11012 : rj_c_11012.all (fun r => decide (decode prog_13_method_13_code r.1 = .ok (r.2.1, r.2.2))) = true := by decide +kernel
set_option maxRecDepth 100000 in
theorem rj_d_11013 : rj_c_11013.all (fun r => decide (decode prog_13_method_14_code r.1 = .ok (r.2.1, r.2.2))) = true := by decide +kernel
