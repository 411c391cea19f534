/-! INSTRUCTIONS: each method's list is what its bytes decode to (wip/tools/gen_dec.py) -/
set_option maxRecDepth 100000 in
theorem mj_d_13000 : mj_c_13000.all (fun r => decide (decode prog_15_method_1_code r.1 = .ok (r.2.1, r.2.2))) = true := by decide +kernel
set_option maxRecDepth 100000 in
theorem mj_d_13001 : mj_c_13001.all (fun r => decide (decode prog_15_method_2_code r.1 = .ok (r.2.1, r.2.2))) = true := by decide +kernel
set_option maxRecDepth 100000 in
theorem mj_d_13002 : mj_c_13002.all (fun r => decide (decode prog_15_method_3_code r.1 = .ok (r.2.1, r.2.2))) = true := by decide +kernel
set_option maxRecDepth 100000 in
theorem mj_d_13003 : mj_c_13003.all (fun r => decide (decode prog_15_method_4_code r.1 = .ok (r.2.1, r.2.2))) = true := by decide +kernel
set_option maxRecDepth 100000 in
theorem mj_d_13004 : mj_c_13004.all (fun r => decide (decode prog_15_method_5_code r.1 = .ok (r.2.1, r.2.2))) = true := by decide +kernel
set_option maxRecDepth 100000 in
theorem mj_d_13005 : mj_c_13005.all (fun r => decide (decode prog_15_method_6_code r.1 = .ok (r.2.1, r.2.2))) = true := by decide +kernel
set_option maxRecDepth 100000 in
theorem mj_d_13006 : mj_c_13006.all (fun r => decide (decode prog_15_method_7_code r.1 = .ok (r.2.1, r.2.2))) = true := by decide +kernel
set_option maxRecDepth 100000 in
theorem mj_d_13007 : mj_c_13007.all (fun r => decide (decode prog_15_method_8_code r.1 = .ok (r.2.1, r.2.2))) = true := by decide +kernel
set_option maxRecDepth 100000 in
theorem mj_d_13008 : mj_c_13008.all (fun r => decide (decode prog_15_method_9_code r.1 = .ok (r.2.1, r.2.2))) = true := by decide +kernel
set_option maxRecDepth 100000 in
theorem mj_d_13009 : mj_c_13009.all (fun r => decide (decode prog_15_method_10_code r.1 = .ok (r.2.1, r.2.2))) = true := by decide +kernel
set_option maxRecDepth 100000 in
theorem mj_d_13010 : mj_c_13010.all (fun r => decide (decode prog_15_method_11_code r.1 = .ok (r.2.1, r.2.2))) = true := by decide +kernel
set_option maxRecDepth 100000 in
theorem mj_d_13011 : mj_c_13011.all (fun r => decide (decode prog_15_method_12_code r.1 = .ok (r.2.1, r.2.2))) = true := by decide +kernel
set_option maxRecDepth 100000 in
theorem mj_d_13012 : mj_c_13012.all (fun r => decide (decode prog_15_method_13_code r.1 = .ok (r.2.1, r.2.2))) = true := by decide +kernel
set_option maxRecDepth 100000 in
theorem mj_d_13013 : mj_c_13013.all (fun r => decide (decode prog_15_method_14_code r.1 = .ok (r.2.1, r.2.2))) = true := by decide +kernel
set_option maxRecDepth 100000 in
theorem mj_d_13014 : mj_c_13014.all (fun r => decide (decode prog_15_method_15_code r.1 = .ok (r.2.1, r.2.2))) = true := by decide +kernel
set_option maxRecDepth 100000 in
theorem mj_d_13015 : mj_c_13015.all (fun r => decide (decode prog_15_method_16_code r.1 = .ok (r.2.1, r.2.2))) = true := by decide +kernel
set_option maxRecDepth 100000 in
theorem mj_d_13016 : mj_c_13016.all (fun r => decide (decode prog_15_method_17_code r.1 = .ok (r.2.1, r.2.2))) = true := by decide +kernel
set_option maxRecDepth 100000 in
theorem mj_d_13017 : mj_c_13017.all (fun r => decide (decode prog_15_method_18_code r.1 = .ok (r.2.1, r.2.2))) = true := by decide +kernel
set_option maxRecDepth 100000 in
theorem mj_d_13018 : mj_c_13018.all (fun r => decide (decode prog_15_method_19_code r.1 = .ok (r.2.1, r.2.2))) = true := by decide +kernel
set_option maxRecDepth 100000 in
theorem mj_d_13019 : mj_c_13019.all (fun r => decide (decode prog_15_method_20_code r.1 = .ok (r.2.1, r.2.2))) = true := by decide +kernel
set_option maxRecDepth 100000 in
theorem mj_d_13020 : mj_c_13020.all (fun r => decide (decode prog_15_method_21_code r.1 = .ok (r.2.1, r.2.2))) = true := by decide +kernel
set_option maxRecDepth 100000 in
theorem mj_d_13021 : mj_c_13021.all (fun r => decide (decode prog_15_method_22_code r.1 = .ok (r.2.1, r.2.2))) = true := by decide +kernel
set_option maxRecDepth 100000 in
theorem mj_d_13022 : mj_c_13022.all (fun r => decide (decode prog_15_method_23_code r.1 = .ok (r.2.1, r.2.2))) = true := by decide +kernel
set_option maxRecDepth 100000 in
theorem mj_d_13023 : mj_c_13023.all (fun r => decide (decode prog_15_method_24_code r.1 = .ok (r.2.1, r.2.2))) = true := by decide +kernel
set_option maxRecDepth 100000 in
theorem mj_d_13024 : mj_c_13024.all (fun r => decide (decode prog_15_method_25_code r.1 = .ok (r.2.1, r.2.2))) = true := by decide +kernel
set_option maxRecDepth 100000 in
theorem mj_d_13025 : mj_c_13025.all (fun r => decide (decode prog_15_method_26_code r.1 = .ok (r.2.1, r.2.2))) = true := by decide +kernel
set_option maxRecDepth 100000 in
theorem mj_d_13026 : mj_c_13026.all (fun r => decide (decode prog_15_method_27_code r.1 = .ok (r.2.1, r.2.2))) = true := by decide +kernel
set_option maxRecDepth 100000 in
theorem mj_d_13027 : mj_c_13027.all (fun r => decide (decode prog_15_method_28_code r.1 = .ok (r.2.1, r.2.2))) = true := by decide +kernel
set_option maxRecDepth 100000 in
theorem mj_d_13028 : mj_c_13028.all (fun r => decide (decode prog_15_method_29_code r.1 = .ok (r.2.1, r.2.2))) = true := by decide +kernel
set_option maxRecDepth 100000 in
theorem mj_d_13029 : mj_c_13029.all (fun r => decide (decode prog_15_method_30_code r.1 = .ok (r.2.1, r.2.2))) = true := by decide +kernel
set_option maxRecDepth 100000 in
theorem mj_d_13030 : mj_c_13030.all (fun r => decide (decode prog_15_method_31_code r.1 = .ok (r.2.1, r.2.2))) = true := by decide +kernel
set_option maxRecDepth 100000 in
theorem mj_d_13031 : mj_c_13031.all (fun r => decide (decode prog_15_method_32_code r.1 = .ok (r.2.1, r.2.2))) = true := by decide +kernel
set_option maxRecDepth 100000 in
theorem mj_d_13032 : mj_c_13032.all (fun r => decide (decode prog_15_method_33_code r.1 = .ok (r.2.1, r.2.2))) = true := by decide +kernel
set_option maxRecDepth 100000 in
theorem mj_d_13033 : mj_c_13033.all (fun r => decide (decode prog_15_method_34_code r.1 = .ok (r.2.1, r.2.2))) = true := by decide +kernel
set_option maxRecDepth 100000 in
theorem mj_d_13034 : mj_c_13034.all (fun r => decide (decode prog_15_method_35_code r.1 = .ok (r.2.1, r.2.2))) = true := by decide +kernel
set_option maxRecDepth 100000 in
theorem mj_d_13035 : mj_c_13035.all (fun r => decide (decode prog_15_method_36_code r.1 = .ok (r.2.1, r.2.2))) = true := by decide +kernel
set_option maxRecDepth 100000 in
theorem mj_d_13036 : mj_c_13036.all (fun r => decide (decode prog_15_method_37_code r.1 = .ok (r.2.1, r.2.2))) = true := by decide +kernel
set_option maxRecDepth 100000 in
theorem mj_d_13037 : mj_c_13037.all (fun r => decide (decode prog_15_method_38_code r.1 = .ok (r.2.1, r.2.2))) = true := by decide +kernel
set_option maxRecDepth 100000 in
theorem mj_d_13038 : mj_c_13038.all (fun r => decide (decode prog_15_method_39_code r.1 = .ok (r.2.1, r.2.2))) = true := by decide +kernel
set_option maxRecDepth 100000 in
theorem mj_d_13039 : mj_c_13039.all (fun r => decide (decode prog_15_method_40_code r.1 = .ok (r.2.1, r.2.2))) = true := by decide +kernel
set_option maxRecDepth 100000 in
theorem mj_d_13040 : mj_c_13040.all (fun r => decide (decode prog_15_method_41_code r.1 = .ok (r.2.1, r.2.2))) = true := by decide +kernel
set_option maxRecDepth 100000 in
theorem mj_d_13041 : mj_c_13041.all (fun r => decide (decode prog_15_method_42_code r.1 = .ok (r.2.1, r.2.2))) = true := by decide +kernel
set_option maxRecDepth 100000 in
theorem mj_d_13042 : mj_c_13042.all (fun r => decide (decode prog_15_method_43_code r.1 = .ok (r.2.1, r.2.2))) = true := by decide +kernel
set_option maxRecDepth 100000 in
theorem mj_d_13043 : mj_c_13043.all (fun r => decide (decode prog_15_method_44_code r.1 = .ok (r.2.1, r.2.2))) = true := by decide +kernel
set_option maxRecDepth 100000 in
theorem mj_d_13044 : mj_c_13044.all (fun r => decide (decode prog_15_method_45_code r.1 = .ok (r.2.1, r.2.2))) = true := by decide +kernel
set_option maxRecDepth 100000 in
theorem mj_d_13045 : mj_c_13045.all (fun r => decide (decode prog_15_method_46_code r.1 = .ok (r.2.1, r.2.2))) = true := by decide +kernel
set_option maxRecDepth 100000 in
theorem mj_d_13046 : mj_c_13046.all (fun r => decide (decode prog_15_method_47_code r.1 = .ok (r.2.1, r.2.2))) = true := by decide +kernel
set_option maxRecDepth 100000 in
theorem mj_d_13047 : mj_c_13047.all (fun r => decide (decode prog_15_method_48_code r.1 = .ok (r.2.1, r.2.2))) = true := by decide +kernel
set_option maxRecDepth 100000 in
theorem mj_d_13048 : mj_c_13048.all (fun r => decide (decode prog_15_method_49_code r.1 = .ok (r.2.1, r.2.2))) = true := by decide +kernel
set_option maxRecDepth 100000 in
theorem mj_d_13049 : mj_c_13049.all (fun r => decide (decode prog_15_method_50_code r.1 = .ok (r.2.1, r.2.2))) = true := by decide +kernel
set_option maxRecDepth 100000 in
theorem mj_d_13050 : mj_c_13050.all (fun r => decide (decode prog_15_method_51_code r.1 = .ok (r.2.1, r.2.2))) = true := by decide +kernel
set_option maxRecDepth 100000 in
theorem mj_d_13051 : mj_c_13051.all (fun r => decide (decode prog_15_method_52_code r.1 = .ok (r.2.1, r.2.2))) = true := by decide +kernel
set_option maxRecDepth 100000 in
theorem mj_d_13052 : mj_c_13052.all (fun r => decide (decode prog_15_method_53_code r.1 = .ok (r.2.1, r.2.2))) = true := by decide +kernel
set_option maxRecDepth 100000 in
theorem mj_d_13053 : mj_c_13053.all (fun r => decide (decode prog_15_method_54_code r.1 = .ok (r.2.1, r.2.2))) = true := by decide +kernel
set_option maxRecDepth 100000 in
theorem mj_d_13054 : mj_c_13054.all (fun r => decide (decode prog_15_method_55_code r.1 = .ok (r.2.1, r.2.2))) = true := by decide +kernel
set_option maxRecDepth 100000 in
theorem mj_d_13055 : mj_c_13055.all (fun r => decide (decode prog_15_method_56_code r.1 = .ok (r.2.1, r.2.2))) = true := by decide +kernel
set_option maxRecDepth 100000 in
theorem mj_d_13056 : mj_c_13056.all (fun r => decide (decode prog_15_method_57_code r.1 = .ok (r.2.1, r.2.2))) = true := by decide +kernel
set_option maxRecDepth 100000 in
theorem mj_d_13057 : mj_c_13057.all (fun r => decide (decode prog_15_method_58_code r.1 = .ok (r.2.1, r.2.2))) = true := by decide +kernel
set_option maxRecDepth 100000 in
theorem mj_d_13058 : mj_c_13058.all (fun r => decide (decode prog_15_method_59_code r.1 = .ok (r.2.1, r.2.2))) = true := by decide +kernel
set_option maxRecDepth 100000 in
theorem mj_d_13059 : mj_c_13059.all (fun r => decide (decode prog_15_method_60_code r.1 = .ok (r.2.1, r.2.2))) = true := by decide +kernel
set_option maxRecDepth 100000 in
theorem mj_d_13060 : mj_c_13060.all (fun r => decide (decode prog_15_method_61_code r.1 = .ok (r.2.1, r.2.2))) = true := by decide +kernel
set_option maxRecDepth 100000 in
theorem mj_d_13061 : mj_c_13061.all (fun r => decide (decode prog_15_method_62_code r.1 = .ok (r.2.1, r.2.2))) = true := by decide +kernel
set_option maxRecDepth 100000 in
theorem mj_d_13062 : mj_c_13062.all (fun r => decide (decode prog_15_method_63_code r.1 = .ok (r.2.1, r.2.2))) = true := by decide +kernel
set_option maxRecDepth 100000 in
theorem mj_d_13063 : mj_c_13063.all (fun r => decide (decode prog_15_method_64_code r.1 = .ok (r.2.1, r.2.2))) = true := by decide +kernel
set_option maxRecDepth 100000 in
theorem mj_d_13064 : mj_c_13064.all (fun r => decide (decode prog_15_method_65_code r.1 = .ok (r.2.1, r.2.2))) = true := by decide +kernel
set_option maxRecDepth 100000 in
theorem mj_d_13065 : mj_c_13065.all (fun r => decide (decode prog_15_method_66_code r.1 = .ok (r.2.1, r.2.2))) = true := by decide +kernel
set_option maxRecDepth 100000 in
theorem mj_d_13066 : mj_c_13066.all (fun r => decide (decode prog_15_method_67_code r.1 = .ok (r.2.1, r.2.2))) = true := by decide +kernel
set_option maxRecDepth 100000 in
theorem mj_d_13067 : mj_c_13067.all (fun r => decide (decode prog_15_method_68_code r.1 = .ok (r.2.1, r.2.2))) = true := by decide +kernel
set_option maxRecDepth 100000 in
theorem mj_d_13068 : mj_c_13068.all (fun r => decide (decode prog_15_method_69_code r.1 = .ok (r.2.1, r.2.2))) = true := by decide +kernel
set_option maxRecDepth 100000 in
theorem mj_d_13069 : mj_c_13069.all (fun r => decide (decode prog_15_method_70_code r.1 = .ok (r.2.1, r.2.2))) = true := by decide +kernel
set_option maxRecDepth 100000 in
theorem mj_d_13070 : mj_c_13070.all (fun r => decide (decode prog_15_method_71_code r.1 = .ok (r.2.1, r.2.2))) = true := by decide +kernel
set_option maxRecDepth 100000 in
theorem mj_d_13071 : mj_c_13071.all (fun r => decide (decode prog_15_method_72_code r.1 = .ok (r.2.1, r.2.2))) = true := by decide +kernel
set_option maxRecDepth 100000 in
theorem mj_d_13072 : mj_c_13072.all (fun r => decide (decode prog_15_method_73_code r.1 = .ok (r.2.1, r.2.2))) = true := by decide +kernel
set_option maxRecDepth 100000 in
theorem mj_d_13073 : mj_c_13073.all (fun r => decide (decode prog_15_method_74_code r.1 = .ok (r.2.1, r.2.2))) = true := by decide +kernel
set_option maxRecDepth 100000 in
theorem mj_d_13074 : mj_c_13074.all (fun r => decide (decode prog_15_method_75_code r.1 = .ok (r.2.1, r.2.2))) = true := by decide +kernel
set_option maxRecDepth 100000 in
theorem mj_d_13075 : mj_c_13075.all (fun r => decide (decode prog_15_method_76_code r.1 = .ok (r.2.1, r.2.2))) = true := by decide +kernel
set_option maxRecDepth 100000 in
theorem mj_d_13076 : mj_c_13076.all (fun r => decide (decode prog_15_method_77_code r.1 = .ok (r.2.1, r.2.2))) = true := by decide +kernel
set_option maxRecDepth 100000 in
theorem mj_d_13077 : mj_c_13077.all (fun r => decide (decode prog_15_method_78_code r.1 = .ok (r.2.1, r.2.2))) = true := by decide +kernel
set_option maxRecDepth 100000 in
theorem mj_d_13078 : mj_c_13078.all (fun r => decide (decode prog_15_method_79_code r.1 = .ok (r.2.1, r.2.2))) = true := by decide +kernel
set_option maxRecDepth 100000 in
theorem mj_d_13079 : mj_c_13079.all (fun r => decide (decode prog_15_method_80_code r.1 = .ok (r.2.1, r.2.2))) = true := by decide +kernel
set_option maxRecDepth 100000 in
theorem mj_d_13080 : mj_c_13080.all (fun r => decide (decode prog_15_method_81_code r.1 = .ok (r.2.1, r.2.2))) = true := by decide +kernel
set_option maxRecDepth 100000 in
theorem mj_d_13081 : mj_c_13081.all (fun r => decide (decode prog_15_method_82_code r.1 = .ok (r.2.1, r.2.2))) = true := by decide +kernel
set_option maxRecDepth 100000 in
theorem mj_d_13082 : mj_c_13082.all (fun r => decide (decode prog_15_method_83_code r.1 = .ok (r.2.1, r.2.2))) = true := by decide +kernel
set_option maxRecDepth 100000 in
theorem mj_d_13083 : mj_c_13083.all (fun r => decide (decode prog_15_method_84_code r.1 = .ok (r.2.1, r.2.2))) = true := by decide +kernel
set_option maxRecDepth 100000 in
theorem mj_d_13084 : mj_c_13084.all (fun r => decide (decode prog_15_method_85_code r.1 = .ok (r.2.1, r.2.2))) = true := by decide +kernel
set_option maxRecDepth 100000 in
theorem mj_d_13085 : mj_c_13085.all (fun r => decide (decode prog_15_method_86_code r.1 = .ok (r.2.1, r.2.2))) = true := by decide +kernel
set_option maxRecDepth 100000 in
theorem mj_d_13086 : mj_c_13086.all (fun r => decide (decode prog_15_method_87_code r.1 = .ok (r.2.1, r.2.2))) = true := by decide +kernel
set_option maxRecDepth 100000 in
theorem mj_d_13087 : mj_c_13087.all (fun r => decide (decode prog_15_method_88_code r.1 = .ok (r.2.1, r.2.2))) = true := by decide +kernel
set_option maxRecDepth 100000 in
theorem mj_d_13088 : mj_c_13088.all (fun r => decide (decode prog_15_method_89_code r.1 = .ok (r.2.1, r.2.2))) = true := by decide +kernel
set_option maxRecDepth 100000 in
theorem mj_d_13089 : mj_c_13089.all (fun r => decide (decode prog_15_method_90_code r.1 = .ok (r.2.1, r.2.2))) = true := by decide +kernel
set_option maxRecDepth 100000 in
theorem mj_d_13090 : mj_c_13090.all (fun r => decide (decode prog_15_method_91_code r.1 = .ok (r.2.1, r.2.2))) = true := by decide +kernel
set_option maxRecDepth 100000 in
theorem mj_d_13091 : mj_c_13091.all (fun r => decide (decode prog_15_method_92_code r.1 = .ok (r.2.1, r.2.2))) = true := by decide +kernel
set_option maxRecDepth 100000 in
theorem mj_d_13092 : mj_c_13092.all (fun r => decide (decode prog_15_method_93_code r.1 = .ok (r.2.1, r.2.2))) = true := by decide +kernel
set_option maxRecDepth 100000 in
theorem mj_d_13093 : mj_c_13093.all (fun r => decide (decode prog_15_method_94_code r.1 = .ok (r.2.1, r.2.2))) = true := by decide +kernel
set_option maxRecDepth 100000 in
theorem mj_d_13094 : mj_c_13094.all (fun r => decide (decode prog_15_method_95_code r.1 = .ok (r.2.1, r.2.2))) = true := by decide +kernel
set_option maxRecDepth 100000 in
theorem mj_d_13095 : mj_c_13095.all (fun r => decide (decode prog_15_method_96_code r.1 = .ok (r.2.1, r.2.2))) = true := by decide +kernel
set_option maxRecDepth 100000 in
theorem mj_d_13096 : mj_c_13096.all (fun r => decide (decode prog_15_method_97_code r.1 = .ok (r.2.1, r.2.2))) = true := by decide +kernel
set_option maxRecDepth 100000 in
theorem mj_d_13097 : mj_c_13097.all (fun r => decide (decode prog_15_method_98_code r.1 = .ok (r.2.1, r.2.2))) = true := by decide +kernel
set_option maxRecDepth 100000 in
theorem mj_d_13098 : mj_c_13098.all (fun r => decide (decode prog_15_method_99_code r.1 = .ok (r.2.1, r.2.2))) = true := by decide +kernel
set_option maxRecDepth 100000 in
theorem mj_d_13099 : mj_c_13099.all (fun r => decide (decode prog_15_method_100_code r.1 = .ok (r.2.1, r.2.2))) = true := by decide +kernel
set_option maxRecDepth 100000 in
theorem mj_d_13100 : mj_c_13100.all (fun r => decide (decode prog_15_method_101_code r.1 = .ok (r.2.1, r.2.2))) = true := by decide +kernel
set_option maxRecDepth 100000 in
theorem mj_d_13101 : mj_c_13101.all (fun r => decide (decode prog_15_method_102_code r.1 = .ok (r.2.1, r.2.2))) = true := by decide +kernel
set_option maxRecDepth 100000 in
theorem mj_d_13102 : mj_c_13102.all (fun r => decide (decode prog_15_method_103_code r.1 = .ok (r.2.1, r.2.2))) = true := by decide +kernel
set_option maxRecDepth 100000 in
theorem mj_d_13103 : mj_c_13103.all (fun r => decide (decode prog_15_method_104_code r.1 = .ok (r.2.1, r.2.2))) = true := by decide +kernel
set_option maxRecDepth 100000 in
theorem mj_d_13104 : mj_c_13104.all (fun r => decide (decode prog_15_method_105_code r.1 = .ok (r.2.1, r.2.2))) = true := by decide +kernel
set_option maxRecDepth 100000 in
theorem mj_d_13105 : mj_c_13105.all (fun r => decide (decode prog_15_method_106_code r.1 = .ok (r.2.1, r.2.2))) = true := by decide +kernel
set_option maxRecDepth 100000 in
theorem mj_d_13106 : mj_c_13106.all (fun r => decide (decode prog_15_method_107_code r.1 = .ok (r.2.1, r.2.2))) = true := by decide +kernel
set_option maxRecDepth 100000 in
theorem mj_d_13107 : mj_c_13107.all (fun r => decide (decode prog_15_method_108_code r.1 = .ok (r.2.1, r.2.2))) = true := by decide +kernel
set_option maxRecDepth 100000 in
theorem mj_d_13108 : mj_c_13108.all (fun r => decide (decode prog_15_method_109_code r.1 = .ok (r.2.1, r.2.2))) = true := by decide +kernel
set_option maxRecDepth 100000 in
theorem mj_d_13109 : mj_c_13109.all (fun r => decide (decode prog_15_method_110_code r.1 = .ok (r.2.1, r.2.2))) = true := by decide +kernel
set_option maxRecDepth 100000 in
theorem mj_d_13110 : mj_c_13110.all (fun r => decide (decode prog_15_method_111_code r.1 = .ok (r.2.1, r.2.2))) = true := by decide +kernel
set_option maxRecDepth 100000 in
theorem mj_d_13111 : mj_c_13111.all (fun r => decide (decode prog_15_method_112_code r.1 = .ok (r.2.1, r.2.2))) = true := by decide +kernel
set_option maxRecDepth 100000 in
theorem mj_d_13112 : mj_c_13112.all (fun r => decide (decode prog_15_method_113_code r.1 = .ok (r.2.1, r.2.2))) = true := by decide +kernel
set_option maxRecDepth 100000 in
theorem mj_d_13113 : mj_c_13113.all (fun r => decide (decode prog_15_method_114_code r.1 = .ok (r.2.1, r.2.2))) = true := by decide +kernel
set_option maxRecDepth 100000 in
theorem mj_d_13114 : mj_c_13114.all (fun r => decide (decode prog_15_method_115_code r.1 = .ok (r.2.1, r.2.2))) = true := by decide +kernel
set_option maxRecDepth 100000 in
theorem mj_d_13115 : mj_c_13115.all (fun r => decide (decode prog_15_method_116_code r.1 = .ok (r.2.1, r.2.2))) = true := by decide +kernel
set_option maxRecDepth 100000 in
theorem mj_d_13116 : mj_c_13116.all (fun r => decide (decode prog_15_method_117_code r.1 = .ok (r.2.1, r.2.2))) = true := by decide +kernel
set_option maxRecDepth 100000 in
theorem mj_d_13117 : mj_c_13117.all (fun r => decide (decode prog_15_method_118_code r.1 = .ok (r.2.1, r.2.2))) = true := by decide +kernel
set_option maxRecDepth 100000 in
theorem mj_d_13118 : mj_c_13118.all (fun r => decide (decode prog_15_method_119_code r.1 = .ok (r.2.1, r.2.2))) = true := by decide +kernel
set_option maxRecDepth 100000 in
theorem mj_d_13119 : mj_c_13119.all (fun r => decide (decode prog_15_method_120_code r.1 = .ok (r.2.1, r.2.2))) = true := by decide +kernel
set_option maxRecDepth 100000 in
theorem mj_d_13120 : mj_c_13120.all (fun r => decide (decode prog_15_method_121_code r.1 = .ok (r.2.1, r.2.2))) = true := by decide +kernel
set_option maxRecDepth 100000 in
theorem mj_d_13121 : mj_c_13121.all (fun r => decide (decode prog_15_method_122_code r.1 = .ok (r.2.1, r.2.2))) = true := by decide +kernel
set_option maxRecDepth 100000 in
theorem mj_d_13122 : mj_c_13122.all (fun r => decide (decode prog_15_method_123_code r.1 = .ok (r.2.1, r.2.2))) = true := by decide +kernel
set_option maxRecDepth 100000 in
theorem mj_d_13123 : mj_c_13123.all (fun r => decide (decode prog_15_method_124_code r.1 = .ok (r.2.1, r.2.2))) = true := by decide +kernel
set_option maxRecDepth 100000 in
theorem mj_d_13124 : mj_c_13124.all (fun r => decide (decode prog_15_method_125_code r.1 = .ok (r.2.1, r.2.2))) = true := by decide +kernel
set_option maxRecDepth 100000 in
theorem mj_d_13125 : mj_c_13125.all (fun r => decide (decode prog_15_method_126_code r.1 = .ok (r.2.1, r.2.2))) = true := by decide +kernel
set_option maxRecDepth 100000 in
theorem mj_d_13126 : mj_c_13126.all (fun r => decide (decode prog_15_method_127_code r.1 = .ok (r.2.1, r.2.2))) = true := by decide +kernel
set_option maxRecDepth 100000 in
theorem mj_d_13127 : mj_c_13127.all (fun r => decide (decode prog_15_method_128_code r.1 = .ok (r.2.1, r.2.2))) = true := by decide +kernel
set_option maxRecDepth 100000 in
theorem mj_d_13128 : mj_c_13128.all (fun r => decide (decode prog_15_method_129_code r.1 = .ok (r.2.1, r.2.2))) = true := by decide +kernel
set_option maxRecDepth 100000 in
theorem mj_d_13129 : mj_c_13129.all (fun r => decide (decode prog_15_method_130_code r.1 = .ok (r.2.1, r.2.2))) = true := by decide +kernel
set_option maxRecDepth 100000 in
theorem mj_d_13130 : mj_c_13130.all (fun r => decide (decode prog_15_method_131_code r.1 = .ok (r.2.1, r.2.2))) = true := by decide +kernel
set_option maxRecDepth 100000 in
theorem mj_d_13131 : mj_c_13131.all (fun r => decide (decode prog_15_method_132_code r.1 = .ok (r.2.1, r.2.2))) = true := by decide +kernel
set_option maxRecDepth 100000 in
theorem mj_d_13132 : mj_c_13132.all (fun r => decide (decode prog_15_method_133_code r.1 = .ok (r.2.1, r.2.2))) = true := by decide +kernel
set_option maxRecDepth 100000 in
theorem mj_d_13133 : mj_c_13133.all (fun r => decide (decode prog_15_method_134_code r.1 = .ok (r.2.1, r.2.2))) = true := by decide +kernel
set_option maxRecDepth 100000 in
theorem mj_d_13134 : mj_c_13134.all (fun r => decide (decode prog_15_method_135_code r.1 = .ok (r.2.1, r.2.2))) = true := by decide +kernel
set_option maxRecDepth 100000 in
theorem mj_d_13135 : mj_c_13135.all (fun r => decide (decode prog_15_method_136_code r.1 = .ok (r.2.1, r.2.2))) = true := by decide +kernel
set_option maxRecDepth 100000 in
theorem mj_d_13136 : mj_c_13136.all (fun r => decide (decode prog_15_method_137_code r.1 = .ok (r.2.1, r.2.2))) = true := by decide +kernel
set_option maxRecDepth 100000 in
theorem mj_d_13137 : mj_c_13137.all (fun r => decide (decode prog_15_method_138_code r.1 = .ok (r.2.1, r.2.2))) = true := by decide +kernel
set_option maxRecDepth 100000 in
theorem mj_d_13138 : mj_c_13138.all (fun r => decide (decode prog_15_method_139_code r.1 = .ok (r.2.1, r.2.2))) = true := by decide +kernel
set_option maxRecDepth 100000 in
theorem mj_d_13139 : mj_c_13139.all (fun r => decide (decode prog_15_method_140_code r.1 = .ok (r.2.1, r.2.2))) = true := by decide +kernel
set_option maxRecDepth 100000 in
theorem mj_d_13140 : mj_c_13140.all (fun r => decide (decode prog_15_method_141_code r.1 = .ok (r.2.1, r.2.2))) = true := by decide +kernel
set_option maxRecDepth 100000 in
theorem mj_d_13141 : mj_c_13141.all (fun r => decide (decode prog_15_method_142_code r.1 = .ok (r.2.1, r.2.2))) = true := by decide +kernel
set_option maxRecDepth 100000 in
theorem mj_d_13142 : mj_c_13142.all (fun r => decide (decode prog_15_method_143_code r.1 = .ok (r.2.1, r.2.2))) = true := by decide +kernel
set_option maxRecDepth 100000 in
theorem mj_d_13143 : mj_c_13143.all (fun r => decide (decode prog_15_method_144_code r.1 = .ok (r.2.1, r.2.2))) = true := by decide +kernel
set_option maxRecDepth 100000 in
theorem mj_d_13144 : mj_c_13144.all (fun r => decide (decode prog_15_method_145_code r.1 = .ok (r.2.1, r.2.2))) = true := by decide +kernel
set_option maxRecDepth 100000 in
theorem mj_d_13145 : mj_c_13145.all (fun r => decide (decode prog_15_method_146_code r.1 = .ok (r.2.1, r.2.2))) = true := by decide +kernel
set_option maxRecDepth 100000 in
theorem mj_d_13146 : mj_c_13146.all (fun r => decide (decode prog_15_method_147_code r.1 = .ok (r.2.1, r.2.2))) = true := by decide +kernel
set_option maxRecDepth 100000 in
theorem mj_d_13147 : mj_c_13147.all (fun r => decide (decode prog_15_method_148_code r.1 = .ok (r.2.1, r.2.2))) = true := by decide +kernel
set_option maxRecDepth 100000 in
theorem mj_d_13148 : mj_c_13148.all (fun r => decide (decode prog_15_method_149_code r.1 = .ok (r.2.1, r.2.2))) = true := by decide +kernel
set_option maxRecDepth 100000 in
theorem mj_d_13149 : mj_c_13149.all (fun r => decide (decode prog_15_method_150_code r.1 = .ok (r.2.1, r.2.2))) = true := by decide +kernel
set_option maxRecDepth 100000 in
theorem mj_d_13150 : mj_c_13150.all (fun r => decide (decode prog_15_method_151_code r.1 = .ok (r.2.1, r.2.2))) = true := by decide +kernel
set_option maxRecDepth 100000 in
theorem mj_d_13151 : mj_c_13151.all (fun r => decide (decode prog_15_method_152_code r.1 = .ok (r.2.1, r.2.2))) = true := by decide +kernel
