/-! INSTRUCTIONS: all methods' lists together -/
def mj_bt (mi : Nat) : ByteArray := (mj_m mi).1
def mj_dok (c : Nat) : List (mj_MT × List (Nat × Instr × Nat)) → Prop
  | [] => True
  | x :: l => x.2.all (fun r => decide (decode x.1.1 r.1 = .ok (r.2.1, r.2.2))) = true ∧ mj_dok c l
theorem mj_dk_0 : mj_dok 0 ((mj_M 0).zip (mj_C 0)) := ⟨mj_d_0, trivial⟩
theorem mj_dk_1 : mj_dok 1 ((mj_M 1).zip (mj_C 1)) := ⟨mj_d_1000, mj_d_1001, mj_d_1002, mj_d_1003, mj_d_1004, mj_d_1005, mj_d_1006, mj_d_1007, mj_d_1008, mj_d_1009, mj_d_1010, mj_d_1011, mj_d_1012, trivial⟩
theorem mj_dk_2 : mj_dok 2 ((mj_M 2).zip (mj_C 2)) := ⟨mj_d_2000, mj_d_2001, mj_d_2002, mj_d_2003, mj_d_2004, mj_d_2005, mj_d_2006, mj_d_2007, mj_d_2008, mj_d_2009, mj_d_2010, mj_d_2011, mj_d_2012, mj_d_2013, mj_d_2014, trivial⟩
theorem mj_dk_3 : mj_dok 3 ((mj_M 3).zip (mj_C 3)) := ⟨mj_d_3000, mj_d_3001, mj_d_3002, mj_d_3003, mj_d_3004, mj_d_3005, trivial⟩
theorem mj_dk_4 : mj_dok 4 ((mj_M 4).zip (mj_C 4)) := ⟨mj_d_4000, mj_d_4001, trivial⟩
theorem mj_dk_5 : mj_dok 5 ((mj_M 5).zip (mj_C 5)) := ⟨mj_d_5000, mj_d_5001, trivial⟩
theorem mj_dk_6 : mj_dok 6 ((mj_M 6).zip (mj_C 6)) := ⟨mj_d_6000, mj_d_6001, mj_d_6002, mj_d_6003, mj_d_6004, mj_d_6005, mj_d_6006, mj_d_6007, mj_d_6008, mj_d_6009, mj_d_6010, mj_d_6011, mj_d_6012, mj_d_6013, mj_d_6014, mj_d_6015, mj_d_6016, trivial⟩
theorem mj_dk_7 : mj_dok 7 ((mj_M 7).zip (mj_C 7)) := ⟨mj_d_7000, mj_d_7001, mj_d_7002, mj_d_7003, mj_d_7004, mj_d_7005, mj_d_7006, mj_d_7007, mj_d_7008, mj_d_7009, mj_d_7010, mj_d_7011, mj_d_7012, mj_d_7013, mj_d_7014, mj_d_7015, mj_d_7016, mj_d_7017, mj_d_7018, mj_d_7019, mj_d_7020, mj_d_7021, mj_d_7022, mj_d_7023, mj_d_7024, mj_d_7025, trivial⟩
theorem mj_dk_8 : mj_dok 8 ((mj_M 8).zip (mj_C 8)) := ⟨mj_d_8000, mj_d_8001, mj_d_8002, mj_d_8003, mj_d_8004, mj_d_8005, mj_d_8006, mj_d_8007, mj_d_8008, mj_d_8009, mj_d_8010, mj_d_8011, mj_d_8012, mj_d_8013, mj_d_8014, mj_d_8015, mj_d_8016, mj_d_8017, mj_d_8018, mj_d_8019, mj_d_8020, mj_d_8021, mj_d_8022, mj_d_8023, mj_d_8024, mj_d_8025, mj_d_8026, mj_d_8027, mj_d_8028, mj_d_8029, trivial⟩
theorem mj_dk_9 : mj_dok 9 ((mj_M 9).zip (mj_C 9)) := ⟨mj_d_9000, mj_d_9001, mj_d_9002, mj_d_9003, mj_d_9004, mj_d_9005, mj_d_9006, mj_d_9007, mj_d_9008, mj_d_9009, mj_d_9010, mj_d_9011, mj_d_9012, mj_d_9013, trivial⟩
theorem mj_dk_10 : mj_dok 10 ((mj_M 10).zip (mj_C 10)) := ⟨mj_d_10000, trivial⟩
theorem mj_dk_11 : mj_dok 11 ((mj_M 11).zip (mj_C 11)) := ⟨mj_d_11000, mj_d_11001, mj_d_11002, mj_d_11003, mj_d_11004, mj_d_11005, mj_d_11006, mj_d_11007, mj_d_11008, mj_d_11009, mj_d_11010, mj_d_11011, mj_d_11012, mj_d_11013, trivial⟩
theorem mj_dk_12 : mj_dok 12 ((mj_M 12).zip (mj_C 12)) := ⟨mj_d_12000, mj_d_12001, mj_d_12002, mj_d_12003, mj_d_12004, mj_d_12005, mj_d_12006, mj_d_12007, mj_d_12008, mj_d_12009, mj_d_12010, mj_d_12011, mj_d_12012, mj_d_12013, mj_d_12014, mj_d_12015, mj_d_12016, mj_d_12017, mj_d_12018, mj_d_12019, mj_d_12020, mj_d_12021, mj_d_12022, mj_d_12023, mj_d_12024, mj_d_12025, mj_d_12026, mj_d_12027, mj_d_12028, mj_d_12029, mj_d_12030, mj_d_12031, mj_d_12032, mj_d_12033, mj_d_12034, mj_d_12035, mj_d_12036, mj_d_12037, mj_d_12038, mj_d_12039, mj_d_12040, mj_d_12041, mj_d_12042, mj_d_12043, mj_d_12044, mj_d_12045, trivial⟩
theorem mj_dk_13 : mj_dok 13 ((mj_M 13).zip (mj_C 13)) := ⟨mj_d_13000, mj_d_13001, mj_d_13002, mj_d_13003, mj_d_13004, mj_d_13005, mj_d_13006, mj_d_13007, mj_d_13008, mj_d_13009, mj_d_13010, mj_d_13011, mj_d_13012, mj_d_13013, mj_d_13014, mj_d_13015, mj_d_13016, mj_d_13017, mj_d_13018, mj_d_13019, mj_d_13020, mj_d_13021, mj_d_13022, mj_d_13023, mj_d_13024, mj_d_13025, mj_d_13026, mj_d_13027, mj_d_13028, mj_d_13029, mj_d_13030, mj_d_13031, mj_d_13032, mj_d_13033, mj_d_13034, mj_d_13035, mj_d_13036, mj_d_13037, mj_d_13038, mj_d_13039, mj_d_13040, mj_d_13041, mj_d_13042, mj_d_13043, mj_d_13044, mj_d_13045, mj_d_13046, mj_d_13047, mj_d_13048, mj_d_13049, mj_d_13050, mj_d_13051, mj_d_13052, mj_d_13053, mj_d_13054, mj_d_13055, mj_d_13056, mj_d_13057, mj_d_13058, mj_d_13059, mj_d_13060, mj_d_13061, mj_d_13062, mj_d_13063, mj_d_13064, mj_d_13065, mj_d_13066, mj_d_13067, mj_d_13068, mj_d_13069, mj_d_13070, mj_d_13071, mj_d_13072, mj_d_13073, mj_d_13074, mj_d_13075, mj_d_13076, mj_d_13077, mj_d_13078, mj_d_13079, mj_d_13080, mj_d_13081, mj_d_13082, mj_d_13083, mj_d_13084, mj_d_13085, mj_d_13086, mj_d_13087, mj_d_13088, mj_d_13089, mj_d_13090, mj_d_13091, mj_d_13092, mj_d_13093, mj_d_13094, mj_d_13095, mj_d_13096, mj_d_13097, mj_d_13098, mj_d_13099, mj_d_13100, mj_d_13101, mj_d_13102, mj_d_13103, mj_d_13104, mj_d_13105, mj_d_13106, mj_d_13107, mj_d_13108, mj_d_13109, mj_d_13110, mj_d_13111, mj_d_13112, mj_d_13113, mj_d_13114, mj_d_13115, mj_d_13116, mj_d_13117, mj_d_13118, mj_d_13119, mj_d_13120, mj_d_13121, mj_d_13122, mj_d_13123, mj_d_13124, mj_d_13125, mj_d_13126, mj_d_13127, mj_d_13128, mj_d_13129, mj_d_13130, mj_d_13131, mj_d_13132, mj_d_13133, mj_d_13134, mj_d_13135, mj_d_13136, mj_d_13137, mj_d_13138, mj_d_13139, mj_d_13140, mj_d_13141, mj_d_13142, mj_d_13143, mj_d_13144, mj_d_13145, mj_d_13146, mj_d_13147, mj_d_13148, mj_d_13149, mj_d_13150, mj_d_13151, trivial⟩
theorem mj_dk_14 : mj_dok 14 ((mj_M 14).zip (mj_C 14)) := ⟨mj_d_14000, mj_d_14001, mj_d_14002, mj_d_14003, mj_d_14004, mj_d_14005, mj_d_14006, mj_d_14007, mj_d_14008, mj_d_14009, mj_d_14010, mj_d_14011, mj_d_14012, mj_d_14013, mj_d_14014, mj_d_14015, mj_d_14016, mj_d_14017, mj_d_14018, trivial⟩
theorem mj_dk : ∀ c, c < 15 → mj_dok c ((mj_M c).zip (mj_C c))
  | 0, _ => mj_dk_0
  | 1, _ => mj_dk_1
  | 2, _ => mj_dk_2
  | 3, _ => mj_dk_3
  | 4, _ => mj_dk_4
  | 5, _ => mj_dk_5
  | 6, _ => mj_dk_6
  | 7, _ => mj_dk_7
  | 8, _ => mj_dk_8
  | 9, _ => mj_dk_9
  | 10, _ => mj_dk_10
  | 11, _ => mj_dk_11
  | 12, _ => mj_dk_12
  | 13, _ => mj_dk_13
  | 14, _ => mj_dk_14
  | n + 15, h => absurd h (by omega)
theorem mj_c_len : ∀ c, c < 15 → (mj_C c).length = (mj_M c).length := by decide +kernel
