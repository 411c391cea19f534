/-! INSTRUCTIONS: all methods' lists together -/
def rj_bt (mi : Nat) : ByteArray := (rj_m mi).1
def rj_dok (c : Nat) : List (mj_MT × List (Nat × Instr × Nat)) → Prop
  | [] => True
  | x :: l => x.2.all (fun r => decide (decode x.1.1 r.1 = .ok (r.2.1, r.2.2))) = true ∧ rj_dok c l
theorem rj_dk_0 : rj_dok 0 ((rj_M 0).zip (rj_C 0)) := ⟨rj_d_0, trivial⟩
theorem rj_dk_1 : rj_dok 1 ((rj_M 1).zip (rj_C 1)) := ⟨rj_d_1000, rj_d_1001, rj_d_1002, rj_d_1003, rj_d_1004, rj_d_1005, rj_d_1006, rj_d_1007, rj_d_1008, rj_d_1009, rj_d_1010, rj_d_1011, rj_d_1012, trivial⟩
theorem rj_dk_2 : rj_dok 2 ((rj_M 2).zip (rj_C 2)) := ⟨rj_d_2000, rj_d_2001, rj_d_2002, rj_d_2003, rj_d_2004, rj_d_2005, rj_d_2006, rj_d_2007, rj_d_2008, rj_d_2009, rj_d_2010, rj_d_2011, rj_d_2012, rj_d_2013, rj_d_2014, trivial⟩
theorem rj_dk_3 : rj_dok 3 ((rj_M 3).zip (rj_C 3)) := ⟨rj_d_3000, rj_d_3001, rj_d_3002, rj_d_3003, rj_d_3004, rj_d_3005, trivial⟩
theorem rj_dk_4 : rj_dok 4 ((rj_M 4).zip (rj_C 4)) := ⟨rj_d_4000, rj_d_4001, trivial⟩
theorem rj_dk_5 : rj_dok 5 ((rj_M 5).zip (rj_C 5)) := ⟨rj_d_5000, rj_d_5001, trivial⟩
theorem rj_dk_6 : rj_dok 6 ((rj_M 6).zip (rj_C 6)) := ⟨rj_d_6000, rj_d_6001, rj_d_6002, rj_d_6003, rj_d_6004, rj_d_6005, rj_d_6006, rj_d_6007, rj_d_6008, rj_d_6009, rj_d_6010, rj_d_6011, rj_d_6012, rj_d_6013, rj_d_6014, rj_d_6015, rj_d_6016, trivial⟩
theorem rj_dk_7 : rj_dok 7 ((rj_M 7).zip (rj_C 7)) := ⟨rj_d_7000, rj_d_7001, rj_d_7002, rj_d_7003, rj_d_7004, rj_d_7005, rj_d_7006, rj_d_7007, rj_d_7008, rj_d_7009, rj_d_7010, rj_d_7011, rj_d_7012, rj_d_7013, rj_d_7014, rj_d_7015, rj_d_7016, rj_d_7017, rj_d_7018, rj_d_7019, rj_d_7020, rj_d_7021, rj_d_7022, rj_d_7023, rj_d_7024, rj_d_7025, trivial⟩
theorem rj_dk_8 : rj_dok 8 ((rj_M 8).zip (rj_C 8)) := ⟨rj_d_8000, rj_d_8001, rj_d_8002, rj_d_8003, rj_d_8004, rj_d_8005, rj_d_8006, rj_d_8007, rj_d_8008, rj_d_8009, rj_d_8010, rj_d_8011, rj_d_8012, rj_d_8013, rj_d_8014, rj_d_8015, rj_d_8016, rj_d_8017, rj_d_8018, rj_d_8019, rj_d_8020, rj_d_8021, rj_d_8022, rj_d_8023, rj_d_8024, rj_d_8025, rj_d_8026, rj_d_8027, rj_d_8028, rj_d_8029, trivial⟩
theorem rj_dk_9 : rj_dok 9 ((rj_M 9).zip (rj_C 9)) := ⟨rj_d_9000, rj_d_9001, rj_d_9002, rj_d_9003, rj_d_9004, rj_d_9005, rj_d_9006, rj_d_9007, rj_d_9008, rj_d_9009, rj_d_9010, rj_d_9011, rj_d_9012, rj_d_9013, trivial⟩
theorem rj_dk_10 : rj_dok 10 ((rj_M 10).zip (rj_C 10)) := ⟨rj_d_10000, trivial⟩
theorem rj_dk_11 : rj_dok 11 ((rj_M 11).zip (rj_C 11)) := ⟨rj_d_11000, rj_d_11001, rj_d_11002, rj_d_11003, rj_d_11004, rj_d_11005, rj_d_11006, rj_d_11007, rj_d_11008, rj_d_11009, rj_d_11010, rj_d_11011, rj_d_11012, rj_d_11013, trivial⟩
theorem rj_dk_12 : rj_dok 12 ((rj_M 12).zip (rj_C 12)) := ⟨rj_d_12000, rj_d_12001, rj_d_12002, rj_d_12003, rj_d_12004, rj_d_12005, rj_d_12006, rj_d_12007, rj_d_12008, rj_d_12009, rj_d_12010, rj_d_12011, rj_d_12012, rj_d_12013, rj_d_12014, rj_d_12015, rj_d_12016, rj_d_12017, rj_d_12018, rj_d_12019, rj_d_12020, rj_d_12021, rj_d_12022, rj_d_12023, rj_d_12024, rj_d_12025, rj_d_12026, rj_d_12027, rj_d_12028, rj_d_12029, rj_d_12030, rj_d_12031, rj_d_12032, rj_d_12033, rj_d_12034, rj_d_12035, rj_d_12036, rj_d_12037, rj_d_12038, rj_d_12039, rj_d_12040, rj_d_12041, rj_d_12042, rj_d_12043, rj_d_12044, rj_d_12045, trivial⟩
theorem rj_dk_13 : rj_dok 13 ((rj_M 13).zip (rj_C 13)) := trivial
theorem rj_dk_14 : rj_dok 14 ((rj_M 14).zip (rj_C 14)) := ⟨rj_d_14000, rj_d_14001, rj_d_14002, rj_d_14003, rj_d_14004, rj_d_14005, rj_d_14006, rj_d_14007, rj_d_14008, rj_d_14009, rj_d_14010, rj_d_14011, rj_d_14012, rj_d_14013, rj_d_14014, rj_d_14015, trivial⟩
theorem rj_dk : ∀ c, c < 15 → rj_dok c ((rj_M c).zip (rj_C c))
  | 0, _ => rj_dk_0
  | 1, _ => rj_dk_1
  | 2, _ => rj_dk_2
  | 3, _ => rj_dk_3
  | 4, _ => rj_dk_4
  | 5, _ => rj_dk_5
  | 6, _ => rj_dk_6
  | 7, _ => rj_dk_7
  | 8, _ => rj_dk_8
  | 9, _ => rj_dk_9
  | 10, _ => rj_dk_10
  | 11, _ => rj_dk_11
  | 12, _ => rj_dk_12
  | 13, _ => rj_dk_13
  | 14, _ => rj_dk_14
  | n + 15, h => absurd h (by omega)
theorem rj_c_len : ∀ c, c < 15 → (rj_C c).length = (rj_M c).length := by decide +kernel
