/-! METHODS THAT ARE FUNCTIONS OF INTS (wip/tools/pure.py) -/
theorem q_ite {p : Prop} {inst : Decidable p} {a b : Int32} (ha : mj_b a) (hb : mj_b b) : mj_b (@ite Int32 p inst a b) := by
  by_cases h : p
  · rw [if_pos h]; exact ha
  · rw [if_neg h]; exact hb
theorem q_i2c_c (x : Int32) : mj_c ((x.toUInt32 % 65536).toInt32) := by
  have h1 : (x.toUInt32 % 65536).toNat < 65536 := by
    rw [UInt32.toNat_mod]
    exact Nat.mod_lt _ (by decide)
  have h2 : (x.toUInt32 % 65536).toInt32 = Int32.ofNat (x.toUInt32 % 65536).toNat := by
    apply Int32.toBitVec_inj.mp
    apply BitVec.eq_of_toNat_eq
    show (x.toUInt32 % 65536).toNat = (BitVec.ofNat 32 (x.toUInt32 % 65536).toNat).toNat
    rw [BitVec.toNat_ofNat, Nat.mod_eq_of_lt (by omega)]
  rw [h2]
  have h3 : (Int32.ofNat (x.toUInt32 % 65536).toNat).toInt = ((x.toUInt32 % 65536).toNat : Int) := nI_toInt (by omega)
  exact ⟨Int32.le_iff_toInt_le.mpr (by rw [h3]; exact Int.natCast_nonneg _), Int32.le_iff_toInt_le.mpr (by rw [h3]; show _ ≤ (65535 : Int); omega)⟩
/-- TQ$Foresight.has -/
def q_2003 (x0 x1 : Int32) : Int32 := if (((x0) >>> ((x1) &&& 31)) &&& (Int32.ofInt (1))) = ((0 : Int32)) then Int32.ofInt (0) else Int32.ofInt (1)
theorem q_2003_c (x0 x1 : Int32) (G : mj_G) {d : Nat} : mj_X (d + 0) 2003 0 [some (.inl (x0)), some (.inl (x1))] [] G (fun o G1 => ∃ v, o = .inl (some (.inl (v))) ∧ v = q_2003 x0 x1 ∧ G1 = G) := by
  refine mk_2003_0 (fun h0 => ?_) (fun h0 => ?_)
  · skip
    refine mk_2003_12 ?_
    refine mk_2003_13 ?_ ?_
    · first | exact Or.inl rfl | exact Or.inr rfl | (exact ⟨by decide, by decide⟩)
    · exact ⟨_, rfl, by unfold q_2003; rw [if_pos h0], rfl⟩
  · skip
    refine mk_2003_8 ?_
    refine mk_2003_13 ?_ ?_
    · first | exact Or.inl rfl | exact Or.inr rfl | (exact ⟨by decide, by decide⟩)
    · exact ⟨_, rfl, by unfold q_2003; rw [if_neg h0], rfl⟩
theorem q_2003_b (x0 x1 : Int32) : mj_b (q_2003 x0 x1) := by
  unfold q_2003
  repeat' (first | refine q_ite ?_ ?_ | exact Or.inl rfl | exact Or.inr rfl)
/-- TQ$Foresight.wanted -/
def q_2012 (x0 x1 x2 : Int32) : Int32 := if ((x0) &&& (x1)) = ((0 : Int32)) then if ((x0) &&& ((x1) ^^^ (Int32.ofInt (-1)))) = ((0 : Int32)) then (Int32.ofInt (0)) ||| (Int32.ofInt (0)) else (Int32.ofInt (0)) ||| ((Int8.ofInt (16)).toInt32) else if ((x0) &&& ((x1) ^^^ (Int32.ofInt (-1)))) = ((0 : Int32)) then (x2) ||| (Int32.ofInt (0)) else (x2) ||| ((Int8.ofInt (16)).toInt32)
theorem q_2012_c (x0 x1 x2 : Int32) (G : mj_G) {d : Nat} : mj_X (d + 0) 2012 0 [some (.inl (x0)), some (.inl (x1)), some (.inl (x2))] [] G (fun o G1 => ∃ v, o = .inl (some (.inl (v))) ∧ v = q_2012 x0 x1 x2 ∧ G1 = G) := by
  refine mk_2012_0 (fun h0 => ?_) (fun h0 => ?_)
  · skip
    refine mk_2012_10 ?_
    refine mk_2012_11 (fun h1 => ?_) (fun h1 => ?_)
    · skip
      refine mk_2012_24 ?_
      refine mk_2012_25 ?_
      exact ⟨_, rfl, by unfold q_2012; rw [if_pos h0, if_pos h1], rfl⟩
    · skip
      refine mk_2012_19 ?_
      refine mk_2012_25 ?_
      exact ⟨_, rfl, by unfold q_2012; rw [if_pos h0, if_neg h1], rfl⟩
  · skip
    refine mk_2012_6 ?_
    refine mk_2012_11 (fun h1 => ?_) (fun h1 => ?_)
    · skip
      refine mk_2012_24 ?_
      refine mk_2012_25 ?_
      exact ⟨_, rfl, by unfold q_2012; rw [if_neg h0, if_pos h1], rfl⟩
    · skip
      refine mk_2012_19 ?_
      refine mk_2012_25 ?_
      exact ⟨_, rfl, by unfold q_2012; rw [if_neg h0, if_neg h1], rfl⟩
/-- TQ$Foresight.mismatch -/
def q_2014 (x0 x1 : Int32) : Int32 := if (x0) = (x1) then if (x0) = (Int32.ofInt (2)) then if (Int32.ofInt (1)) = ((0 : Int32)) then (Int8.ofInt (16)).toInt32 else Int32.ofInt (0) else if (x0) = (Int32.ofInt (4)) then if (Int32.ofInt (1)) = ((0 : Int32)) then (Int8.ofInt (16)).toInt32 else Int32.ofInt (0) else if (Int32.ofInt (0)) = ((0 : Int32)) then (Int8.ofInt (16)).toInt32 else Int32.ofInt (0) else if (Int32.ofInt (0)) = ((0 : Int32)) then (Int8.ofInt (16)).toInt32 else Int32.ofInt (0)
theorem q_2014_c (x0 x1 : Int32) (G : mj_G) {d : Nat} : mj_X (d + 0) 2014 0 [some (.inl (x0)), some (.inl (x1)), none] [] G (fun o G1 => ∃ v, o = .inl (some (.inl (v))) ∧ v = q_2014 x0 x1 ∧ G1 = G) := by
  refine mk_2014_0 (fun h0 => ?_) (fun h0 => ?_)
  · skip
    refine mk_2014_19 ?_
    refine mk_2014_20 (fun h1 => ?_) (fun h1 => ?_)
    · skip
      refine mk_2014_29 ?_
      refine mk_2014_31 ?_
      exact ⟨_, rfl, by unfold q_2014; rw [if_neg h0, if_pos h1], rfl⟩
    · skip
      refine mk_2014_25 ?_
      refine mk_2014_31 ?_
      exact ⟨_, rfl, by unfold q_2014; rw [if_neg h0, if_neg h1], rfl⟩
  · skip
    refine mk_2014_5 (fun h1 => ?_) (fun h1 => ?_)
    · skip
      refine mk_2014_15 ?_
      refine mk_2014_20 (fun h2 => ?_) (fun h2 => ?_)
      · skip
        refine mk_2014_29 ?_
        refine mk_2014_31 ?_
        exact ⟨_, rfl, by unfold q_2014; rw [if_pos h0, if_pos h1, if_pos h2], rfl⟩
      · skip
        refine mk_2014_25 ?_
        refine mk_2014_31 ?_
        exact ⟨_, rfl, by unfold q_2014; rw [if_pos h0, if_pos h1, if_neg h2], rfl⟩
    · skip
      refine mk_2014_10 (fun h2 => ?_) (fun h2 => ?_)
      · skip
        refine mk_2014_19 ?_
        refine mk_2014_20 (fun h3 => ?_) (fun h3 => ?_)
        · skip
          refine mk_2014_29 ?_
          refine mk_2014_31 ?_
          exact ⟨_, rfl, by unfold q_2014; rw [if_pos h0, if_neg h1, if_neg h2, if_pos h3], rfl⟩
        · skip
          refine mk_2014_25 ?_
          refine mk_2014_31 ?_
          exact ⟨_, rfl, by unfold q_2014; rw [if_pos h0, if_neg h1, if_neg h2, if_neg h3], rfl⟩
      · skip
        refine mk_2014_15 ?_
        refine mk_2014_20 (fun h3 => ?_) (fun h3 => ?_)
        · skip
          refine mk_2014_29 ?_
          refine mk_2014_31 ?_
          exact ⟨_, rfl, by unfold q_2014; rw [if_pos h0, if_neg h1, if_pos h2, if_pos h3], rfl⟩
        · skip
          refine mk_2014_25 ?_
          refine mk_2014_31 ?_
          exact ⟨_, rfl, by unfold q_2014; rw [if_pos h0, if_neg h1, if_pos h2, if_neg h3], rfl⟩
/-- TQ$Reader.ends -/
def q_7007 (x0 x1 : Int32) : Int32 := if (x0) = ((Int8.ofInt (59)).toInt32) then if ((x1) &&& (Int32.ofInt (1))) = ((0 : Int32)) then if (x0) = ((Int8.ofInt (58)).toInt32) then if ((x1) &&& (Int32.ofInt (2))) = ((0 : Int32)) then Int32.ofInt (0) else Int32.ofInt (1) else Int32.ofInt (0) else Int32.ofInt (1) else if (x0) = ((Int8.ofInt (58)).toInt32) then if ((x1) &&& (Int32.ofInt (2))) = ((0 : Int32)) then Int32.ofInt (0) else Int32.ofInt (1) else Int32.ofInt (0)
theorem q_7007_c (x0 x1 : Int32) (G : mj_G) {d : Nat} : mj_X (d + 0) 7007 0 [some (.inl (x0)), some (.inl (x1))] [] G (fun o G1 => ∃ v, o = .inl (some (.inl (v))) ∧ v = q_7007 x0 x1 ∧ G1 = G) := by
  refine mk_7007_0 (fun h0 => ?_) (fun h0 => ?_)
  · skip
    refine mk_7007_12 (fun h1 => ?_) (fun h1 => ?_)
    · skip
      refine mk_7007_28 ?_
      refine mk_7007_29 ?_ ?_
      · first | exact Or.inl rfl | exact Or.inr rfl | (exact ⟨by decide, by decide⟩)
      · exact ⟨_, rfl, by unfold q_7007; rw [if_neg h0, if_neg h1], rfl⟩
    · skip
      refine mk_7007_18 (fun h2 => ?_) (fun h2 => ?_)
      · skip
        refine mk_7007_28 ?_
        refine mk_7007_29 ?_ ?_
        · first | exact Or.inl rfl | exact Or.inr rfl | (exact ⟨by decide, by decide⟩)
        · exact ⟨_, rfl, by unfold q_7007; rw [if_neg h0, if_pos h1, if_pos h2], rfl⟩
      · skip
        refine mk_7007_24 ?_
        refine mk_7007_29 ?_ ?_
        · first | exact Or.inl rfl | exact Or.inr rfl | (exact ⟨by decide, by decide⟩)
        · exact ⟨_, rfl, by unfold q_7007; rw [if_neg h0, if_pos h1, if_neg h2], rfl⟩
  · skip
    refine mk_7007_6 (fun h1 => ?_) (fun h1 => ?_)
    · skip
      refine mk_7007_24 ?_
      refine mk_7007_29 ?_ ?_
      · first | exact Or.inl rfl | exact Or.inr rfl | (exact ⟨by decide, by decide⟩)
      · exact ⟨_, rfl, by unfold q_7007; rw [if_pos h0, if_neg h1], rfl⟩
    · skip
      refine mk_7007_12 (fun h2 => ?_) (fun h2 => ?_)
      · skip
        refine mk_7007_28 ?_
        refine mk_7007_29 ?_ ?_
        · first | exact Or.inl rfl | exact Or.inr rfl | (exact ⟨by decide, by decide⟩)
        · exact ⟨_, rfl, by unfold q_7007; rw [if_pos h0, if_pos h1, if_neg h2], rfl⟩
      · skip
        refine mk_7007_18 (fun h3 => ?_) (fun h3 => ?_)
        · skip
          refine mk_7007_28 ?_
          refine mk_7007_29 ?_ ?_
          · first | exact Or.inl rfl | exact Or.inr rfl | (exact ⟨by decide, by decide⟩)
          · exact ⟨_, rfl, by unfold q_7007; rw [if_pos h0, if_pos h1, if_pos h2, if_pos h3], rfl⟩
        · skip
          refine mk_7007_24 ?_
          refine mk_7007_29 ?_ ?_
          · first | exact Or.inl rfl | exact Or.inr rfl | (exact ⟨by decide, by decide⟩)
          · exact ⟨_, rfl, by unfold q_7007; rw [if_pos h0, if_pos h1, if_pos h2, if_neg h3], rfl⟩
theorem q_7007_b (x0 x1 : Int32) : mj_b (q_7007 x0 x1) := by
  unfold q_7007
  repeat' (first | refine q_ite ?_ ?_ | exact Or.inl rfl | exact Or.inr rfl)
/-- TQ$Reader.isTag -/
def q_7012 (x0 : Int32) : Int32 := if (x0) = Int32.ofInt (33) then Int32.ofInt (1) else (if (x0) = Int32.ofInt (35) then Int32.ofInt (1) else (if (x0) = Int32.ofInt (36) then Int32.ofInt (1) else (if (x0) = Int32.ofInt (37) then Int32.ofInt (1) else (if (x0) = Int32.ofInt (38) then Int32.ofInt (1) else (if (x0) = Int32.ofInt (42) then Int32.ofInt (1) else (if (x0) = Int32.ofInt (43) then Int32.ofInt (1) else (if (x0) = Int32.ofInt (45) then Int32.ofInt (1) else (if (x0) = Int32.ofInt (61) then Int32.ofInt (1) else (if (x0) = Int32.ofInt (63) then Int32.ofInt (1) else (if (x0) = Int32.ofInt (64) then Int32.ofInt (1) else (if (x0) = Int32.ofInt (94) then Int32.ofInt (1) else (if (x0) = Int32.ofInt (107) then Int32.ofInt (1) else (if (x0) = Int32.ofInt (116) then Int32.ofInt (1) else (if (x0) = Int32.ofInt (126) then Int32.ofInt (1) else (Int32.ofInt (0))))))))))))))))
theorem q_7012_c (x0 : Int32) (G : mj_G) {d : Nat} : mj_X (d + 0) 7012 0 [some (.inl (x0))] [] G (fun o G1 => ∃ v, o = .inl (some (.inl (v))) ∧ v = q_7012 x0 ∧ G1 = G) := by
  refine mk_7012_0 (fun h0 => ?_) (fun h0 => ?_) (fun h0 => ?_) (fun h0 => ?_) (fun h0 => ?_) (fun h0 => ?_) (fun h0 => ?_) (fun h0 => ?_) (fun h0 => ?_) (fun h0 => ?_) (fun h0 => ?_) (fun h0 => ?_) (fun h0 => ?_) (fun h0 => ?_) (fun h0 => ?_) (fun n0_0 n0_1 n0_2 n0_3 n0_4 n0_5 n0_6 n0_7 n0_8 n0_9 n0_10 n0_11 n0_12 n0_13 n0_14 => ?_)
  · skip
    refine mk_7012_132 ?_ ?_
    · first | exact Or.inl rfl | exact Or.inr rfl | (exact ⟨by decide, by decide⟩)
    · exact ⟨_, rfl, by unfold q_7012; rw [if_pos h0], rfl⟩
  · skip
    refine mk_7012_132 ?_ ?_
    · first | exact Or.inl rfl | exact Or.inr rfl | (exact ⟨by decide, by decide⟩)
    · exact ⟨_, rfl, by unfold q_7012; rw [if_neg (by rw [h0]; decide), if_pos h0], rfl⟩
  · skip
    refine mk_7012_132 ?_ ?_
    · first | exact Or.inl rfl | exact Or.inr rfl | (exact ⟨by decide, by decide⟩)
    · exact ⟨_, rfl, by unfold q_7012; rw [if_neg (by rw [h0]; decide), if_neg (by rw [h0]; decide), if_pos h0], rfl⟩
  · skip
    refine mk_7012_132 ?_ ?_
    · first | exact Or.inl rfl | exact Or.inr rfl | (exact ⟨by decide, by decide⟩)
    · exact ⟨_, rfl, by unfold q_7012; rw [if_neg (by rw [h0]; decide), if_neg (by rw [h0]; decide), if_neg (by rw [h0]; decide), if_pos h0], rfl⟩
  · skip
    refine mk_7012_132 ?_ ?_
    · first | exact Or.inl rfl | exact Or.inr rfl | (exact ⟨by decide, by decide⟩)
    · exact ⟨_, rfl, by unfold q_7012; rw [if_neg (by rw [h0]; decide), if_neg (by rw [h0]; decide), if_neg (by rw [h0]; decide), if_neg (by rw [h0]; decide), if_pos h0], rfl⟩
  · skip
    refine mk_7012_132 ?_ ?_
    · first | exact Or.inl rfl | exact Or.inr rfl | (exact ⟨by decide, by decide⟩)
    · exact ⟨_, rfl, by unfold q_7012; rw [if_neg (by rw [h0]; decide), if_neg (by rw [h0]; decide), if_neg (by rw [h0]; decide), if_neg (by rw [h0]; decide), if_neg (by rw [h0]; decide), if_pos h0], rfl⟩
  · skip
    refine mk_7012_132 ?_ ?_
    · first | exact Or.inl rfl | exact Or.inr rfl | (exact ⟨by decide, by decide⟩)
    · exact ⟨_, rfl, by unfold q_7012; rw [if_neg (by rw [h0]; decide), if_neg (by rw [h0]; decide), if_neg (by rw [h0]; decide), if_neg (by rw [h0]; decide), if_neg (by rw [h0]; decide), if_neg (by rw [h0]; decide), if_pos h0], rfl⟩
  · skip
    refine mk_7012_132 ?_ ?_
    · first | exact Or.inl rfl | exact Or.inr rfl | (exact ⟨by decide, by decide⟩)
    · exact ⟨_, rfl, by unfold q_7012; rw [if_neg (by rw [h0]; decide), if_neg (by rw [h0]; decide), if_neg (by rw [h0]; decide), if_neg (by rw [h0]; decide), if_neg (by rw [h0]; decide), if_neg (by rw [h0]; decide), if_neg (by rw [h0]; decide), if_pos h0], rfl⟩
  · skip
    refine mk_7012_132 ?_ ?_
    · first | exact Or.inl rfl | exact Or.inr rfl | (exact ⟨by decide, by decide⟩)
    · exact ⟨_, rfl, by unfold q_7012; rw [if_neg (by rw [h0]; decide), if_neg (by rw [h0]; decide), if_neg (by rw [h0]; decide), if_neg (by rw [h0]; decide), if_neg (by rw [h0]; decide), if_neg (by rw [h0]; decide), if_neg (by rw [h0]; decide), if_neg (by rw [h0]; decide), if_pos h0], rfl⟩
  · skip
    refine mk_7012_132 ?_ ?_
    · first | exact Or.inl rfl | exact Or.inr rfl | (exact ⟨by decide, by decide⟩)
    · exact ⟨_, rfl, by unfold q_7012; rw [if_neg (by rw [h0]; decide), if_neg (by rw [h0]; decide), if_neg (by rw [h0]; decide), if_neg (by rw [h0]; decide), if_neg (by rw [h0]; decide), if_neg (by rw [h0]; decide), if_neg (by rw [h0]; decide), if_neg (by rw [h0]; decide), if_neg (by rw [h0]; decide), if_pos h0], rfl⟩
  · skip
    refine mk_7012_132 ?_ ?_
    · first | exact Or.inl rfl | exact Or.inr rfl | (exact ⟨by decide, by decide⟩)
    · exact ⟨_, rfl, by unfold q_7012; rw [if_neg (by rw [h0]; decide), if_neg (by rw [h0]; decide), if_neg (by rw [h0]; decide), if_neg (by rw [h0]; decide), if_neg (by rw [h0]; decide), if_neg (by rw [h0]; decide), if_neg (by rw [h0]; decide), if_neg (by rw [h0]; decide), if_neg (by rw [h0]; decide), if_neg (by rw [h0]; decide), if_pos h0], rfl⟩
  · skip
    refine mk_7012_132 ?_ ?_
    · first | exact Or.inl rfl | exact Or.inr rfl | (exact ⟨by decide, by decide⟩)
    · exact ⟨_, rfl, by unfold q_7012; rw [if_neg (by rw [h0]; decide), if_neg (by rw [h0]; decide), if_neg (by rw [h0]; decide), if_neg (by rw [h0]; decide), if_neg (by rw [h0]; decide), if_neg (by rw [h0]; decide), if_neg (by rw [h0]; decide), if_neg (by rw [h0]; decide), if_neg (by rw [h0]; decide), if_neg (by rw [h0]; decide), if_neg (by rw [h0]; decide), if_pos h0], rfl⟩
  · skip
    refine mk_7012_132 ?_ ?_
    · first | exact Or.inl rfl | exact Or.inr rfl | (exact ⟨by decide, by decide⟩)
    · exact ⟨_, rfl, by unfold q_7012; rw [if_neg (by rw [h0]; decide), if_neg (by rw [h0]; decide), if_neg (by rw [h0]; decide), if_neg (by rw [h0]; decide), if_neg (by rw [h0]; decide), if_neg (by rw [h0]; decide), if_neg (by rw [h0]; decide), if_neg (by rw [h0]; decide), if_neg (by rw [h0]; decide), if_neg (by rw [h0]; decide), if_neg (by rw [h0]; decide), if_neg (by rw [h0]; decide), if_pos h0], rfl⟩
  · skip
    refine mk_7012_132 ?_ ?_
    · first | exact Or.inl rfl | exact Or.inr rfl | (exact ⟨by decide, by decide⟩)
    · exact ⟨_, rfl, by unfold q_7012; rw [if_neg (by rw [h0]; decide), if_neg (by rw [h0]; decide), if_neg (by rw [h0]; decide), if_neg (by rw [h0]; decide), if_neg (by rw [h0]; decide), if_neg (by rw [h0]; decide), if_neg (by rw [h0]; decide), if_neg (by rw [h0]; decide), if_neg (by rw [h0]; decide), if_neg (by rw [h0]; decide), if_neg (by rw [h0]; decide), if_neg (by rw [h0]; decide), if_neg (by rw [h0]; decide), if_pos h0], rfl⟩
  · skip
    refine mk_7012_132 ?_ ?_
    · first | exact Or.inl rfl | exact Or.inr rfl | (exact ⟨by decide, by decide⟩)
    · exact ⟨_, rfl, by unfold q_7012; rw [if_neg (by rw [h0]; decide), if_neg (by rw [h0]; decide), if_neg (by rw [h0]; decide), if_neg (by rw [h0]; decide), if_neg (by rw [h0]; decide), if_neg (by rw [h0]; decide), if_neg (by rw [h0]; decide), if_neg (by rw [h0]; decide), if_neg (by rw [h0]; decide), if_neg (by rw [h0]; decide), if_neg (by rw [h0]; decide), if_neg (by rw [h0]; decide), if_neg (by rw [h0]; decide), if_neg (by rw [h0]; decide), if_pos h0], rfl⟩
  · skip
    refine mk_7012_134 ?_ ?_
    · first | exact Or.inl rfl | exact Or.inr rfl | (exact ⟨by decide, by decide⟩)
    · exact ⟨_, rfl, by unfold q_7012; rw [if_neg n0_0, if_neg n0_1, if_neg n0_2, if_neg n0_3, if_neg n0_4, if_neg n0_5, if_neg n0_6, if_neg n0_7, if_neg n0_8, if_neg n0_9, if_neg n0_10, if_neg n0_11, if_neg n0_12, if_neg n0_13, if_neg n0_14], rfl⟩
theorem q_7012_b (x0 : Int32) : mj_b (q_7012 x0) := by
  unfold q_7012
  repeat' (first | refine q_ite ?_ ?_ | exact Or.inl rfl | exact Or.inr rfl)
/-- TQ$Reader.isQuotable -/
def q_7025 (x0 : Int32) : Int32 := if (x0) = ((Int8.ofInt (39)).toInt32) then Int32.ofInt (0) else if (x0) = ((Int8.ofInt (123)).toInt32) then Int32.ofInt (0) else if (x0) = ((Int8.ofInt (125)).toInt32) then Int32.ofInt (0) else if (x0) = ((0 : Int32)) then Int32.ofInt (0) else Int32.ofInt (1)
theorem q_7025_c (x0 : Int32) (G : mj_G) {d : Nat} : mj_X (d + 0) 7025 0 [some (.inl (x0))] [] G (fun o G1 => ∃ v, o = .inl (some (.inl (v))) ∧ v = q_7025 x0 ∧ G1 = G) := by
  refine mk_7025_0 (fun h0 => ?_) (fun h0 => ?_)
  · skip
    refine mk_7025_26 ?_
    refine mk_7025_27 ?_ ?_
    · first | exact Or.inl rfl | exact Or.inr rfl | (exact ⟨by decide, by decide⟩)
    · exact ⟨_, rfl, by unfold q_7025; rw [if_pos h0], rfl⟩
  · skip
    refine mk_7025_6 (fun h1 => ?_) (fun h1 => ?_)
    · skip
      refine mk_7025_26 ?_
      refine mk_7025_27 ?_ ?_
      · first | exact Or.inl rfl | exact Or.inr rfl | (exact ⟨by decide, by decide⟩)
      · exact ⟨_, rfl, by unfold q_7025; rw [if_neg h0, if_pos h1], rfl⟩
    · skip
      refine mk_7025_12 (fun h2 => ?_) (fun h2 => ?_)
      · skip
        refine mk_7025_26 ?_
        refine mk_7025_27 ?_ ?_
        · first | exact Or.inl rfl | exact Or.inr rfl | (exact ⟨by decide, by decide⟩)
        · exact ⟨_, rfl, by unfold q_7025; rw [if_neg h0, if_neg h1, if_pos h2], rfl⟩
      · skip
        refine mk_7025_18 (fun h3 => ?_) (fun h3 => ?_)
        · skip
          refine mk_7025_26 ?_
          refine mk_7025_27 ?_ ?_
          · first | exact Or.inl rfl | exact Or.inr rfl | (exact ⟨by decide, by decide⟩)
          · exact ⟨_, rfl, by unfold q_7025; rw [if_neg h0, if_neg h1, if_neg h2, if_pos h3], rfl⟩
        · skip
          refine mk_7025_22 ?_
          refine mk_7025_27 ?_ ?_
          · first | exact Or.inl rfl | exact Or.inr rfl | (exact ⟨by decide, by decide⟩)
          · exact ⟨_, rfl, by unfold q_7025; rw [if_neg h0, if_neg h1, if_neg h2, if_neg h3], rfl⟩
theorem q_7025_b (x0 : Int32) : mj_b (q_7025 x0) := by
  unfold q_7025
  repeat' (first | refine q_ite ?_ ?_ | exact Or.inl rfl | exact Or.inr rfl)
/-- TQ.isLetter -/
def q_12029 (x0 : Int32) : Int32 := if (x0) < ((Int8.ofInt (97)).toInt32) then Int32.ofInt (0) else if ((Int8.ofInt (122)).toInt32) < (x0) then Int32.ofInt (0) else Int32.ofInt (1)
theorem q_12029_c (x0 : Int32) (G : mj_G) {d : Nat} : mj_X (d + 0) 12029 0 [some (.inl (x0))] [] G (fun o G1 => ∃ v, o = .inl (some (.inl (v))) ∧ v = q_12029 x0 ∧ G1 = G) := by
  refine mk_12029_0 (fun h0 => ?_) (fun h0 => ?_)
  · skip
    refine mk_12029_16 ?_
    refine mk_12029_17 ?_ ?_
    · first | exact Or.inl rfl | exact Or.inr rfl | (exact ⟨by decide, by decide⟩)
    · exact ⟨_, rfl, by unfold q_12029; rw [if_pos h0], rfl⟩
  · skip
    refine mk_12029_6 (fun h1 => ?_) (fun h1 => ?_)
    · skip
      refine mk_12029_16 ?_
      refine mk_12029_17 ?_ ?_
      · first | exact Or.inl rfl | exact Or.inr rfl | (exact ⟨by decide, by decide⟩)
      · exact ⟨_, rfl, by unfold q_12029; rw [if_neg h0, if_pos h1], rfl⟩
    · skip
      refine mk_12029_12 ?_
      refine mk_12029_17 ?_ ?_
      · first | exact Or.inl rfl | exact Or.inr rfl | (exact ⟨by decide, by decide⟩)
      · exact ⟨_, rfl, by unfold q_12029; rw [if_neg h0, if_neg h1], rfl⟩
theorem q_12029_b (x0 : Int32) : mj_b (q_12029 x0) := by
  unfold q_12029
  repeat' (first | refine q_ite ?_ ?_ | exact Or.inl rfl | exact Or.inr rfl)
/-- TQ.isDigit -/
def q_12030 (x0 : Int32) : Int32 := if (x0) < ((Int8.ofInt (48)).toInt32) then Int32.ofInt (0) else if ((Int8.ofInt (57)).toInt32) < (x0) then Int32.ofInt (0) else Int32.ofInt (1)
theorem q_12030_c (x0 : Int32) (G : mj_G) {d : Nat} : mj_X (d + 0) 12030 0 [some (.inl (x0))] [] G (fun o G1 => ∃ v, o = .inl (some (.inl (v))) ∧ v = q_12030 x0 ∧ G1 = G) := by
  refine mk_12030_0 (fun h0 => ?_) (fun h0 => ?_)
  · skip
    refine mk_12030_16 ?_
    refine mk_12030_17 ?_ ?_
    · first | exact Or.inl rfl | exact Or.inr rfl | (exact ⟨by decide, by decide⟩)
    · exact ⟨_, rfl, by unfold q_12030; rw [if_pos h0], rfl⟩
  · skip
    refine mk_12030_6 (fun h1 => ?_) (fun h1 => ?_)
    · skip
      refine mk_12030_16 ?_
      refine mk_12030_17 ?_ ?_
      · first | exact Or.inl rfl | exact Or.inr rfl | (exact ⟨by decide, by decide⟩)
      · exact ⟨_, rfl, by unfold q_12030; rw [if_neg h0, if_pos h1], rfl⟩
    · skip
      refine mk_12030_12 ?_
      refine mk_12030_17 ?_ ?_
      · first | exact Or.inl rfl | exact Or.inr rfl | (exact ⟨by decide, by decide⟩)
      · exact ⟨_, rfl, by unfold q_12030; rw [if_neg h0, if_neg h1], rfl⟩
theorem q_12030_b (x0 : Int32) : mj_b (q_12030 x0) := by
  unfold q_12030
  repeat' (first | refine q_ite ?_ ?_ | exact Or.inl rfl | exact Or.inr rfl)
/-- TQ.lead -/
def q_12033 (x0 x1 : Int32) : Int32 := if (x0) = Int32.ofInt (0) then if (x1) = ((Int8.ofInt (60)).toInt32) then Int32.ofInt (1) else Int32.ofInt (0) else (if (x0) = Int32.ofInt (1) then if (x1) = ((Int8.ofInt (62)).toInt32) then Int32.ofInt (0) else if (x1) = ((Int8.ofInt (115)).toInt32) then Int32.ofInt (4) else Int32.ofInt (2) else (if (x0) = Int32.ofInt (2) then if (x1) = ((Int8.ofInt (62)).toInt32) then Int32.ofInt (0) else if (x1) = ((Int8.ofInt (34)).toInt32) then Int32.ofInt (3) else Int32.ofInt (2) else (if (x0) = Int32.ofInt (3) then if (x1) = ((Int8.ofInt (34)).toInt32) then Int32.ofInt (2) else Int32.ofInt (3) else (if (x0) = Int32.ofInt (4) then if (x1) = ((Int8.ofInt (62)).toInt32) then (Int8.ofInt (6)).toInt32 else if (x1) = ((Int8.ofInt (34)).toInt32) then Int32.ofInt (5) else Int32.ofInt (4) else (if (x0) = Int32.ofInt (5) then if (x1) = ((Int8.ofInt (34)).toInt32) then Int32.ofInt (4) else Int32.ofInt (5) else (if (x0) = Int32.ofInt (6) then if (x1) = ((Int8.ofInt (39)).toInt32) then (Int8.ofInt (7)).toInt32 else if (x1) = ((Int8.ofInt (60)).toInt32) then Int32.ofInt (1) else (Int8.ofInt (6)).toInt32 else (if (x1) = ((Int8.ofInt (39)).toInt32) then (Int8.ofInt (6)).toInt32 else (Int8.ofInt (7)).toInt32)))))))
theorem q_12033_c (x0 x1 : Int32) (G : mj_G) {d : Nat} : mj_X (d + 0) 12033 0 [some (.inl (x0)), some (.inl (x1))] [] G (fun o G1 => ∃ v, o = .inl (some (.inl (v))) ∧ v = q_12033 x0 x1 ∧ G1 = G) := by
  refine mk_12033_0 (fun h0 => ?_) (fun h0 => ?_) (fun h0 => ?_) (fun h0 => ?_) (fun h0 => ?_) (fun h0 => ?_) (fun h0 => ?_) (fun n0_0 n0_1 n0_2 n0_3 n0_4 n0_5 n0_6 => ?_)
  · skip
    refine mk_12033_44 (fun h1 => ?_) (fun h1 => ?_)
    · skip
      refine mk_12033_54 ?_
      refine mk_12033_55 ?_
      exact ⟨_, rfl, by unfold q_12033; rw [if_pos h0, if_neg h1], rfl⟩
    · skip
      refine mk_12033_50 ?_
      refine mk_12033_55 ?_
      exact ⟨_, rfl, by unfold q_12033; rw [if_pos h0, if_pos h1], rfl⟩
  · skip
    refine mk_12033_56 (fun h1 => ?_) (fun h1 => ?_)
    · skip
      refine mk_12033_66 (fun h2 => ?_) (fun h2 => ?_)
      · skip
        refine mk_12033_76 ?_
        refine mk_12033_77 ?_
        exact ⟨_, rfl, by unfold q_12033; rw [if_neg (by rw [h0]; decide), if_pos h0, if_neg h1, if_neg h2], rfl⟩
      · skip
        refine mk_12033_72 ?_
        refine mk_12033_77 ?_
        exact ⟨_, rfl, by unfold q_12033; rw [if_neg (by rw [h0]; decide), if_pos h0, if_neg h1, if_pos h2], rfl⟩
    · skip
      refine mk_12033_62 ?_
      refine mk_12033_77 ?_
      exact ⟨_, rfl, by unfold q_12033; rw [if_neg (by rw [h0]; decide), if_pos h0, if_pos h1], rfl⟩
  · skip
    refine mk_12033_78 (fun h1 => ?_) (fun h1 => ?_)
    · skip
      refine mk_12033_88 (fun h2 => ?_) (fun h2 => ?_)
      · skip
        refine mk_12033_98 ?_
        refine mk_12033_99 ?_
        exact ⟨_, rfl, by unfold q_12033; rw [if_neg (by rw [h0]; decide), if_neg (by rw [h0]; decide), if_pos h0, if_neg h1, if_neg h2], rfl⟩
      · skip
        refine mk_12033_94 ?_
        refine mk_12033_99 ?_
        exact ⟨_, rfl, by unfold q_12033; rw [if_neg (by rw [h0]; decide), if_neg (by rw [h0]; decide), if_pos h0, if_neg h1, if_pos h2], rfl⟩
    · skip
      refine mk_12033_84 ?_
      refine mk_12033_99 ?_
      exact ⟨_, rfl, by unfold q_12033; rw [if_neg (by rw [h0]; decide), if_neg (by rw [h0]; decide), if_pos h0, if_pos h1], rfl⟩
  · skip
    refine mk_12033_100 (fun h1 => ?_) (fun h1 => ?_)
    · skip
      refine mk_12033_110 ?_
      refine mk_12033_111 ?_
      exact ⟨_, rfl, by unfold q_12033; rw [if_neg (by rw [h0]; decide), if_neg (by rw [h0]; decide), if_neg (by rw [h0]; decide), if_pos h0, if_neg h1], rfl⟩
    · skip
      refine mk_12033_106 ?_
      refine mk_12033_111 ?_
      exact ⟨_, rfl, by unfold q_12033; rw [if_neg (by rw [h0]; decide), if_neg (by rw [h0]; decide), if_neg (by rw [h0]; decide), if_pos h0, if_pos h1], rfl⟩
  · skip
    refine mk_12033_112 (fun h1 => ?_) (fun h1 => ?_)
    · skip
      refine mk_12033_123 (fun h2 => ?_) (fun h2 => ?_)
      · skip
        refine mk_12033_133 ?_
        refine mk_12033_134 ?_
        exact ⟨_, rfl, by unfold q_12033; rw [if_neg (by rw [h0]; decide), if_neg (by rw [h0]; decide), if_neg (by rw [h0]; decide), if_neg (by rw [h0]; decide), if_pos h0, if_neg h1, if_neg h2], rfl⟩
      · skip
        refine mk_12033_129 ?_
        refine mk_12033_134 ?_
        exact ⟨_, rfl, by unfold q_12033; rw [if_neg (by rw [h0]; decide), if_neg (by rw [h0]; decide), if_neg (by rw [h0]; decide), if_neg (by rw [h0]; decide), if_pos h0, if_neg h1, if_pos h2], rfl⟩
    · skip
      refine mk_12033_118 ?_
      refine mk_12033_134 ?_
      exact ⟨_, rfl, by unfold q_12033; rw [if_neg (by rw [h0]; decide), if_neg (by rw [h0]; decide), if_neg (by rw [h0]; decide), if_neg (by rw [h0]; decide), if_pos h0, if_pos h1], rfl⟩
  · skip
    refine mk_12033_135 (fun h1 => ?_) (fun h1 => ?_)
    · skip
      refine mk_12033_145 ?_
      refine mk_12033_146 ?_
      exact ⟨_, rfl, by unfold q_12033; rw [if_neg (by rw [h0]; decide), if_neg (by rw [h0]; decide), if_neg (by rw [h0]; decide), if_neg (by rw [h0]; decide), if_neg (by rw [h0]; decide), if_pos h0, if_neg h1], rfl⟩
    · skip
      refine mk_12033_141 ?_
      refine mk_12033_146 ?_
      exact ⟨_, rfl, by unfold q_12033; rw [if_neg (by rw [h0]; decide), if_neg (by rw [h0]; decide), if_neg (by rw [h0]; decide), if_neg (by rw [h0]; decide), if_neg (by rw [h0]; decide), if_pos h0, if_pos h1], rfl⟩
  · skip
    refine mk_12033_147 (fun h1 => ?_) (fun h1 => ?_)
    · skip
      refine mk_12033_158 (fun h2 => ?_) (fun h2 => ?_)
      · skip
        refine mk_12033_168 ?_
        refine mk_12033_170 ?_
        exact ⟨_, rfl, by unfold q_12033; rw [if_neg (by rw [h0]; decide), if_neg (by rw [h0]; decide), if_neg (by rw [h0]; decide), if_neg (by rw [h0]; decide), if_neg (by rw [h0]; decide), if_neg (by rw [h0]; decide), if_pos h0, if_neg h1, if_neg h2], rfl⟩
      · skip
        refine mk_12033_164 ?_
        refine mk_12033_170 ?_
        exact ⟨_, rfl, by unfold q_12033; rw [if_neg (by rw [h0]; decide), if_neg (by rw [h0]; decide), if_neg (by rw [h0]; decide), if_neg (by rw [h0]; decide), if_neg (by rw [h0]; decide), if_neg (by rw [h0]; decide), if_pos h0, if_neg h1, if_pos h2], rfl⟩
    · skip
      refine mk_12033_153 ?_
      refine mk_12033_170 ?_
      exact ⟨_, rfl, by unfold q_12033; rw [if_neg (by rw [h0]; decide), if_neg (by rw [h0]; decide), if_neg (by rw [h0]; decide), if_neg (by rw [h0]; decide), if_neg (by rw [h0]; decide), if_neg (by rw [h0]; decide), if_pos h0, if_pos h1], rfl⟩
  · skip
    refine mk_12033_171 (fun h1 => ?_) (fun h1 => ?_)
    · skip
      refine mk_12033_182 ?_
      refine mk_12033_184 ?_
      exact ⟨_, rfl, by unfold q_12033; rw [if_neg n0_0, if_neg n0_1, if_neg n0_2, if_neg n0_3, if_neg n0_4, if_neg n0_5, if_neg n0_6, if_neg h1], rfl⟩
    · skip
      refine mk_12033_177 ?_
      refine mk_12033_184 ?_
      exact ⟨_, rfl, by unfold q_12033; rw [if_neg n0_0, if_neg n0_1, if_neg n0_2, if_neg n0_3, if_neg n0_4, if_neg n0_5, if_neg n0_6, if_pos h1], rfl⟩
/-- TQ.entityOf -/
def q_12036 (x0 : Int32) : Int32 := if (x0) = Int32.ofInt (34) then (Int8.ofInt (113)).toInt32 else (if (x0) = Int32.ofInt (38) then (Int8.ofInt (97)).toInt32 else (if (x0) = Int32.ofInt (60) then (Int8.ofInt (108)).toInt32 else (if (x0) = Int32.ofInt (62) then (Int8.ofInt (103)).toInt32 else (Int32.ofInt (0)))))
theorem q_12036_c (x0 : Int32) (G : mj_G) {d : Nat} : mj_X (d + 0) 12036 0 [some (.inl (x0))] [] G (fun o G1 => ∃ v, o = .inl (some (.inl (v))) ∧ v = q_12036 x0 ∧ G1 = G) := by
  refine mk_12036_0 (fun h0 => ?_) (fun h0 => ?_) (fun h0 => ?_) (fun h0 => ?_) (fun n0_0 n0_1 n0_2 n0_3 => ?_)
  · skip
    refine mk_12036_53 ?_ ?_
    · first | exact Or.inl rfl | exact Or.inr rfl | exact q_i2c_c _ | (exact ⟨by decide, by decide⟩)
    · exact ⟨_, rfl, by unfold q_12036; rw [if_pos h0], rfl⟩
  · skip
    refine mk_12036_50 ?_ ?_
    · first | exact Or.inl rfl | exact Or.inr rfl | exact q_i2c_c _ | (exact ⟨by decide, by decide⟩)
    · exact ⟨_, rfl, by unfold q_12036; rw [if_neg (by rw [h0]; decide), if_pos h0], rfl⟩
  · skip
    refine mk_12036_44 ?_ ?_
    · first | exact Or.inl rfl | exact Or.inr rfl | exact q_i2c_c _ | (exact ⟨by decide, by decide⟩)
    · exact ⟨_, rfl, by unfold q_12036; rw [if_neg (by rw [h0]; decide), if_neg (by rw [h0]; decide), if_pos h0], rfl⟩
  · skip
    refine mk_12036_47 ?_ ?_
    · first | exact Or.inl rfl | exact Or.inr rfl | exact q_i2c_c _ | (exact ⟨by decide, by decide⟩)
    · exact ⟨_, rfl, by unfold q_12036; rw [if_neg (by rw [h0]; decide), if_neg (by rw [h0]; decide), if_neg (by rw [h0]; decide), if_pos h0], rfl⟩
  · skip
    refine mk_12036_56 ?_ ?_
    · first | exact Or.inl rfl | exact Or.inr rfl | exact q_i2c_c _ | (exact ⟨by decide, by decide⟩)
    · exact ⟨_, rfl, by unfold q_12036; rw [if_neg n0_0, if_neg n0_1, if_neg n0_2, if_neg n0_3], rfl⟩
/-- TQ.literalCell -/
def q_12037 (x0 x1 : Int32) : Int32 := (((x0) ||| ((x0) <<< (((Int8.ofInt (7)).toInt32) &&& 31))) ||| ((Int16.ofInt (16384)).toInt32)) ||| ((x1) <<< (((Int8.ofInt (18)).toInt32) &&& 31))
theorem q_12037_c (x0 x1 : Int32) (G : mj_G) {d : Nat} : mj_X (d + 0) 12037 0 [some (.inl (x0)), some (.inl (x1))] [] G (fun o G1 => ∃ v, o = .inl (some (.inl (v))) ∧ v = q_12037 x0 x1 ∧ G1 = G) := by
  refine mk_12037_0 rfl rfl ?_
  exact ⟨_, rfl, by unfold q_12037; rfl, rfl⟩
/-- TQ.safeCell -/
def q_12038 (x0 x1 : Int32) : Int32 := ((x0) ||| ((x0) <<< (((Int8.ofInt (7)).toInt32) &&& 31))) ||| ((x1) <<< (((Int8.ofInt (18)).toInt32) &&& 31))
theorem q_12038_c (x0 x1 : Int32) (G : mj_G) {d : Nat} : mj_X (d + 0) 12038 0 [some (.inl (x0)), some (.inl (x1))] [] G (fun o G1 => ∃ v, o = .inl (some (.inl (v))) ∧ v = q_12038 x0 x1 ∧ G1 = G) := by
  refine mk_12038_0 rfl rfl ?_
  exact ⟨_, rfl, by unfold q_12038; rfl, rfl⟩
/-- TQ.escapedCell -/
def q_12039 (x0 x1 x2 x3 : Int32) : Int32 := ((((x0) ||| ((x1) <<< (((Int8.ofInt (7)).toInt32) &&& 31))) ||| ((32768 : Int32))) ||| ((x2) <<< (((Int8.ofInt (16)).toInt32) &&& 31))) ||| ((x3) <<< (((Int8.ofInt (18)).toInt32) &&& 31))
theorem q_12039_c (x0 x1 x2 x3 : Int32) (G : mj_G) {d : Nat} : mj_X (d + 0) 12039 0 [some (.inl (x0)), some (.inl (x1)), some (.inl (x2)), some (.inl (x3))] [] G (fun o G1 => ∃ v, o = .inl (some (.inl (v))) ∧ v = q_12039 x0 x1 x2 x3 ∧ G1 = G) := by
  refine mk_12039_0 rfl rfl rfl ?_
  exact ⟨_, rfl, by unfold q_12039; rfl, rfl⟩
/-- TQ.signOf -/
def q_12040 (x0 : Int32) : Int32 := (((x0) &&& ((Int8.ofInt (127)).toInt32)).toUInt32 % 65536).toInt32
theorem q_12040_c (x0 : Int32) (G : mj_G) {d : Nat} : mj_X (d + 0) 12040 0 [some (.inl (x0))] [] G (fun o G1 => ∃ v, o = .inl (some (.inl (v))) ∧ v = q_12040 x0 ∧ G1 = G) := by
  refine mk_12040_0 rfl ?_ ?_
  · first | exact Or.inl rfl | exact Or.inr rfl | exact q_i2c_c _ | (exact ⟨by decide, by decide⟩)
  · exact ⟨_, rfl, by unfold q_12040; rfl, rfl⟩
/-- TQ.originOf -/
def q_12041 (x0 : Int32) : Int32 := ((((x0) >>> (((Int8.ofInt (7)).toInt32) &&& 31)) &&& ((Int8.ofInt (127)).toInt32)).toUInt32 % 65536).toInt32
theorem q_12041_c (x0 : Int32) (G : mj_G) {d : Nat} : mj_X (d + 0) 12041 0 [some (.inl (x0))] [] G (fun o G1 => ∃ v, o = .inl (some (.inl (v))) ∧ v = q_12041 x0 ∧ G1 = G) := by
  refine mk_12041_0 rfl ?_ ?_
  · first | exact Or.inl rfl | exact Or.inr rfl | exact q_i2c_c _ | (exact ⟨by decide, by decide⟩)
  · exact ⟨_, rfl, by unfold q_12041; rfl, rfl⟩
/-- TQ.isLiteralBlank -/
def q_12042 (x0 : Int32) : Int32 := if (((x0) >>> (((Int8.ofInt (14)).toInt32) &&& 31)) &&& (Int32.ofInt (1))) = ((0 : Int32)) then Int32.ofInt (0) else if (q_12040 (x0)) = ((Int8.ofInt (32)).toInt32) then Int32.ofInt (1) else Int32.ofInt (0)
theorem q_12042_c (x0 : Int32) (G : mj_G) {d : Nat} : mj_X (d + 1) 12042 0 [some (.inl (x0))] [] G (fun o G1 => ∃ v, o = .inl (some (.inl (v))) ∧ v = q_12042 x0 ∧ G1 = G) := by
  refine mk_12042_0 rfl (fun h0 => ?_) (fun h0 => ?_)
  · skip
    refine mk_12042_22 ?_
    refine mk_12042_23 ?_ ?_
    · first | exact Or.inl rfl | exact Or.inr rfl | (exact ⟨by decide, by decide⟩)
    · exact ⟨_, rfl, by unfold q_12042; rw [if_pos h0], rfl⟩
  · skip
    refine mk_12042_9 ?_
    refine mc_12042_10 (R := fun v G1 => v = q_12040 _ ∧ G1 = G) (q_12040_c _ G) (fun v G1 hv => ?_)
    obtain ⟨hv, hG⟩ := hv
    rw [hG]
    clear hG
    subst hv
    refine mk_12042_13 (fun h1 => ?_) (fun h1 => ?_)
    · skip
      refine mk_12042_22 ?_
      refine mk_12042_23 ?_ ?_
      · first | exact Or.inl rfl | exact Or.inr rfl | (exact ⟨by decide, by decide⟩)
      · exact ⟨_, rfl, by unfold q_12042; rw [if_neg h0, if_neg h1], rfl⟩
    · skip
      refine mk_12042_18 ?_
      refine mk_12042_23 ?_ ?_
      · first | exact Or.inl rfl | exact Or.inr rfl | (exact ⟨by decide, by decide⟩)
      · exact ⟨_, rfl, by unfold q_12042; rw [if_neg h0, if_pos h1], rfl⟩
theorem q_12042_b (x0 : Int32) : mj_b (q_12042 x0) := by
  unfold q_12042
  repeat' (first | refine q_ite ?_ ?_ | exact Or.inl rfl | exact Or.inr rfl)
/-- TQ.isEscaped -/
def q_12043 (x0 : Int32) : Int32 := if (((x0) >>> (((Int8.ofInt (15)).toInt32) &&& 31)) &&& (Int32.ofInt (1))) = ((0 : Int32)) then Int32.ofInt (0) else Int32.ofInt (1)
theorem q_12043_c (x0 : Int32) (G : mj_G) {d : Nat} : mj_X (d + 0) 12043 0 [some (.inl (x0))] [] G (fun o G1 => ∃ v, o = .inl (some (.inl (v))) ∧ v = q_12043 x0 ∧ G1 = G) := by
  refine mk_12043_0 rfl (fun h0 => ?_) (fun h0 => ?_)
  · skip
    refine mk_12043_13 ?_
    refine mk_12043_14 ?_ ?_
    · first | exact Or.inl rfl | exact Or.inr rfl | (exact ⟨by decide, by decide⟩)
    · exact ⟨_, rfl, by unfold q_12043; rw [if_pos h0], rfl⟩
  · skip
    refine mk_12043_9 ?_
    refine mk_12043_14 ?_ ?_
    · first | exact Or.inl rfl | exact Or.inr rfl | (exact ⟨by decide, by decide⟩)
    · exact ⟨_, rfl, by unfold q_12043; rw [if_neg h0], rfl⟩
theorem q_12043_b (x0 : Int32) : mj_b (q_12043 x0) := by
  unfold q_12043
  repeat' (first | refine q_ite ?_ ?_ | exact Or.inl rfl | exact Or.inr rfl)
/-- TQ.partOf -/
def q_12044 (x0 : Int32) : Int32 := ((x0) >>> (((Int8.ofInt (16)).toInt32) &&& 31)) &&& (Int32.ofInt (3))
theorem q_12044_c (x0 : Int32) (G : mj_G) {d : Nat} : mj_X (d + 0) 12044 0 [some (.inl (x0))] [] G (fun o G1 => ∃ v, o = .inl (some (.inl (v))) ∧ v = q_12044 x0 ∧ G1 = G) := by
  refine mk_12044_0 rfl ?_
  exact ⟨_, rfl, by unfold q_12044; rfl, rfl⟩
/-- TQ.sourceOf -/
def q_12045 (x0 : Int32) : Int32 := (x0) >>> (((Int8.ofInt (18)).toInt32) &&& 31)
theorem q_12045_c (x0 : Int32) (G : mj_G) {d : Nat} : mj_X (d + 0) 12045 0 [some (.inl (x0))] [] G (fun o G1 => ∃ v, o = .inl (some (.inl (v))) ∧ v = q_12045 x0 ∧ G1 = G) := by
  refine mk_12045_0 ?_
  exact ⟨_, rfl, by unfold q_12045; rfl, rfl⟩
/-- TQModel.in -/
def q_13003 (x0 x1 x2 : Int32) : Int32 := if (x0) < (x1) then Int32.ofInt (0) else if (x2) < (x0) then Int32.ofInt (0) else Int32.ofInt (1)
theorem q_13003_c (x0 x1 x2 : Int32) (G : mj_G) {d : Nat} : mj_X (d + 0) 13003 0 [some (.inl (x0)), some (.inl (x1)), some (.inl (x2))] [] G (fun o G1 => ∃ v, o = .inl (some (.inl (v))) ∧ v = q_13003 x0 x1 x2 ∧ G1 = G) := by
  refine mk_13003_0 (fun h0 => ?_) (fun h0 => ?_)
  · skip
    refine mk_13003_14 ?_
    refine mk_13003_15 ?_ ?_
    · first | exact Or.inl rfl | exact Or.inr rfl | (exact ⟨by decide, by decide⟩)
    · exact ⟨_, rfl, by unfold q_13003; rw [if_pos h0], rfl⟩
  · skip
    refine mk_13003_5 (fun h1 => ?_) (fun h1 => ?_)
    · skip
      refine mk_13003_14 ?_
      refine mk_13003_15 ?_ ?_
      · first | exact Or.inl rfl | exact Or.inr rfl | (exact ⟨by decide, by decide⟩)
      · exact ⟨_, rfl, by unfold q_13003; rw [if_neg h0, if_pos h1], rfl⟩
    · skip
      refine mk_13003_10 ?_
      refine mk_13003_15 ?_ ?_
      · first | exact Or.inl rfl | exact Or.inr rfl | (exact ⟨by decide, by decide⟩)
      · exact ⟨_, rfl, by unfold q_13003; rw [if_neg h0, if_neg h1], rfl⟩
theorem q_13003_b (x0 x1 x2 : Int32) : mj_b (q_13003 x0 x1 x2) := by
  unfold q_13003
  repeat' (first | refine q_ite ?_ ?_ | exact Or.inl rfl | exact Or.inr rfl)
/-- TQModel.isDigit -/
def q_13004 (x0 : Int32) : Int32 := q_13003 (x0) ((Int8.ofInt (48)).toInt32) ((Int8.ofInt (57)).toInt32)
theorem q_13004_c (x0 : Int32) (G : mj_G) {d : Nat} : mj_X (d + 1) 13004 0 [some (.inl (x0))] [] G (fun o G1 => ∃ v, o = .inl (some (.inl (v))) ∧ v = q_13004 x0 ∧ G1 = G) := by
  refine mk_13004_0 ?_
  refine mc_13004_5 (R := fun v G1 => v = q_13003 _ _ _ ∧ G1 = G) (q_13003_c _ _ _ G) (fun v G1 hv => ?_)
  obtain ⟨hv, hG⟩ := hv
  rw [hG]
  clear hG
  subst hv
  refine mk_13004_8 ?_ ?_
  · first | exact Or.inl rfl | exact Or.inr rfl | exact q_13003_b _ _ _ | (exact ⟨by decide, by decide⟩)
  · exact ⟨_, rfl, by unfold q_13004; rfl, rfl⟩
theorem q_13004_b (x0 : Int32) : mj_b (q_13004 x0) := by
  unfold q_13004
  repeat' (first | refine q_ite ?_ ?_ | exact Or.inl rfl | exact Or.inr rfl | exact q_13003_b _ _ _)
/-- TQModel.isLetter -/
def q_13005 (x0 : Int32) : Int32 := q_13003 (x0) ((Int8.ofInt (97)).toInt32) ((Int8.ofInt (122)).toInt32)
theorem q_13005_c (x0 : Int32) (G : mj_G) {d : Nat} : mj_X (d + 1) 13005 0 [some (.inl (x0))] [] G (fun o G1 => ∃ v, o = .inl (some (.inl (v))) ∧ v = q_13005 x0 ∧ G1 = G) := by
  refine mk_13005_0 ?_
  refine mc_13005_5 (R := fun v G1 => v = q_13003 _ _ _ ∧ G1 = G) (q_13003_c _ _ _ G) (fun v G1 hv => ?_)
  obtain ⟨hv, hG⟩ := hv
  rw [hG]
  clear hG
  subst hv
  refine mk_13005_8 ?_ ?_
  · first | exact Or.inl rfl | exact Or.inr rfl | exact q_13003_b _ _ _ | (exact ⟨by decide, by decide⟩)
  · exact ⟨_, rfl, by unfold q_13005; rfl, rfl⟩
theorem q_13005_b (x0 : Int32) : mj_b (q_13005 x0) := by
  unfold q_13005
  repeat' (first | refine q_ite ?_ ?_ | exact Or.inl rfl | exact Or.inr rfl | exact q_13003_b _ _ _)
/-- TQModel.isTemplate -/
def q_13006 (x0 : Int32) : Int32 := q_13003 (x0) (Int32.ofInt (0)) ((Int8.ofInt (9)).toInt32)
theorem q_13006_c (x0 : Int32) (G : mj_G) {d : Nat} : mj_X (d + 1) 13006 0 [some (.inl (x0))] [] G (fun o G1 => ∃ v, o = .inl (some (.inl (v))) ∧ v = q_13006 x0 ∧ G1 = G) := by
  refine mk_13006_0 ?_
  refine mc_13006_4 (R := fun v G1 => v = q_13003 _ _ _ ∧ G1 = G) (q_13003_c _ _ _ G) (fun v G1 hv => ?_)
  obtain ⟨hv, hG⟩ := hv
  rw [hG]
  clear hG
  subst hv
  refine mk_13006_7 ?_ ?_
  · first | exact Or.inl rfl | exact Or.inr rfl | exact q_13003_b _ _ _ | (exact ⟨by decide, by decide⟩)
  · exact ⟨_, rfl, by unfold q_13006; rfl, rfl⟩
theorem q_13006_b (x0 : Int32) : mj_b (q_13006 x0) := by
  unfold q_13006
  repeat' (first | refine q_ite ?_ ?_ | exact Or.inl rfl | exact Or.inr rfl | exact q_13003_b _ _ _)
/-- TQModel.isOperator -/
def q_13012 (x0 : Int32) : Int32 := if (x0) = ((Int8.ofInt (43)).toInt32) then Int32.ofInt (1) else if (x0) = ((Int8.ofInt (45)).toInt32) then Int32.ofInt (1) else if (x0) = ((Int8.ofInt (42)).toInt32) then Int32.ofInt (1) else if (x0) = ((Int8.ofInt (60)).toInt32) then Int32.ofInt (1) else if (x0) = ((Int8.ofInt (61)).toInt32) then Int32.ofInt (1) else if (x0) = ((Int8.ofInt (38)).toInt32) then Int32.ofInt (1) else if (x0) = ((Int8.ofInt (63)).toInt32) then Int32.ofInt (1) else Int32.ofInt (0)
theorem q_13012_c (x0 : Int32) (G : mj_G) {d : Nat} : mj_X (d + 0) 13012 0 [some (.inl (x0))] [] G (fun o G1 => ∃ v, o = .inl (some (.inl (v))) ∧ v = q_13012 x0 ∧ G1 = G) := by
  refine mk_13012_0 (fun h0 => ?_) (fun h0 => ?_)
  · skip
    refine mk_13012_42 ?_
    refine mk_13012_47 ?_ ?_
    · first | exact Or.inl rfl | exact Or.inr rfl | (exact ⟨by decide, by decide⟩)
    · exact ⟨_, rfl, by unfold q_13012; rw [if_pos h0], rfl⟩
  · skip
    refine mk_13012_6 (fun h1 => ?_) (fun h1 => ?_)
    · skip
      refine mk_13012_42 ?_
      refine mk_13012_47 ?_ ?_
      · first | exact Or.inl rfl | exact Or.inr rfl | (exact ⟨by decide, by decide⟩)
      · exact ⟨_, rfl, by unfold q_13012; rw [if_neg h0, if_pos h1], rfl⟩
    · skip
      refine mk_13012_12 (fun h2 => ?_) (fun h2 => ?_)
      · skip
        refine mk_13012_42 ?_
        refine mk_13012_47 ?_ ?_
        · first | exact Or.inl rfl | exact Or.inr rfl | (exact ⟨by decide, by decide⟩)
        · exact ⟨_, rfl, by unfold q_13012; rw [if_neg h0, if_neg h1, if_pos h2], rfl⟩
      · skip
        refine mk_13012_18 (fun h3 => ?_) (fun h3 => ?_)
        · skip
          refine mk_13012_42 ?_
          refine mk_13012_47 ?_ ?_
          · first | exact Or.inl rfl | exact Or.inr rfl | (exact ⟨by decide, by decide⟩)
          · exact ⟨_, rfl, by unfold q_13012; rw [if_neg h0, if_neg h1, if_neg h2, if_pos h3], rfl⟩
        · skip
          refine mk_13012_24 (fun h4 => ?_) (fun h4 => ?_)
          · skip
            refine mk_13012_42 ?_
            refine mk_13012_47 ?_ ?_
            · first | exact Or.inl rfl | exact Or.inr rfl | (exact ⟨by decide, by decide⟩)
            · exact ⟨_, rfl, by unfold q_13012; rw [if_neg h0, if_neg h1, if_neg h2, if_neg h3, if_pos h4], rfl⟩
          · skip
            refine mk_13012_30 (fun h5 => ?_) (fun h5 => ?_)
            · skip
              refine mk_13012_42 ?_
              refine mk_13012_47 ?_ ?_
              · first | exact Or.inl rfl | exact Or.inr rfl | (exact ⟨by decide, by decide⟩)
              · exact ⟨_, rfl, by unfold q_13012; rw [if_neg h0, if_neg h1, if_neg h2, if_neg h3, if_neg h4, if_pos h5], rfl⟩
            · skip
              refine mk_13012_36 (fun h6 => ?_) (fun h6 => ?_)
              · skip
                refine mk_13012_46 ?_
                refine mk_13012_47 ?_ ?_
                · first | exact Or.inl rfl | exact Or.inr rfl | (exact ⟨by decide, by decide⟩)
                · exact ⟨_, rfl, by unfold q_13012; rw [if_neg h0, if_neg h1, if_neg h2, if_neg h3, if_neg h4, if_neg h5, if_neg h6], rfl⟩
              · skip
                refine mk_13012_42 ?_
                refine mk_13012_47 ?_ ?_
                · first | exact Or.inl rfl | exact Or.inr rfl | (exact ⟨by decide, by decide⟩)
                · exact ⟨_, rfl, by unfold q_13012; rw [if_neg h0, if_neg h1, if_neg h2, if_neg h3, if_neg h4, if_neg h5, if_pos h6], rfl⟩
theorem q_13012_b (x0 : Int32) : mj_b (q_13012 x0) := by
  unfold q_13012
  repeat' (first | refine q_ite ?_ ?_ | exact Or.inl rfl | exact Or.inr rfl)
/-- TQModel.hasBody -/
def q_13070 (x0 : Int32) : Int32 := if (x0) = ((Int8.ofInt (63)).toInt32) then Int32.ofInt (1) else if (x0) = ((Int8.ofInt (42)).toInt32) then Int32.ofInt (1) else if (x0) = ((Int8.ofInt (43)).toInt32) then Int32.ofInt (1) else if (x0) = ((Int8.ofInt (35)).toInt32) then Int32.ofInt (1) else if (x0) = ((Int8.ofInt (36)).toInt32) then Int32.ofInt (1) else if (x0) = ((Int8.ofInt (38)).toInt32) then Int32.ofInt (1) else if (x0) = ((Int8.ofInt (107)).toInt32) then Int32.ofInt (1) else Int32.ofInt (0)
theorem q_13070_c (x0 : Int32) (G : mj_G) {d : Nat} : mj_X (d + 0) 13070 0 [some (.inl (x0))] [] G (fun o G1 => ∃ v, o = .inl (some (.inl (v))) ∧ v = q_13070 x0 ∧ G1 = G) := by
  refine mk_13070_0 (fun h0 => ?_) (fun h0 => ?_)
  · skip
    refine mk_13070_42 ?_
    refine mk_13070_47 ?_ ?_
    · first | exact Or.inl rfl | exact Or.inr rfl | (exact ⟨by decide, by decide⟩)
    · exact ⟨_, rfl, by unfold q_13070; rw [if_pos h0], rfl⟩
  · skip
    refine mk_13070_6 (fun h1 => ?_) (fun h1 => ?_)
    · skip
      refine mk_13070_42 ?_
      refine mk_13070_47 ?_ ?_
      · first | exact Or.inl rfl | exact Or.inr rfl | (exact ⟨by decide, by decide⟩)
      · exact ⟨_, rfl, by unfold q_13070; rw [if_neg h0, if_pos h1], rfl⟩
    · skip
      refine mk_13070_12 (fun h2 => ?_) (fun h2 => ?_)
      · skip
        refine mk_13070_42 ?_
        refine mk_13070_47 ?_ ?_
        · first | exact Or.inl rfl | exact Or.inr rfl | (exact ⟨by decide, by decide⟩)
        · exact ⟨_, rfl, by unfold q_13070; rw [if_neg h0, if_neg h1, if_pos h2], rfl⟩
      · skip
        refine mk_13070_18 (fun h3 => ?_) (fun h3 => ?_)
        · skip
          refine mk_13070_42 ?_
          refine mk_13070_47 ?_ ?_
          · first | exact Or.inl rfl | exact Or.inr rfl | (exact ⟨by decide, by decide⟩)
          · exact ⟨_, rfl, by unfold q_13070; rw [if_neg h0, if_neg h1, if_neg h2, if_pos h3], rfl⟩
        · skip
          refine mk_13070_24 (fun h4 => ?_) (fun h4 => ?_)
          · skip
            refine mk_13070_42 ?_
            refine mk_13070_47 ?_ ?_
            · first | exact Or.inl rfl | exact Or.inr rfl | (exact ⟨by decide, by decide⟩)
            · exact ⟨_, rfl, by unfold q_13070; rw [if_neg h0, if_neg h1, if_neg h2, if_neg h3, if_pos h4], rfl⟩
          · skip
            refine mk_13070_30 (fun h5 => ?_) (fun h5 => ?_)
            · skip
              refine mk_13070_42 ?_
              refine mk_13070_47 ?_ ?_
              · first | exact Or.inl rfl | exact Or.inr rfl | (exact ⟨by decide, by decide⟩)
              · exact ⟨_, rfl, by unfold q_13070; rw [if_neg h0, if_neg h1, if_neg h2, if_neg h3, if_neg h4, if_pos h5], rfl⟩
            · skip
              refine mk_13070_36 (fun h6 => ?_) (fun h6 => ?_)
              · skip
                refine mk_13070_46 ?_
                refine mk_13070_47 ?_ ?_
                · first | exact Or.inl rfl | exact Or.inr rfl | (exact ⟨by decide, by decide⟩)
                · exact ⟨_, rfl, by unfold q_13070; rw [if_neg h0, if_neg h1, if_neg h2, if_neg h3, if_neg h4, if_neg h5, if_neg h6], rfl⟩
              · skip
                refine mk_13070_42 ?_
                refine mk_13070_47 ?_ ?_
                · first | exact Or.inl rfl | exact Or.inr rfl | (exact ⟨by decide, by decide⟩)
                · exact ⟨_, rfl, by unfold q_13070; rw [if_neg h0, if_neg h1, if_neg h2, if_neg h3, if_neg h4, if_neg h5, if_pos h6], rfl⟩
theorem q_13070_b (x0 : Int32) : mj_b (q_13070 x0) := by
  unfold q_13070
  repeat' (first | refine q_ite ?_ ?_ | exact Or.inl rfl | exact Or.inr rfl)
/-- TQModel.leads -/
def q_13076 (x0 x1 : Int32) : Int32 := if (x0) = ((0 : Int32)) then if (x1) = ((Int8.ofInt (60)).toInt32) then Int32.ofInt (1) else Int32.ofInt (0) else if (x0) = (Int32.ofInt (1)) then if (x1) = ((Int8.ofInt (62)).toInt32) then Int32.ofInt (0) else if (x1) = ((Int8.ofInt (115)).toInt32) then Int32.ofInt (4) else Int32.ofInt (2) else if (x0) = (Int32.ofInt (2)) then if (x1) = ((Int8.ofInt (62)).toInt32) then Int32.ofInt (0) else if (x1) = ((Int8.ofInt (34)).toInt32) then Int32.ofInt (3) else Int32.ofInt (2) else if (x0) = (Int32.ofInt (4)) then if (x1) = ((Int8.ofInt (62)).toInt32) then (Int8.ofInt (6)).toInt32 else if (x1) = ((Int8.ofInt (34)).toInt32) then Int32.ofInt (5) else Int32.ofInt (4) else if (x0) = ((Int8.ofInt (6)).toInt32) then if (x1) = ((Int8.ofInt (39)).toInt32) then (Int8.ofInt (7)).toInt32 else if (x1) = ((Int8.ofInt (60)).toInt32) then Int32.ofInt (1) else (Int8.ofInt (6)).toInt32 else if (x0) = ((Int8.ofInt (7)).toInt32) then if (x1) = ((Int8.ofInt (39)).toInt32) then (Int8.ofInt (6)).toInt32 else (Int8.ofInt (7)).toInt32 else if (x1) = ((Int8.ofInt (34)).toInt32) then if (x0) = (Int32.ofInt (3)) then Int32.ofInt (2) else Int32.ofInt (4) else x0
theorem q_13076_c (x0 x1 : Int32) (G : mj_G) {d : Nat} : mj_X (d + 0) 13076 0 [some (.inl (x0)), some (.inl (x1))] [] G (fun o G1 => ∃ v, o = .inl (some (.inl (v))) ∧ v = q_13076 x0 x1 ∧ G1 = G) := by
  refine mk_13076_0 (fun h0 => ?_) (fun h0 => ?_)
  · skip
    refine mk_13076_16 (fun h1 => ?_) (fun h1 => ?_)
    · skip
      refine mk_13076_43 (fun h2 => ?_) (fun h2 => ?_)
      · skip
        refine mk_13076_70 (fun h3 => ?_) (fun h3 => ?_)
        · skip
          refine mk_13076_98 (fun h4 => ?_) (fun h4 => ?_)
          · skip
            refine mk_13076_128 (fun h5 => ?_) (fun h5 => ?_)
            · skip
              refine mk_13076_148 (fun h6 => ?_) (fun h6 => ?_)
              · skip
                refine mk_13076_167 ?_
                refine mk_13076_168 ?_
                exact ⟨_, rfl, by unfold q_13076; rw [if_neg h0, if_neg h1, if_neg h2, if_neg h3, if_neg h4, if_neg h5, if_neg h6], rfl⟩
              · skip
                refine mk_13076_154 (fun h7 => ?_) (fun h7 => ?_)
                · skip
                  refine mk_13076_163 ?_
                  refine mk_13076_168 ?_
                  exact ⟨_, rfl, by unfold q_13076; rw [if_neg h0, if_neg h1, if_neg h2, if_neg h3, if_neg h4, if_neg h5, if_pos h6, if_neg h7], rfl⟩
                · skip
                  refine mk_13076_159 ?_
                  refine mk_13076_168 ?_
                  exact ⟨_, rfl, by unfold q_13076; rw [if_neg h0, if_neg h1, if_neg h2, if_neg h3, if_neg h4, if_neg h5, if_pos h6, if_pos h7], rfl⟩
            · skip
              refine mk_13076_134 (fun h6 => ?_) (fun h6 => ?_)
              · skip
                refine mk_13076_145 ?_
                refine mk_13076_147 ?_
                exact ⟨_, rfl, by unfold q_13076; rw [if_neg h0, if_neg h1, if_neg h2, if_neg h3, if_neg h4, if_pos h5, if_neg h6], rfl⟩
              · skip
                refine mk_13076_140 ?_
                refine mk_13076_147 ?_
                exact ⟨_, rfl, by unfold q_13076; rw [if_neg h0, if_neg h1, if_neg h2, if_neg h3, if_neg h4, if_pos h5, if_pos h6], rfl⟩
          · skip
            refine mk_13076_104 (fun h5 => ?_) (fun h5 => ?_)
            · skip
              refine mk_13076_115 (fun h6 => ?_) (fun h6 => ?_)
              · skip
                refine mk_13076_125 ?_
                refine mk_13076_127 ?_
                exact ⟨_, rfl, by unfold q_13076; rw [if_neg h0, if_neg h1, if_neg h2, if_neg h3, if_pos h4, if_neg h5, if_neg h6], rfl⟩
              · skip
                refine mk_13076_121 ?_
                refine mk_13076_127 ?_
                exact ⟨_, rfl, by unfold q_13076; rw [if_neg h0, if_neg h1, if_neg h2, if_neg h3, if_pos h4, if_neg h5, if_pos h6], rfl⟩
            · skip
              refine mk_13076_110 ?_
              refine mk_13076_127 ?_
              exact ⟨_, rfl, by unfold q_13076; rw [if_neg h0, if_neg h1, if_neg h2, if_neg h3, if_pos h4, if_pos h5], rfl⟩
        · skip
          refine mk_13076_75 (fun h4 => ?_) (fun h4 => ?_)
          · skip
            refine mk_13076_86 (fun h5 => ?_) (fun h5 => ?_)
            · skip
              refine mk_13076_96 ?_
              refine mk_13076_97 ?_
              exact ⟨_, rfl, by unfold q_13076; rw [if_neg h0, if_neg h1, if_neg h2, if_pos h3, if_neg h4, if_neg h5], rfl⟩
            · skip
              refine mk_13076_92 ?_
              refine mk_13076_97 ?_
              exact ⟨_, rfl, by unfold q_13076; rw [if_neg h0, if_neg h1, if_neg h2, if_pos h3, if_neg h4, if_pos h5], rfl⟩
          · skip
            refine mk_13076_81 ?_
            refine mk_13076_97 ?_
            exact ⟨_, rfl, by unfold q_13076; rw [if_neg h0, if_neg h1, if_neg h2, if_pos h3, if_pos h4], rfl⟩
      · skip
        refine mk_13076_48 (fun h3 => ?_) (fun h3 => ?_)
        · skip
          refine mk_13076_58 (fun h4 => ?_) (fun h4 => ?_)
          · skip
            refine mk_13076_68 ?_
            refine mk_13076_69 ?_
            exact ⟨_, rfl, by unfold q_13076; rw [if_neg h0, if_neg h1, if_pos h2, if_neg h3, if_neg h4], rfl⟩
          · skip
            refine mk_13076_64 ?_
            refine mk_13076_69 ?_
            exact ⟨_, rfl, by unfold q_13076; rw [if_neg h0, if_neg h1, if_pos h2, if_neg h3, if_pos h4], rfl⟩
        · skip
          refine mk_13076_54 ?_
          refine mk_13076_69 ?_
          exact ⟨_, rfl, by unfold q_13076; rw [if_neg h0, if_neg h1, if_pos h2, if_pos h3], rfl⟩
    · skip
      refine mk_13076_21 (fun h2 => ?_) (fun h2 => ?_)
      · skip
        refine mk_13076_31 (fun h3 => ?_) (fun h3 => ?_)
        · skip
          refine mk_13076_41 ?_
          refine mk_13076_42 ?_
          exact ⟨_, rfl, by unfold q_13076; rw [if_neg h0, if_pos h1, if_neg h2, if_neg h3], rfl⟩
        · skip
          refine mk_13076_37 ?_
          refine mk_13076_42 ?_
          exact ⟨_, rfl, by unfold q_13076; rw [if_neg h0, if_pos h1, if_neg h2, if_pos h3], rfl⟩
      · skip
        refine mk_13076_27 ?_
        refine mk_13076_42 ?_
        exact ⟨_, rfl, by unfold q_13076; rw [if_neg h0, if_pos h1, if_pos h2], rfl⟩
  · skip
    refine mk_13076_4 (fun h1 => ?_) (fun h1 => ?_)
    · skip
      refine mk_13076_14 ?_
      refine mk_13076_15 ?_
      exact ⟨_, rfl, by unfold q_13076; rw [if_pos h0, if_neg h1], rfl⟩
    · skip
      refine mk_13076_10 ?_
      refine mk_13076_15 ?_
      exact ⟨_, rfl, by unfold q_13076; rw [if_pos h0, if_pos h1], rfl⟩
/-- TQModel.isWord -/
def q_13079 (x0 : Int32) : Int32 := if (q_13004 (x0)) = ((0 : Int32)) then if (q_13005 (x0)) = ((0 : Int32)) then if (q_13003 (x0) ((Int8.ofInt (65)).toInt32) ((Int8.ofInt (90)).toInt32)) = ((0 : Int32)) then Int32.ofInt (0) else Int32.ofInt (1) else Int32.ofInt (1) else Int32.ofInt (1)
theorem q_13079_c (x0 : Int32) (G : mj_G) {d : Nat} : mj_X (d + 2) 13079 0 [some (.inl (x0))] [] G (fun o G1 => ∃ v, o = .inl (some (.inl (v))) ∧ v = q_13079 x0 ∧ G1 = G) := by
  refine mk_13079_0 ?_
  refine mc_13079_1 (R := fun v G1 => v = q_13004 _ ∧ G1 = G) (q_13004_c _ G) (fun v G1 hv => ?_)
  obtain ⟨hv, hG⟩ := hv
  rw [hG]
  clear hG
  subst hv
  refine mk_13079_4 (fun h0 => ?_) (fun h0 => ?_)
  · skip
    refine mk_13079_25 ?_
    refine mk_13079_30 ?_ ?_
    · first | exact Or.inl rfl | exact Or.inr rfl | exact q_13003_b _ _ _ | exact q_13004_b _ | exact q_13005_b _ | (exact ⟨by decide, by decide⟩)
    · exact ⟨_, rfl, by unfold q_13079; rw [if_neg h0], rfl⟩
  · skip
    refine mk_13079_7 ?_
    refine mc_13079_8 (R := fun v G1 => v = q_13005 _ ∧ G1 = G) (q_13005_c _ G) (fun v G1 hv => ?_)
    obtain ⟨hv, hG⟩ := hv
    rw [hG]
    clear hG
    subst hv
    refine mk_13079_11 (fun h1 => ?_) (fun h1 => ?_)
    · skip
      refine mk_13079_25 ?_
      refine mk_13079_30 ?_ ?_
      · first | exact Or.inl rfl | exact Or.inr rfl | exact q_13003_b _ _ _ | exact q_13004_b _ | exact q_13005_b _ | (exact ⟨by decide, by decide⟩)
      · exact ⟨_, rfl, by unfold q_13079; rw [if_pos h0, if_neg h1], rfl⟩
    · skip
      refine mk_13079_14 ?_
      refine mc_13079_19 (R := fun v G1 => v = q_13003 _ _ _ ∧ G1 = G) (q_13003_c _ _ _ G) (fun v G1 hv => ?_)
      obtain ⟨hv, hG⟩ := hv
      rw [hG]
      clear hG
      subst hv
      refine mk_13079_22 (fun h2 => ?_) (fun h2 => ?_)
      · skip
        refine mk_13079_29 ?_
        refine mk_13079_30 ?_ ?_
        · first | exact Or.inl rfl | exact Or.inr rfl | exact q_13003_b _ _ _ | exact q_13004_b _ | exact q_13005_b _ | (exact ⟨by decide, by decide⟩)
        · exact ⟨_, rfl, by unfold q_13079; rw [if_pos h0, if_pos h1, if_pos h2], rfl⟩
      · skip
        refine mk_13079_25 ?_
        refine mk_13079_30 ?_ ?_
        · first | exact Or.inl rfl | exact Or.inr rfl | exact q_13003_b _ _ _ | exact q_13004_b _ | exact q_13005_b _ | (exact ⟨by decide, by decide⟩)
        · exact ⟨_, rfl, by unfold q_13079; rw [if_pos h0, if_pos h1, if_neg h2], rfl⟩
theorem q_13079_b (x0 : Int32) : mj_b (q_13079 x0) := by
  unfold q_13079
  repeat' (first | refine q_ite ?_ ?_ | exact Or.inl rfl | exact Or.inr rfl | exact q_13003_b _ _ _ | exact q_13004_b _ | exact q_13005_b _)
/-- TQModel.snapshotOf -/
def q_13108 (x0 x1 x2 : Int32) : Int32 := if (x1) = ((0 : Int32)) then ((Int8.ofInt (98)).toInt32) * (((((Int8.ofInt (52)).toInt32) * (x0)) + (Int32.ofInt (0))) + (x2)) else ((Int8.ofInt (98)).toInt32) * (((((Int8.ofInt (52)).toInt32) * (x0)) + ((Int8.ofInt (26)).toInt32)) + (x2))
theorem q_13108_c (x0 x1 x2 : Int32) (G : mj_G) {d : Nat} : mj_X (d + 0) 13108 0 [some (.inl (x0)), some (.inl (x1)), some (.inl (x2))] [] G (fun o G1 => ∃ v, o = .inl (some (.inl (v))) ∧ v = q_13108 x0 x1 x2 ∧ G1 = G) := by
  refine mk_13108_0 (fun h0 => ?_) (fun h0 => ?_)
  · skip
    refine mk_13108_15 ?_
    refine mk_13108_16 ?_
    exact ⟨_, rfl, by unfold q_13108; rw [if_pos h0], rfl⟩
  · skip
    refine mk_13108_10 ?_
    refine mk_13108_16 ?_
    exact ⟨_, rfl, by unfold q_13108; rw [if_neg h0], rfl⟩
/-- TQModel.leadsAnywhere -/
def q_13136 (x0 : Int32) : Int32 := if (x0) = ((Int8.ofInt (116)).toInt32) then Int32.ofInt (1) else if (x0) = ((Int8.ofInt (35)).toInt32) then Int32.ofInt (1) else if (x0) = ((Int8.ofInt (94)).toInt32) then Int32.ofInt (1) else if (x0) = ((Int8.ofInt (64)).toInt32) then Int32.ofInt (1) else if (x0) = ((Int8.ofInt (33)).toInt32) then Int32.ofInt (1) else if (x0) = ((Int8.ofInt (38)).toInt32) then Int32.ofInt (1) else if (x0) = ((Int8.ofInt (126)).toInt32) then Int32.ofInt (1) else Int32.ofInt (0)
theorem q_13136_c (x0 : Int32) (G : mj_G) {d : Nat} : mj_X (d + 0) 13136 0 [some (.inl (x0))] [] G (fun o G1 => ∃ v, o = .inl (some (.inl (v))) ∧ v = q_13136 x0 ∧ G1 = G) := by
  refine mk_13136_0 (fun h0 => ?_) (fun h0 => ?_)
  · skip
    refine mk_13136_42 ?_
    refine mk_13136_47 ?_ ?_
    · first | exact Or.inl rfl | exact Or.inr rfl | (exact ⟨by decide, by decide⟩)
    · exact ⟨_, rfl, by unfold q_13136; rw [if_pos h0], rfl⟩
  · skip
    refine mk_13136_6 (fun h1 => ?_) (fun h1 => ?_)
    · skip
      refine mk_13136_42 ?_
      refine mk_13136_47 ?_ ?_
      · first | exact Or.inl rfl | exact Or.inr rfl | (exact ⟨by decide, by decide⟩)
      · exact ⟨_, rfl, by unfold q_13136; rw [if_neg h0, if_pos h1], rfl⟩
    · skip
      refine mk_13136_12 (fun h2 => ?_) (fun h2 => ?_)
      · skip
        refine mk_13136_42 ?_
        refine mk_13136_47 ?_ ?_
        · first | exact Or.inl rfl | exact Or.inr rfl | (exact ⟨by decide, by decide⟩)
        · exact ⟨_, rfl, by unfold q_13136; rw [if_neg h0, if_neg h1, if_pos h2], rfl⟩
      · skip
        refine mk_13136_18 (fun h3 => ?_) (fun h3 => ?_)
        · skip
          refine mk_13136_42 ?_
          refine mk_13136_47 ?_ ?_
          · first | exact Or.inl rfl | exact Or.inr rfl | (exact ⟨by decide, by decide⟩)
          · exact ⟨_, rfl, by unfold q_13136; rw [if_neg h0, if_neg h1, if_neg h2, if_pos h3], rfl⟩
        · skip
          refine mk_13136_24 (fun h4 => ?_) (fun h4 => ?_)
          · skip
            refine mk_13136_42 ?_
            refine mk_13136_47 ?_ ?_
            · first | exact Or.inl rfl | exact Or.inr rfl | (exact ⟨by decide, by decide⟩)
            · exact ⟨_, rfl, by unfold q_13136; rw [if_neg h0, if_neg h1, if_neg h2, if_neg h3, if_pos h4], rfl⟩
          · skip
            refine mk_13136_30 (fun h5 => ?_) (fun h5 => ?_)
            · skip
              refine mk_13136_42 ?_
              refine mk_13136_47 ?_ ?_
              · first | exact Or.inl rfl | exact Or.inr rfl | (exact ⟨by decide, by decide⟩)
              · exact ⟨_, rfl, by unfold q_13136; rw [if_neg h0, if_neg h1, if_neg h2, if_neg h3, if_neg h4, if_pos h5], rfl⟩
            · skip
              refine mk_13136_36 (fun h6 => ?_) (fun h6 => ?_)
              · skip
                refine mk_13136_46 ?_
                refine mk_13136_47 ?_ ?_
                · first | exact Or.inl rfl | exact Or.inr rfl | (exact ⟨by decide, by decide⟩)
                · exact ⟨_, rfl, by unfold q_13136; rw [if_neg h0, if_neg h1, if_neg h2, if_neg h3, if_neg h4, if_neg h5, if_neg h6], rfl⟩
              · skip
                refine mk_13136_42 ?_
                refine mk_13136_47 ?_ ?_
                · first | exact Or.inl rfl | exact Or.inr rfl | (exact ⟨by decide, by decide⟩)
                · exact ⟨_, rfl, by unfold q_13136; rw [if_neg h0, if_neg h1, if_neg h2, if_neg h3, if_neg h4, if_neg h5, if_pos h6], rfl⟩
theorem q_13136_b (x0 : Int32) : mj_b (q_13136 x0) := by
  unfold q_13136
  repeat' (first | refine q_ite ?_ ?_ | exact Or.inl rfl | exact Or.inr rfl)
/-- TQ$Foresight.kindsOfFilter -/
def q_2011 (x0 x1 : Int32) : Int32 := if (x1) = ((0 : Int32)) then Int32.ofInt (0) else if (x0) = Int32.ofInt (4) then q_2012 (x1) ((Int8.ofInt (8)).toInt32) ((Int8.ofInt (6)).toInt32) else (if (x0) = Int32.ofInt (106) then q_2012 (x1) ((Int8.ofInt (8)).toInt32) (Int32.ofInt (4)) else (if (x0) = Int32.ofInt (108) then q_2012 (x1) ((Int8.ofInt (12)).toInt32) (Int32.ofInt (2)) else (if (x0) = Int32.ofInt (110) then q_2012 (x1) (Int32.ofInt (4)) (Int32.ofInt (3)) else (if (x0) = Int32.ofInt (114) then q_2012 (x1) (Int32.ofInt (4)) (Int32.ofInt (4)) else (if (x0) = Int32.ofInt (117) then q_2012 (x1) (Int32.ofInt (4)) (Int32.ofInt (4)) else (Int32.ofInt (2)))))))
theorem q_2011_c (x0 x1 : Int32) (G : mj_G) {d : Nat} : mj_X (d + 1) 2011 0 [some (.inl (x0)), some (.inl (x1))] [] G (fun o G1 => ∃ v, o = .inl (some (.inl (v))) ∧ v = q_2011 x0 x1 ∧ G1 = G) := by
  refine mk_2011_0 (fun h0 => ?_) (fun h0 => ?_)
  · skip
    refine mk_2011_6 (fun h1 => ?_) (fun h1 => ?_) (fun h1 => ?_) (fun h1 => ?_) (fun h1 => ?_) (fun h1 => ?_) (fun n1_0 n1_1 n1_2 n1_3 n1_4 n1_5 => ?_)
    · skip
      refine mk_2011_64 ?_
      refine mc_2011_69 (R := fun v G1 => v = q_2012 _ _ _ ∧ G1 = G) (q_2012_c _ _ _ G) (fun v G1 hv => ?_)
      obtain ⟨hv, hG⟩ := hv
      rw [hG]
      clear hG
      subst hv
      refine mk_2011_72 ?_
      exact ⟨_, rfl, by unfold q_2011; rw [if_neg h0, if_pos h1], rfl⟩
    · skip
      refine mk_2011_88 ?_
      refine mc_2011_92 (R := fun v G1 => v = q_2012 _ _ _ ∧ G1 = G) (q_2012_c _ _ _ G) (fun v G1 hv => ?_)
      obtain ⟨hv, hG⟩ := hv
      rw [hG]
      clear hG
      subst hv
      refine mk_2011_95 ?_
      exact ⟨_, rfl, by unfold q_2011; rw [if_neg h0, if_neg (by rw [h1]; decide), if_pos h1], rfl⟩
    · skip
      refine mk_2011_80 ?_
      refine mc_2011_84 (R := fun v G1 => v = q_2012 _ _ _ ∧ G1 = G) (q_2012_c _ _ _ G) (fun v G1 hv => ?_)
      obtain ⟨hv, hG⟩ := hv
      rw [hG]
      clear hG
      subst hv
      refine mk_2011_87 ?_
      exact ⟨_, rfl, by unfold q_2011; rw [if_neg h0, if_neg (by rw [h1]; decide), if_neg (by rw [h1]; decide), if_pos h1], rfl⟩
    · skip
      refine mk_2011_96 ?_
      refine mc_2011_99 (R := fun v G1 => v = q_2012 _ _ _ ∧ G1 = G) (q_2012_c _ _ _ G) (fun v G1 hv => ?_)
      obtain ⟨hv, hG⟩ := hv
      rw [hG]
      clear hG
      subst hv
      refine mk_2011_102 ?_
      exact ⟨_, rfl, by unfold q_2011; rw [if_neg h0, if_neg (by rw [h1]; decide), if_neg (by rw [h1]; decide), if_neg (by rw [h1]; decide), if_pos h1], rfl⟩
    · skip
      refine mk_2011_73 ?_
      refine mc_2011_76 (R := fun v G1 => v = q_2012 _ _ _ ∧ G1 = G) (q_2012_c _ _ _ G) (fun v G1 hv => ?_)
      obtain ⟨hv, hG⟩ := hv
      rw [hG]
      clear hG
      subst hv
      refine mk_2011_79 ?_
      exact ⟨_, rfl, by unfold q_2011; rw [if_neg h0, if_neg (by rw [h1]; decide), if_neg (by rw [h1]; decide), if_neg (by rw [h1]; decide), if_neg (by rw [h1]; decide), if_pos h1], rfl⟩
    · skip
      refine mk_2011_73 ?_
      refine mc_2011_76 (R := fun v G1 => v = q_2012 _ _ _ ∧ G1 = G) (q_2012_c _ _ _ G) (fun v G1 hv => ?_)
      obtain ⟨hv, hG⟩ := hv
      rw [hG]
      clear hG
      subst hv
      refine mk_2011_79 ?_
      exact ⟨_, rfl, by unfold q_2011; rw [if_neg h0, if_neg (by rw [h1]; decide), if_neg (by rw [h1]; decide), if_neg (by rw [h1]; decide), if_neg (by rw [h1]; decide), if_neg (by rw [h1]; decide), if_pos h1], rfl⟩
    · skip
      refine mk_2011_103 ?_
      exact ⟨_, rfl, by unfold q_2011; rw [if_neg h0, if_neg n1_0, if_neg n1_1, if_neg n1_2, if_neg n1_3, if_neg n1_4, if_neg n1_5], rfl⟩
  · skip
    refine mk_2011_4 ?_
    exact ⟨_, rfl, by unfold q_2011; rw [if_pos h0], rfl⟩
/-- TQ$Foresight.kindsOfOperation -/
def q_2013 (x0 x1 x2 : Int32) : Int32 := if (x1) = ((0 : Int32)) then Int32.ofInt (0) else if (x2) = ((0 : Int32)) then Int32.ofInt (0) else if (x0) = Int32.ofInt (42) then q_2012 ((x1) ||| (x2)) (Int32.ofInt (2)) (Int32.ofInt (2)) else (if (x0) = Int32.ofInt (43) then (((x1) &&& (x2)) &&& ((Int8.ofInt (6)).toInt32)) ||| (q_2014 (x1) (x2)) else (if (x0) = Int32.ofInt (45) then q_2012 ((x1) ||| (x2)) (Int32.ofInt (2)) (Int32.ofInt (2)) else (if (x0) = Int32.ofInt (60) then (Int32.ofInt (2)) ||| (q_2014 (x1) (x2)) else (if (x0) = Int32.ofInt (63) then ((x1) &&& ((Int8.ofInt (-2)).toInt32)) ||| (x2) else (if (x0) = Int32.ofInt (100) then ((x1) &&& ((Int8.ofInt (-2)).toInt32)) ||| (x2) else (Int32.ofInt (2)))))))
theorem q_2013_c (x0 x1 x2 : Int32) (G : mj_G) {d : Nat} : mj_X (d + 1) 2013 0 [some (.inl (x0)), some (.inl (x1)), some (.inl (x2))] [] G (fun o G1 => ∃ v, o = .inl (some (.inl (v))) ∧ v = q_2013 x0 x1 x2 ∧ G1 = G) := by
  refine mk_2013_0 (fun h0 => ?_) (fun h0 => ?_)
  · skip
    refine mk_2013_8 ?_
    exact ⟨_, rfl, by unfold q_2013; rw [if_pos h0], rfl⟩
  · skip
    refine mk_2013_4 (fun h1 => ?_) (fun h1 => ?_)
    · skip
      refine mk_2013_10 (fun h2 => ?_) (fun h2 => ?_) (fun h2 => ?_) (fun h2 => ?_) (fun h2 => ?_) (fun h2 => ?_) (fun n2_0 n2_1 n2_2 n2_3 n2_4 n2_5 => ?_)
      · skip
        refine mk_2013_75 ?_
        refine mc_2013_80 (R := fun v G1 => v = q_2012 _ _ _ ∧ G1 = G) (q_2012_c _ _ _ G) (fun v G1 hv => ?_)
        obtain ⟨hv, hG⟩ := hv
        rw [hG]
        clear hG
        subst hv
        refine mk_2013_83 ?_
        exact ⟨_, rfl, by unfold q_2013; rw [if_neg h0, if_neg h1, if_pos h2], rfl⟩
      · skip
        refine mk_2013_84 ?_
        refine mc_2013_92 (R := fun v G1 => v = q_2014 _ _ ∧ G1 = G) (q_2014_c _ _ G) (fun v G1 hv => ?_)
        obtain ⟨hv, hG⟩ := hv
        rw [hG]
        clear hG
        subst hv
        refine mk_2013_95 ?_
        exact ⟨_, rfl, by unfold q_2013; rw [if_neg h0, if_neg h1, if_neg (by rw [h2]; decide), if_pos h2], rfl⟩
      · skip
        refine mk_2013_75 ?_
        refine mc_2013_80 (R := fun v G1 => v = q_2012 _ _ _ ∧ G1 = G) (q_2012_c _ _ _ G) (fun v G1 hv => ?_)
        obtain ⟨hv, hG⟩ := hv
        rw [hG]
        clear hG
        subst hv
        refine mk_2013_83 ?_
        exact ⟨_, rfl, by unfold q_2013; rw [if_neg h0, if_neg h1, if_neg (by rw [h2]; decide), if_neg (by rw [h2]; decide), if_pos h2], rfl⟩
      · skip
        refine mk_2013_97 ?_
        refine mc_2013_100 (R := fun v G1 => v = q_2014 _ _ ∧ G1 = G) (q_2014_c _ _ G) (fun v G1 hv => ?_)
        obtain ⟨hv, hG⟩ := hv
        rw [hG]
        clear hG
        subst hv
        refine mk_2013_103 ?_
        exact ⟨_, rfl, by unfold q_2013; rw [if_neg h0, if_neg h1, if_neg (by rw [h2]; decide), if_neg (by rw [h2]; decide), if_neg (by rw [h2]; decide), if_pos h2], rfl⟩
      · skip
        refine mk_2013_68 ?_
        exact ⟨_, rfl, by unfold q_2013; rw [if_neg h0, if_neg h1, if_neg (by rw [h2]; decide), if_neg (by rw [h2]; decide), if_neg (by rw [h2]; decide), if_neg (by rw [h2]; decide), if_pos h2], rfl⟩
      · skip
        refine mk_2013_68 ?_
        exact ⟨_, rfl, by unfold q_2013; rw [if_neg h0, if_neg h1, if_neg (by rw [h2]; decide), if_neg (by rw [h2]; decide), if_neg (by rw [h2]; decide), if_neg (by rw [h2]; decide), if_neg (by rw [h2]; decide), if_pos h2], rfl⟩
      · skip
        refine mk_2013_105 ?_
        exact ⟨_, rfl, by unfold q_2013; rw [if_neg h0, if_neg h1, if_neg n2_0, if_neg n2_1, if_neg n2_2, if_neg n2_3, if_neg n2_4, if_neg n2_5], rfl⟩
    · skip
      refine mk_2013_8 ?_
      exact ⟨_, rfl, by unfold q_2013; rw [if_neg h0, if_pos h1], rfl⟩
/-- TQ.escapedLength -/
def q_12034 (x0 x1 : Int32) : Int32 := if (x1) = Int32.ofInt (0) then if (q_12036 (x0)) = ((0 : Int32)) then Int32.ofInt (1) else Int32.ofInt (3) else (if (x1) = Int32.ofInt (1) then Int32.ofInt (0) else (if (x1) = Int32.ofInt (2) then if (q_12030 (x0)) = ((0 : Int32)) then if (q_12029 (x0)) = ((0 : Int32)) then if (x0) < ((Int8.ofInt (65)).toInt32) then Int32.ofInt (0) else if ((Int8.ofInt (90)).toInt32) < (x0) then Int32.ofInt (0) else Int32.ofInt (1) else Int32.ofInt (1) else Int32.ofInt (1) else (if (x1) = Int32.ofInt (3) then if (q_12036 (x0)) = ((0 : Int32)) then Int32.ofInt (1) else Int32.ofInt (3) else (if (x1) = Int32.ofInt (4) then if (q_12030 (x0)) = ((0 : Int32)) then if (q_12029 (x0)) = ((0 : Int32)) then if (x0) < ((Int8.ofInt (65)).toInt32) then Int32.ofInt (0) else if ((Int8.ofInt (90)).toInt32) < (x0) then Int32.ofInt (0) else Int32.ofInt (1) else Int32.ofInt (1) else Int32.ofInt (1) else (if (x1) = Int32.ofInt (5) then if (q_12036 (x0)) = ((0 : Int32)) then Int32.ofInt (1) else Int32.ofInt (3) else (if (x1) = Int32.ofInt (6) then if (q_12030 (x0)) = ((0 : Int32)) then if (q_12029 (x0)) = ((0 : Int32)) then if (x0) < ((Int8.ofInt (65)).toInt32) then Int32.ofInt (0) else if ((Int8.ofInt (90)).toInt32) < (x0) then Int32.ofInt (0) else Int32.ofInt (1) else Int32.ofInt (1) else Int32.ofInt (1) else (if (x1) = Int32.ofInt (7) then Int32.ofInt (1) else (if (q_12030 (x0)) = ((0 : Int32)) then if (q_12029 (x0)) = ((0 : Int32)) then if (x0) < ((Int8.ofInt (65)).toInt32) then Int32.ofInt (0) else if ((Int8.ofInt (90)).toInt32) < (x0) then Int32.ofInt (0) else Int32.ofInt (1) else Int32.ofInt (1) else Int32.ofInt (1)))))))))
theorem q_12034_c (x0 x1 : Int32) (G : mj_G) {d : Nat} : mj_X (d + 1) 12034 0 [some (.inl (x0)), some (.inl (x1))] [] G (fun o G1 => ∃ v, o = .inl (some (.inl (v))) ∧ v = q_12034 x0 x1 ∧ G1 = G) := by
  refine mk_12034_0 (fun h0 => ?_) (fun h0 => ?_) (fun h0 => ?_) (fun h0 => ?_) (fun h0 => ?_) (fun h0 => ?_) (fun h0 => ?_) (fun h0 => ?_) (fun n0_0 n0_1 n0_2 n0_3 n0_4 n0_5 n0_6 n0_7 => ?_)
  · skip
    refine mk_12034_48 ?_
    refine mc_12034_49 (R := fun v G1 => v = q_12036 _ ∧ G1 = G) (q_12036_c _ G) (fun v G1 hv => ?_)
    obtain ⟨hv, hG⟩ := hv
    rw [hG]
    clear hG
    subst hv
    refine mk_12034_52 (fun h1 => ?_) (fun h1 => ?_)
    · skip
      refine mk_12034_59 ?_
      refine mk_12034_60 ?_
      exact ⟨_, rfl, by unfold q_12034; rw [if_pos h0, if_neg h1], rfl⟩
    · skip
      refine mk_12034_55 ?_
      refine mk_12034_60 ?_
      exact ⟨_, rfl, by unfold q_12034; rw [if_pos h0, if_pos h1], rfl⟩
  · skip
    refine mk_12034_63 ?_
    exact ⟨_, rfl, by unfold q_12034; rw [if_neg (by rw [h0]; decide), if_pos h0], rfl⟩
  · skip
    refine mk_12034_65 ?_
    refine mc_12034_66 (R := fun v G1 => v = q_12030 _ ∧ G1 = G) (q_12030_c _ G) (fun v G1 hv => ?_)
    obtain ⟨hv, hG⟩ := hv
    rw [hG]
    clear hG
    subst hv
    refine mk_12034_69 (fun h1 => ?_) (fun h1 => ?_)
    · skip
      refine mk_12034_91 ?_
      refine mk_12034_96 ?_
      exact ⟨_, rfl, by unfold q_12034; rw [if_neg (by rw [h0]; decide), if_neg (by rw [h0]; decide), if_pos h0, if_neg h1], rfl⟩
    · skip
      refine mk_12034_72 ?_
      refine mc_12034_73 (R := fun v G1 => v = q_12029 _ ∧ G1 = G) (q_12029_c _ G) (fun v G1 hv => ?_)
      obtain ⟨hv, hG⟩ := hv
      rw [hG]
      clear hG
      subst hv
      refine mk_12034_76 (fun h2 => ?_) (fun h2 => ?_)
      · skip
        refine mk_12034_91 ?_
        refine mk_12034_96 ?_
        exact ⟨_, rfl, by unfold q_12034; rw [if_neg (by rw [h0]; decide), if_neg (by rw [h0]; decide), if_pos h0, if_pos h1, if_neg h2], rfl⟩
      · skip
        refine mk_12034_79 (fun h3 => ?_) (fun h3 => ?_)
        · skip
          refine mk_12034_95 ?_
          refine mk_12034_96 ?_
          exact ⟨_, rfl, by unfold q_12034; rw [if_neg (by rw [h0]; decide), if_neg (by rw [h0]; decide), if_pos h0, if_pos h1, if_pos h2, if_pos h3], rfl⟩
        · skip
          refine mk_12034_85 (fun h4 => ?_) (fun h4 => ?_)
          · skip
            refine mk_12034_95 ?_
            refine mk_12034_96 ?_
            exact ⟨_, rfl, by unfold q_12034; rw [if_neg (by rw [h0]; decide), if_neg (by rw [h0]; decide), if_pos h0, if_pos h1, if_pos h2, if_neg h3, if_pos h4], rfl⟩
          · skip
            refine mk_12034_91 ?_
            refine mk_12034_96 ?_
            exact ⟨_, rfl, by unfold q_12034; rw [if_neg (by rw [h0]; decide), if_neg (by rw [h0]; decide), if_pos h0, if_pos h1, if_pos h2, if_neg h3, if_neg h4], rfl⟩
  · skip
    refine mk_12034_48 ?_
    refine mc_12034_49 (R := fun v G1 => v = q_12036 _ ∧ G1 = G) (q_12036_c _ G) (fun v G1 hv => ?_)
    obtain ⟨hv, hG⟩ := hv
    rw [hG]
    clear hG
    subst hv
    refine mk_12034_52 (fun h1 => ?_) (fun h1 => ?_)
    · skip
      refine mk_12034_59 ?_
      refine mk_12034_60 ?_
      exact ⟨_, rfl, by unfold q_12034; rw [if_neg (by rw [h0]; decide), if_neg (by rw [h0]; decide), if_neg (by rw [h0]; decide), if_pos h0, if_neg h1], rfl⟩
    · skip
      refine mk_12034_55 ?_
      refine mk_12034_60 ?_
      exact ⟨_, rfl, by unfold q_12034; rw [if_neg (by rw [h0]; decide), if_neg (by rw [h0]; decide), if_neg (by rw [h0]; decide), if_pos h0, if_pos h1], rfl⟩
  · skip
    refine mk_12034_65 ?_
    refine mc_12034_66 (R := fun v G1 => v = q_12030 _ ∧ G1 = G) (q_12030_c _ G) (fun v G1 hv => ?_)
    obtain ⟨hv, hG⟩ := hv
    rw [hG]
    clear hG
    subst hv
    refine mk_12034_69 (fun h1 => ?_) (fun h1 => ?_)
    · skip
      refine mk_12034_91 ?_
      refine mk_12034_96 ?_
      exact ⟨_, rfl, by unfold q_12034; rw [if_neg (by rw [h0]; decide), if_neg (by rw [h0]; decide), if_neg (by rw [h0]; decide), if_neg (by rw [h0]; decide), if_pos h0, if_neg h1], rfl⟩
    · skip
      refine mk_12034_72 ?_
      refine mc_12034_73 (R := fun v G1 => v = q_12029 _ ∧ G1 = G) (q_12029_c _ G) (fun v G1 hv => ?_)
      obtain ⟨hv, hG⟩ := hv
      rw [hG]
      clear hG
      subst hv
      refine mk_12034_76 (fun h2 => ?_) (fun h2 => ?_)
      · skip
        refine mk_12034_91 ?_
        refine mk_12034_96 ?_
        exact ⟨_, rfl, by unfold q_12034; rw [if_neg (by rw [h0]; decide), if_neg (by rw [h0]; decide), if_neg (by rw [h0]; decide), if_neg (by rw [h0]; decide), if_pos h0, if_pos h1, if_neg h2], rfl⟩
      · skip
        refine mk_12034_79 (fun h3 => ?_) (fun h3 => ?_)
        · skip
          refine mk_12034_95 ?_
          refine mk_12034_96 ?_
          exact ⟨_, rfl, by unfold q_12034; rw [if_neg (by rw [h0]; decide), if_neg (by rw [h0]; decide), if_neg (by rw [h0]; decide), if_neg (by rw [h0]; decide), if_pos h0, if_pos h1, if_pos h2, if_pos h3], rfl⟩
        · skip
          refine mk_12034_85 (fun h4 => ?_) (fun h4 => ?_)
          · skip
            refine mk_12034_95 ?_
            refine mk_12034_96 ?_
            exact ⟨_, rfl, by unfold q_12034; rw [if_neg (by rw [h0]; decide), if_neg (by rw [h0]; decide), if_neg (by rw [h0]; decide), if_neg (by rw [h0]; decide), if_pos h0, if_pos h1, if_pos h2, if_neg h3, if_pos h4], rfl⟩
          · skip
            refine mk_12034_91 ?_
            refine mk_12034_96 ?_
            exact ⟨_, rfl, by unfold q_12034; rw [if_neg (by rw [h0]; decide), if_neg (by rw [h0]; decide), if_neg (by rw [h0]; decide), if_neg (by rw [h0]; decide), if_pos h0, if_pos h1, if_pos h2, if_neg h3, if_neg h4], rfl⟩
  · skip
    refine mk_12034_48 ?_
    refine mc_12034_49 (R := fun v G1 => v = q_12036 _ ∧ G1 = G) (q_12036_c _ G) (fun v G1 hv => ?_)
    obtain ⟨hv, hG⟩ := hv
    rw [hG]
    clear hG
    subst hv
    refine mk_12034_52 (fun h1 => ?_) (fun h1 => ?_)
    · skip
      refine mk_12034_59 ?_
      refine mk_12034_60 ?_
      exact ⟨_, rfl, by unfold q_12034; rw [if_neg (by rw [h0]; decide), if_neg (by rw [h0]; decide), if_neg (by rw [h0]; decide), if_neg (by rw [h0]; decide), if_neg (by rw [h0]; decide), if_pos h0, if_neg h1], rfl⟩
    · skip
      refine mk_12034_55 ?_
      refine mk_12034_60 ?_
      exact ⟨_, rfl, by unfold q_12034; rw [if_neg (by rw [h0]; decide), if_neg (by rw [h0]; decide), if_neg (by rw [h0]; decide), if_neg (by rw [h0]; decide), if_neg (by rw [h0]; decide), if_pos h0, if_pos h1], rfl⟩
  · skip
    refine mk_12034_65 ?_
    refine mc_12034_66 (R := fun v G1 => v = q_12030 _ ∧ G1 = G) (q_12030_c _ G) (fun v G1 hv => ?_)
    obtain ⟨hv, hG⟩ := hv
    rw [hG]
    clear hG
    subst hv
    refine mk_12034_69 (fun h1 => ?_) (fun h1 => ?_)
    · skip
      refine mk_12034_91 ?_
      refine mk_12034_96 ?_
      exact ⟨_, rfl, by unfold q_12034; rw [if_neg (by rw [h0]; decide), if_neg (by rw [h0]; decide), if_neg (by rw [h0]; decide), if_neg (by rw [h0]; decide), if_neg (by rw [h0]; decide), if_neg (by rw [h0]; decide), if_pos h0, if_neg h1], rfl⟩
    · skip
      refine mk_12034_72 ?_
      refine mc_12034_73 (R := fun v G1 => v = q_12029 _ ∧ G1 = G) (q_12029_c _ G) (fun v G1 hv => ?_)
      obtain ⟨hv, hG⟩ := hv
      rw [hG]
      clear hG
      subst hv
      refine mk_12034_76 (fun h2 => ?_) (fun h2 => ?_)
      · skip
        refine mk_12034_91 ?_
        refine mk_12034_96 ?_
        exact ⟨_, rfl, by unfold q_12034; rw [if_neg (by rw [h0]; decide), if_neg (by rw [h0]; decide), if_neg (by rw [h0]; decide), if_neg (by rw [h0]; decide), if_neg (by rw [h0]; decide), if_neg (by rw [h0]; decide), if_pos h0, if_pos h1, if_neg h2], rfl⟩
      · skip
        refine mk_12034_79 (fun h3 => ?_) (fun h3 => ?_)
        · skip
          refine mk_12034_95 ?_
          refine mk_12034_96 ?_
          exact ⟨_, rfl, by unfold q_12034; rw [if_neg (by rw [h0]; decide), if_neg (by rw [h0]; decide), if_neg (by rw [h0]; decide), if_neg (by rw [h0]; decide), if_neg (by rw [h0]; decide), if_neg (by rw [h0]; decide), if_pos h0, if_pos h1, if_pos h2, if_pos h3], rfl⟩
        · skip
          refine mk_12034_85 (fun h4 => ?_) (fun h4 => ?_)
          · skip
            refine mk_12034_95 ?_
            refine mk_12034_96 ?_
            exact ⟨_, rfl, by unfold q_12034; rw [if_neg (by rw [h0]; decide), if_neg (by rw [h0]; decide), if_neg (by rw [h0]; decide), if_neg (by rw [h0]; decide), if_neg (by rw [h0]; decide), if_neg (by rw [h0]; decide), if_pos h0, if_pos h1, if_pos h2, if_neg h3, if_pos h4], rfl⟩
          · skip
            refine mk_12034_91 ?_
            refine mk_12034_96 ?_
            exact ⟨_, rfl, by unfold q_12034; rw [if_neg (by rw [h0]; decide), if_neg (by rw [h0]; decide), if_neg (by rw [h0]; decide), if_neg (by rw [h0]; decide), if_neg (by rw [h0]; decide), if_neg (by rw [h0]; decide), if_pos h0, if_pos h1, if_pos h2, if_neg h3, if_neg h4], rfl⟩
  · skip
    refine mk_12034_61 ?_
    exact ⟨_, rfl, by unfold q_12034; rw [if_neg (by rw [h0]; decide), if_neg (by rw [h0]; decide), if_neg (by rw [h0]; decide), if_neg (by rw [h0]; decide), if_neg (by rw [h0]; decide), if_neg (by rw [h0]; decide), if_neg (by rw [h0]; decide), if_pos h0], rfl⟩
  · skip
    refine mk_12034_65 ?_
    refine mc_12034_66 (R := fun v G1 => v = q_12030 _ ∧ G1 = G) (q_12030_c _ G) (fun v G1 hv => ?_)
    obtain ⟨hv, hG⟩ := hv
    rw [hG]
    clear hG
    subst hv
    refine mk_12034_69 (fun h1 => ?_) (fun h1 => ?_)
    · skip
      refine mk_12034_91 ?_
      refine mk_12034_96 ?_
      exact ⟨_, rfl, by unfold q_12034; rw [if_neg n0_0, if_neg n0_1, if_neg n0_2, if_neg n0_3, if_neg n0_4, if_neg n0_5, if_neg n0_6, if_neg n0_7, if_neg h1], rfl⟩
    · skip
      refine mk_12034_72 ?_
      refine mc_12034_73 (R := fun v G1 => v = q_12029 _ ∧ G1 = G) (q_12029_c _ G) (fun v G1 hv => ?_)
      obtain ⟨hv, hG⟩ := hv
      rw [hG]
      clear hG
      subst hv
      refine mk_12034_76 (fun h2 => ?_) (fun h2 => ?_)
      · skip
        refine mk_12034_91 ?_
        refine mk_12034_96 ?_
        exact ⟨_, rfl, by unfold q_12034; rw [if_neg n0_0, if_neg n0_1, if_neg n0_2, if_neg n0_3, if_neg n0_4, if_neg n0_5, if_neg n0_6, if_neg n0_7, if_pos h1, if_neg h2], rfl⟩
      · skip
        refine mk_12034_79 (fun h3 => ?_) (fun h3 => ?_)
        · skip
          refine mk_12034_95 ?_
          refine mk_12034_96 ?_
          exact ⟨_, rfl, by unfold q_12034; rw [if_neg n0_0, if_neg n0_1, if_neg n0_2, if_neg n0_3, if_neg n0_4, if_neg n0_5, if_neg n0_6, if_neg n0_7, if_pos h1, if_pos h2, if_pos h3], rfl⟩
        · skip
          refine mk_12034_85 (fun h4 => ?_) (fun h4 => ?_)
          · skip
            refine mk_12034_95 ?_
            refine mk_12034_96 ?_
            exact ⟨_, rfl, by unfold q_12034; rw [if_neg n0_0, if_neg n0_1, if_neg n0_2, if_neg n0_3, if_neg n0_4, if_neg n0_5, if_neg n0_6, if_neg n0_7, if_pos h1, if_pos h2, if_neg h3, if_pos h4], rfl⟩
          · skip
            refine mk_12034_91 ?_
            refine mk_12034_96 ?_
            exact ⟨_, rfl, by unfold q_12034; rw [if_neg n0_0, if_neg n0_1, if_neg n0_2, if_neg n0_3, if_neg n0_4, if_neg n0_5, if_neg n0_6, if_neg n0_7, if_pos h1, if_pos h2, if_neg h3, if_neg h4], rfl⟩
