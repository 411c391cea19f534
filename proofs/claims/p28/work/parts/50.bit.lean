/-! BITS of an int -/
def bt (S : Int32) (i : Nat) : Prop := S.toBitVec.getLsbD i = true
theorem bt_sm : ∀ i, i < 32 → ((nI i &&& (31 : Int32)).toBitVec.smod 32).toNat = i := by decide +kernel
theorem bt_sh {S : Int32} {i : Nat} (hi : i < 32) : (mm_shr S (nI i)).toBitVec = S.toBitVec.sshiftRight i := by
  show BitVec.sshiftRight' S.toBitVec ((nI i &&& (31 : Int32)).toBitVec.smod 32) = _
  rw [BitVec.sshiftRight_eq', bt_sm i hi]
theorem bt_sl {i : Nat} (hi : i < 32) : (mm_shl (nI 1) (nI i)).toBitVec = 1#32 <<< i := by
  show (nI 1).toBitVec <<< ((nI i &&& (31 : Int32)).toBitVec.smod 32) = _
  rw [BitVec.shiftLeft_eq', bt_sm i hi]
  rfl
theorem bt_v {S : Int32} {i : Nat} (hi : i < 32) : (mm_shr S (nI i)) &&& (nI 1) = if S.toBitVec.getLsbD i = true then nI 1 else nI 0 := by
  apply Int32.toBitVec.inj
  show (mm_shr S (nI i)).toBitVec &&& 1#32 = _
  rw [bt_sh hi]
  apply BitVec.eq_of_getLsbD_eq
  intro j hj
  rw [BitVec.getLsbD_and, BitVec.getLsbD_sshiftRight, BitVec.getLsbD_one]
  by_cases h0 : j = 0
  · subst h0
    by_cases hb : S.toBitVec.getLsbD i = true
    · rw [if_pos hb]
      have hb2 : S.toBitVec[i] = true := hb
      simp [hb2, hi] <;> rfl
    · rw [if_neg hb]
      have hb2 : S.toBitVec[i] = false := Bool.eq_false_iff.mpr hb
      simp [hb2, hi] <;> rfl
  · have e1 : (nI 1).toBitVec.getLsbD j = false := by
      show (1#32).getLsbD j = false
      rw [BitVec.getLsbD_one]
      simp [h0]
    have e0 : (nI 0).toBitVec.getLsbD j = false := by
      show (0#32).getLsbD j = false
      exact BitVec.getLsbD_zero
    by_cases hb : S.toBitVec.getLsbD i = true
    · rw [if_pos hb, e1]
      simp [h0]
    · rw [if_neg hb, e0]
      simp [h0]
theorem bt_0r {S : Int32} {i : Nat} (hi : i < 32) : ((mm_shr S (nI i)) &&& (nI 1) = nI 0) = ¬ bt S i := by
  rw [bt_v hi]
  unfold bt
  by_cases hb : S.toBitVec.getLsbD i = true
  · rw [if_pos hb]
    exact propext ⟨fun h => absurd h (by decide), fun h => absurd hb h⟩
  · rw [if_neg hb]
    exact propext ⟨fun _ => hb, fun _ => rfl⟩
theorem bt_1r {S : Int32} {i : Nat} (hi : i < 32) : ((mm_shr S (nI i)) &&& (nI 1) = nI 1) = bt S i := by
  rw [bt_v hi]
  unfold bt
  by_cases hb : S.toBitVec.getLsbD i = true
  · rw [if_pos hb]
    exact propext ⟨fun _ => hb, fun _ => rfl⟩
  · rw [if_neg hb]
    exact propext ⟨fun h => absurd h (by decide), fun h => absurd h hb⟩
theorem bt_one {i j : Nat} (hi : i < 32) (hj : j < 32) : (1#32 <<< i).getLsbD j = decide (j = i) := by
  rw [BitVec.getLsbD_shiftLeft, BitVec.getLsbD_one]
  by_cases h : j = i
  · subst h
    simp [hj]
  · by_cases hl : j < i
    · simp [h, hl]
    · have : j - i ≠ 0 := by omega
      simp [h, this]
theorem bt_and {S : Int32} {i : Nat} (hi : i < 32) : (S &&& (mm_shl (nI 1) (nI i)) = nI 0) = ¬ bt S i := by
  unfold bt
  have e : (S &&& (mm_shl (nI 1) (nI i))).toBitVec = S.toBitVec &&& (1#32 <<< i) := by
    show S.toBitVec &&& (mm_shl (nI 1) (nI i)).toBitVec = _
    rw [bt_sl hi]
  refine propext ⟨fun h hb => ?_, fun h => ?_⟩
  · have h1 := congrArg (fun x => Int32.toBitVec x) h
    have h2 : (S.toBitVec &&& (1#32 <<< i)).getLsbD i = (0#32).getLsbD i := congrArg (fun x => BitVec.getLsbD x i) (e.symm.trans h1)
    rw [BitVec.getLsbD_and, bt_one hi hi, hb] at h2
    simp at h2
  · apply Int32.toBitVec.inj
    rw [e]
    apply BitVec.eq_of_getLsbD_eq
    intro j hj
    rw [BitVec.getLsbD_and, bt_one hi hj]
    show _ = (0#32).getLsbD j
    rw [BitVec.getLsbD_zero]
    by_cases hji : j = i
    · subst hji
      simp [h]
    · simp [hji]
theorem bt_or {S : Int32} {i j : Nat} (hi : i < 32) (hj : j < 32) : bt (S ||| (mm_shl (nI 1) (nI j))) i = (bt S i ∨ i = j) := by
  unfold bt
  have e : (S ||| (mm_shl (nI 1) (nI j))).toBitVec = S.toBitVec ||| (1#32 <<< j) := by
    show S.toBitVec ||| (mm_shl (nI 1) (nI j)).toBitVec = _
    rw [bt_sl hj]
  rw [e, BitVec.getLsbD_or, bt_one hj hi]
  simp
theorem bt_oa {S T : Int32} {i j : Nat} (hi : i < 32) (hj : j < 32) : bt (S ||| (T &&& (mm_shl (nI 1) (nI j)))) i = (bt S i ∨ (bt T i ∧ i = j)) := by
  unfold bt
  have e : (S ||| (T &&& (mm_shl (nI 1) (nI j)))).toBitVec = S.toBitVec ||| (T.toBitVec &&& (1#32 <<< j)) := by
    show S.toBitVec ||| (T.toBitVec &&& (mm_shl (nI 1) (nI j)).toBitVec) = _
    rw [bt_sl hj]
  rw [e, BitVec.getLsbD_or, BitVec.getLsbD_and, bt_one hj hi]
  simp
theorem bt_0 {i : Nat} : ¬ bt (nI 0) i := by
  unfold bt
  show ¬ (0#32).getLsbD i = true
  rw [BitVec.getLsbD_zero]
  decide
theorem bt_or2 {S T : Int32} {i : Nat} : bt (S ||| T) i = (bt S i ∨ bt T i) := by
  unfold bt
  show ((S.toBitVec ||| T.toBitVec).getLsbD i = true) = _
  rw [BitVec.getLsbD_or]
  simp
