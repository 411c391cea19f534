/-! RENDERING: characters packed by fours, in the model's snapshots -/
def R_z (a : Nat) : Prop := a = 1756
def wd (ch : Nat → Nat) (j : Nat) : Nat → Nat
  | 0 => 0
  | m + 1 => 256 ^ m * ch (4 * j + m) + wd ch j m
/-- how many of the k characters are in the j-th word -/
def wm (k j : Nat) : Nat := if 4 ≤ k - 4 * j then 4 else k - 4 * j
/-- k characters stand packed from a place on -/
def pz (f : mm_F) (fm k : Nat) (ch : Nat → Nat) : Prop := ∀ j, 4 * j < k → f 1756 (fm + j) = nI (wd ch j (wm k j))
theorem wd1 {ch : Nat → Nat} {j : Nat} : wd ch j 1 = ch (4 * j) := by
  show 256 ^ 0 * ch (4 * j + 0) + 0 = _
  rw [Nat.pow_zero, Nat.one_mul, Nat.add_zero, Nat.add_zero]
theorem wd2 {ch : Nat → Nat} {j : Nat} : wd ch j 2 = 256 * ch (4 * j + 1) + ch (4 * j) := by
  show 256 ^ 1 * ch (4 * j + 1) + wd ch j 1 = _
  rw [wd1, Nat.pow_one]
theorem wd3 {ch : Nat → Nat} {j : Nat} : wd ch j 3 = 65536 * ch (4 * j + 2) + (256 * ch (4 * j + 1) + ch (4 * j)) := by
  show 256 ^ 2 * ch (4 * j + 2) + wd ch j 2 = _
  rw [wd2]
theorem wd4 {ch : Nat → Nat} {j : Nat} : wd ch j 4 = 16777216 * ch (4 * j + 3) + (65536 * ch (4 * j + 2) + (256 * ch (4 * j + 1) + ch (4 * j))) := by
  show 256 ^ 3 * ch (4 * j + 3) + wd ch j 3 = _
  rw [wd3]
section PK
variable {Gm : mj_G} {f : mm_F} {d fm k : Nat} {ch : Nat → Nat}
theorem z_shl8 {c m : Nat} (hm : m = 1 ∨ m = 2 ∨ m = 3) (hc : c ≤ 126) : mm_shl (nI c) (nI (8 * m)) = nI (2 ^ (8 * m) * c) := by
  rcases hm with rfl | rfl | rfl
  · show nI c <<< (nI 8 &&& 31) = _
    rw [z_shl (k := 8) (by omega) (by decide), Nat.mul_comm]
  · show nI c <<< (nI 16 &&& 31) = _
    rw [z_shl (k := 16) (by omega) (by decide), Nat.mul_comm]
  · show nI c <<< (nI 24 &&& 31) = _
    rw [z_shl (k := 24) (by omega) (by decide), Nat.mul_comm]
theorem p_packs {K : mm_F → Prop} (hM : mm_S Gm) (hz : pz f fm k ch) (hb : ∀ i, i ≤ k → ch i ≤ 126) (hk : k ≤ 300) (hf : fm + k / 4 < 50960) (hK : ∀ f', mw no_R no_R R_z f f' → pz f' fm (k + 1) ch → (∀ i, i ≠ fm + k / 4 → f' 1756 i = f 1756 i) → K f') : m_packs Gm d (nI fm) (nI k) (nI (ch k)) f K := by
  have hc := hb k (Nat.le_refl _)
  have er : mm_rem (nI k) (nI 4) = nI (k % 4) := pk_rem (by omega) (by decide) (by decide)
  -- what the new word is
  have fin : ∀ y, y = nI (wd ch (k / 4) (k % 4 + 1)) → K (mj_u2 f 1756 (fm + k / 4) y) := fun y hy => by
    refine hK _ (mw_R (by decide) rfl) (fun j hj => ?_) (fun i hi => z_u2m hi)
    by_cases q : j = k / 4
    · rw [q, z_u2s, hy]
      congr 2
      unfold wm
      by_cases q4 : 4 ≤ k + 1 - 4 * (k / 4)
      · rw [if_pos q4]; omega
      · rw [if_neg q4]; omega
    · rw [z_u2m (by omega), hz j (by omega)]
      congr 2
      unfold wm
      rw [if_pos (by omega), if_pos (by omega)]
  refine w_m_packs hM ?_
  rw [er, pk_div (by omega) (by decide) (by decide), z_add, z_mul, z_eq (by omega) (by decide)]
  refine z_br (fun q => z_ixi (by omega) (by decide) (fin _ ?_)) (fun q => z_ixi (by omega) (by decide) (z_ixi (by omega) (by decide) (fin _ ?_)))
  · rw [q, wd1, show 4 * (k / 4) = k by omega]
  · have hw := hz (k / 4) (by omega)
    have hm : wm k (k / 4) = k % 4 := by unfold wm; rw [if_neg (by omega)]; omega
    rw [hm] at hw
    rw [hw, z_shl8 (by omega) hc]
    have b0 := hb (4 * (k / 4)) (by omega)
    rcases (by omega : k % 4 = 1 ∨ k % 4 = 2 ∨ k % 4 = 3) with e | e | e
    · rw [e, wd1, z_orr (k := 8 * 1) (by omega) (by omega), show (1 + 1) = 2 from rfl, wd2, show 4 * (k / 4) + 1 = k by omega]
    · have b1 := hb (4 * (k / 4) + 1) (by omega)
      rw [e, wd2, z_orr (k := 8 * 2) (by omega) (by omega), show (2 + 1) = 3 from rfl, wd3, show 4 * (k / 4) + 2 = k by omega]
    · have b1 := hb (4 * (k / 4) + 1) (by omega)
      have b2 := hb (4 * (k / 4) + 2) (by omega)
      rw [e, wd3, z_orr (k := 8 * 3) (by omega) (by omega), show (3 + 1) = 4 from rfl, wd4, show 4 * (k / 4) + 3 = k by omega]
end PK
