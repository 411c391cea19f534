/-! RENDERING: packed characters read, compared; a text stored -/
section PD
variable {Gm : mj_G} {f : mm_F} {d fm k n : Nat} {ch : Nat → Nat}
theorem z_shr8 {W m : Nat} (hm : m ≤ 3) (hW : W < 2 ^ 31) : mm_shr (nI W) (nI (8 * m)) &&& nI 255 = nI (W / 2 ^ (8 * m) % 256) := by
  have go : ∀ k (n : Int32), (n.toBitVec.smod 32).toNat = k → nI W >>> n &&& nI 255 = nI (W / 2 ^ k % 256) := fun k n hn => by
    rw [z_shr (k := k) hW hn, z_msk (k := 8) (Nat.lt_of_le_of_lt (Nat.div_le_self _ _) hW) (by decide)]
  rcases (by omega : m = 0 ∨ m = 1 ∨ m = 2 ∨ m = 3) with rfl | rfl | rfl | rfl
  · exact go 0 (nI 0 &&& 31) (by decide)
  · exact go 8 (nI 8 &&& 31) (by decide)
  · exact go 16 (nI 16 &&& 31) (by decide)
  · exact go 24 (nI 24 &&& 31) (by decide)
theorem p_packed {K : Int32 → mm_F → Prop} (hM : mm_S Gm) (hz : pz f fm n ch) (hb : ∀ i, i < n → ch i ≤ 126) (hk : k < n) (hn : n ≤ 300) (hf : fm + k / 4 < 50960) (hK : K (nI (ch k)) f) : m_packed Gm d (nI fm) (nI k) f K := by
  have er : mm_rem (nI k) (nI 4) = nI (k % 4) := pk_rem (by omega) (by decide) (by decide)
  have hw := hz (k / 4) (by omega)
  have b0 := hb (4 * (k / 4)) (by omega)
  refine w_m_packed hM ?_
  rw [er, pk_div (by omega) (by decide) (by decide), z_add, z_mul]
  refine z_ixi (by omega) (by decide) ?_
  rw [hw]
  -- the word, by how much of it is filled
  have fin : ∀ W, wd ch (k / 4) (wm n (k / 4)) = W → W < 2 ^ 31 → W / 2 ^ (8 * (k % 4)) % 256 = ch k → K (mm_shr (nI W) (nI (8 * (k % 4))) &&& nI 255) f := fun W _ h1 h2 => by
    rw [z_shr8 (by omega) h1, h2]
    exact hK
  have hM4 : k % 4 < wm n (k / 4) ∧ wm n (k / 4) ≤ 4 ∧ 4 * (k / 4) + wm n (k / 4) ≤ n := by
    unfold wm
    by_cases q : 4 ≤ n - 4 * (k / 4)
    · rw [if_pos q]; omega
    · rw [if_neg q]; omega
  have ek : 4 * (k / 4) + k % 4 = k := by omega
  have d0 : ∀ W, W / 2 ^ (8 * 0) = W := fun W => Nat.div_one W
  have d1 : (2 : Nat) ^ (8 * 1) = 256 := rfl
  have d2 : (2 : Nat) ^ (8 * 2) = 65536 := rfl
  have d3 : (2 : Nat) ^ (8 * 3) = 16777216 := rfl
  generalize hMM : wm n (k / 4) = M at hM4 fin ⊢
  generalize hmm : k % 4 = m at hM4 ek fin ⊢
  rcases (by omega : M = 1 ∨ M = 2 ∨ M = 3 ∨ M = 4) with rfl | rfl | rfl | rfl
  · refine fin _ rfl (by rw [wd1]; omega) ?_
    obtain rfl : m = 0 := by omega
    rw [d0, wd1, show 4 * (k / 4) = k by omega] at *
    omega
  · have b1 := hb (4 * (k / 4) + 1) (by omega)
    refine fin _ rfl (by rw [wd2]; omega) ?_
    rcases (by omega : m = 0 ∨ m = 1) with rfl | rfl
    · rw [d0, wd2]
      rw [show ch k = ch (4 * (k / 4)) by rw [show 4 * (k / 4) = k by omega]]
      omega
    · rw [d1, wd2]
      rw [show ch k = ch (4 * (k / 4) + 1) by rw [ek]]
      omega
  · have b1 := hb (4 * (k / 4) + 1) (by omega)
    have b2 := hb (4 * (k / 4) + 2) (by omega)
    refine fin _ rfl (by rw [wd3]; omega) ?_
    rcases (by omega : m = 0 ∨ m = 1 ∨ m = 2) with rfl | rfl | rfl
    · rw [d0, wd3]
      rw [show ch k = ch (4 * (k / 4)) by rw [show 4 * (k / 4) = k by omega]]
      omega
    · rw [d1, wd3]
      rw [show ch k = ch (4 * (k / 4) + 1) by rw [ek]]
      omega
    · rw [d2, wd3]
      rw [show ch k = ch (4 * (k / 4) + 2) by rw [ek]]
      omega
  · have b1 := hb (4 * (k / 4) + 1) (by omega)
    have b2 := hb (4 * (k / 4) + 2) (by omega)
    have b3 := hb (4 * (k / 4) + 3) (by omega)
    refine fin _ rfl (by rw [wd4]; omega) ?_
    rcases (by omega : m = 0 ∨ m = 1 ∨ m = 2 ∨ m = 3) with rfl | rfl | rfl | rfl
    · rw [d0, wd4]
      rw [show ch k = ch (4 * (k / 4)) by rw [show 4 * (k / 4) = k by omega]]
      omega
    · rw [d1, wd4]
      rw [show ch k = ch (4 * (k / 4) + 1) by rw [ek]]
      omega
    · rw [d2, wd4]
      rw [show ch k = ch (4 * (k / 4) + 2) by rw [ek]]
      omega
    · rw [d3, wd4]
      rw [show ch k = ch (4 * (k / 4) + 3) by rw [ek]]
      omega
end PD
