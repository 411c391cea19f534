/-! EXPRESSIONS ARE READ: the class's leaves -/
section ZP
variable {G : mj_G} {a b k j : Nat} {x y : Int32}
theorem z_ge {G H : mj_G} (h1 : mj_n G = mj_n H) (h2 : mj_u G = mj_u H) (h3 : mj_k G = mj_k H) (h4 : mj_l G = mj_l H) (h5 : mj_i G = mj_i H) (h6 : mj_r G = mj_r H) (h7 : mj_j G = mj_j H) : G = H :=
  Prod.ext h1 (Prod.ext h2 (Prod.ext h3 (Prod.ext h4 (Prod.ext h5 (Prod.ext h6 h7)))))
theorem z_pII : mj_pI (mj_pI G a k x) a k y = mj_pI G a k y := z_ge rfl rfl rfl rfl z_u2u rfl rfl
theorem z_pIi (h : mj_i G a k = x) : mj_pI G a k x = G := by
  subst h
  exact z_ge rfl rfl rfl rfl z_u2i rfl rfl
theorem z_u2c {α : Type} {g : Nat → Nat → α} {v z : α} (h : ¬ (a = b ∧ k = j)) : mj_u2 (mj_u2 g a k v) b j z = mj_u2 (mj_u2 g b j z) a k v := by
  funext c i
  by_cases h1 : c = b ∧ i = j
  · have h2 : ¬ (c = a ∧ i = k) := fun q => h ⟨q.1.symm.trans h1.1, q.2.symm.trans h1.2⟩
    exact (if_pos h1).trans ((if_neg h2).trans (if_pos h1)).symm
  · by_cases h2 : c = a ∧ i = k
    · exact ((if_neg h1).trans (if_pos h2)).trans (if_pos h2).symm
    · exact ((if_neg h1).trans (if_neg h2)).trans ((if_neg h2).trans (if_neg h1)).symm
theorem z_pIc (h : ¬ (a = b ∧ k = j)) : mj_pI (mj_pI G a k x) b j y = mj_pI (mj_pI G b j y) a k x :=
  congrArg (fun I => ((mj_n G, mj_u G, mj_k G, mj_l G, I, mj_r G, mj_j G) : mj_G)) (z_u2c h)
end ZP
section EX
variable {G : mj_G} {rd : Nat} {w : Nat → Nat} {n p d : Nat}
theorem c_Ex_init {K : mj_G → Prop} {e : Nat} {x : Int32} (hS : cs_S G) (hk : mj_k G e = 1) (h : K (mj_pI (mj_pR G e 3 2) e 0 x)) : Ex_init d e x G K := by
  refine w_Ex_init hS ⟨by rw [hk]; decide, hk, ?_⟩
  rintro _ rfl
  rintro _ rfl
  exact h
theorem c_readOperator {K : Int32 → mj_G → Prop} (hS : cs_S G) (hR : rd_R G rd w n) (hO : rd_O G rd p) (hd : 1 ≤ d) (hp : p ≤ 80) (h1 : tx_O (w p) → K (nI (w p)) (mj_pI G rd 4 (nI (p + 1)))) (h2 : ¬ tx_O (w p) → K (nI 0) (mj_pI G rd 5 (nI p))) : Rd_readOperator d rd G K := by
  obtain ⟨d, rfl⟩ : ∃ e, d = e + 1 := ⟨d - 1, by omega⟩
  refine w_Rd_readOperator hS ⟨hR.2.1, ?_⟩
  rw [hO.1]
  have hw := tx_le hR.1 p
  refine c_sign hS hR (by omega) ?_
  have st : tx_O (w p) → (mj_k G rd = 8) ∧ ∀ G5, G5 = mj_pI G rd 4 (mj_i G rd 4 + nI 1) → mj_c (nI (w p)) ∧ K (nI (w p)) G5 := fun ho => by
    refine ⟨hR.2.1, ?_⟩
    rintro _ rfl
    rw [hO.1, z_add]
    exact ⟨z_cc (by omega), h1 ho⟩
  rw [z_eq (by omega) (by omega), z_eq (by omega) (by omega), z_eq (by omega) (by omega), z_eq (by omega) (by omega), z_eq (by omega) (by omega), z_eq (by omega) (by omega), z_eq (by omega) (by omega)]
  unfold tx_O at st h2
  refine z_br (fun h => st (by omega)) (fun h => ?_)
  refine z_br (fun h => st (by omega)) (fun h => ?_)
  refine z_br (fun h => st (by omega)) (fun h => ?_)
  refine z_br (fun h => st (by omega)) (fun h => ?_)
  refine z_br (fun h => st (by omega)) (fun h => ?_)
  refine z_br (fun h => st (by omega)) (fun h => ?_)
  refine z_br (fun h => st (by omega)) (fun h => ?_)
  exact ⟨hR.2.1, c_reject hS hR hO (h2 (by omega))⟩
theorem c_readOperatorF {K : Int32 → mj_G → Prop} {e : Nat} (hS : cs_S G) (hR : rd_R G rd w n) (h5 : mj_i G rd 5 = nI e) (he : e ≤ 80) (hd : 1 ≤ d) (h : ∀ v x, v ≤ 126 → K (nI v) (mj_pI G rd 4 x)) : Rd_readOperator d rd G K := by
  obtain ⟨d, rfl⟩ : ∃ e, d = e + 1 := ⟨d - 1, by omega⟩
  refine w_Rd_readOperator hS ⟨hR.2.1, c_sign' hS hR fun v hv => ?_⟩
  have st : (mj_k G rd = 8) ∧ ∀ G5, G5 = mj_pI G rd 4 (mj_i G rd 4 + nI 1) → mj_c (nI v) ∧ K (nI v) G5 := by
    refine ⟨hR.2.1, ?_⟩
    rintro _ rfl
    exact ⟨z_cc (by omega), h v _ hv⟩
  refine z_br (fun _ => st) (fun _ => ?_)
  refine z_br (fun _ => st) (fun _ => ?_)
  refine z_br (fun _ => st) (fun _ => ?_)
  refine z_br (fun _ => st) (fun _ => ?_)
  refine z_br (fun _ => st) (fun _ => ?_)
  refine z_br (fun _ => st) (fun _ => ?_)
  refine z_br (fun _ => st) (fun _ => ?_)
  refine ⟨hR.2.1, c_rejectF hS hR h5 he ?_⟩
  have := h 0 (mj_i G rd 4) (by omega)
  rw [z_pIi rfl] at this
  exact this
/-- a numeral's digits, from the i-th one on -/
theorem c_numeral {K : Nat → mj_G → Prop} {e M : Nat} (hS : cs_S G) (hR : rd_R G rd w n) (he : mj_k G e = 1) (hne : e ≠ rd) (hd : 16 ≤ d) (hM : M ≤ 4) (hpM : p + M ≤ n) (hq : ∀ j, p ≤ j → j < p + M → tx_D (w j)) (hx : M < 4 → ¬ tx_D (w (p + M)))
    (h : K e (mj_pI (mj_pI G e 1 (nI (tx_num w p M))) rd 4 (nI (p + M)))) : ∀ {m i}, i + m = M → Rd_readNumeral_11 d rd e (nI i) (mj_pI (mj_pI G e 1 (nI (tx_num w p i))) rd 4 (nI (p + i))) K
  | 0, i, hm => by
    obtain ⟨d, rfl⟩ : ∃ e, d = e + 1 := ⟨d - 1, by omega⟩
    have hi : i = M := hm
    subst hi
    have hn := hR.1.1
    have hw := tx_le hR.1 (p + i)
    refine w_Rd_readNumeral_11 (cs_pI (cs_pI hS)) (by omega) ?_
    rw [z_le (by omega) (by omega)]
    refine z_br (fun _ => h) (fun hc => ⟨hR.2.1, ?_⟩)
    rw [z_iIs]
    have hR' : rd_R (mj_pI (mj_pI G e 1 (nI (tx_num w p i))) rd 4 (nI (p + i))) rd w n := by
      obtain ⟨hW, r1, r2, r3, r4, r5, r6⟩ := hR
      refine ⟨hW, r1, r2, r3, r4, ?_, fun k hk => ?_⟩
      · rw [z_iIm (by decide), z_iIn (Ne.symm hne)]
        exact r5
      · rw [z_iIn (by omega), z_iIn]
        · exact r6 k hk
        · intro h4
          rw [← h4, cs_k (K := 22) hS rfl] at he
          exact absurd he (by decide)
    refine c_sign (cs_pI (cs_pI hS)) hR' (by omega) ?_
    rw [z_12030 (by omega)]
    exact z_bf (hx (by omega)) h
  | m + 1, i, hm => by
    have ih := c_numeral (K := K) hS hR he hne hd hM hpM hq hx h (m := m) (i := i + 1)
    obtain ⟨d, rfl⟩ : ∃ e, d = e + 1 := ⟨d - 1, by omega⟩
    have hn := hR.1.1
    have hw := tx_le hR.1 (p + i)
    have hD := hq (p + i) (by omega) (by omega)
    refine w_Rd_readNumeral_11 (cs_pI (cs_pI hS)) (by omega) ?_
    rw [z_le (by omega) (by omega)]
    refine z_bf (by omega) ⟨hR.2.1, ?_⟩
    rw [z_iIs]
    have hR' : rd_R (mj_pI (mj_pI G e 1 (nI (tx_num w p i))) rd 4 (nI (p + i))) rd w n := by
      obtain ⟨hW, r1, r2, r3, r4, r5, r6⟩ := hR
      refine ⟨hW, r1, r2, r3, r4, ?_, fun k hk => ?_⟩
      · rw [z_iIm (by decide), z_iIn (Ne.symm hne)]
        exact r5
      · rw [z_iIn (by omega), z_iIn]
        · exact r6 k hk
        · intro h4
          rw [← h4, cs_k (K := 22) hS rfl] at he
          exact absurd he (by decide)
    refine c_sign (cs_pI (cs_pI hS)) hR' (by omega) ?_
    rw [z_12030 (by omega)]
    refine z_bt hD ⟨he, hR.2.1, ?_⟩
    rw [z_iIs]
    refine c_sign (cs_pI (cs_pI hS)) hR' (by omega) ⟨he, ?_⟩
    rintro _ rfl
    refine ⟨hR.2.1, ?_⟩
    rintro _ rfl
    rw [z_iIn hne, z_iIs, z_iIn (Ne.symm hne), z_iIs, z_add, z_add, z_mul, z_add, z_sub (by have := hD.1; omega)]
    rw [z_pIc (a := rd) (b := e) (fun q => hne q.1.symm), z_pII, z_pII]
    have e1 : 10 * tx_num w p i + w (p + i) - 48 = tx_num w p (i + 1) := by
      show _ = 10 * tx_num w p i + (w (p + i) - 48)
      have := hD.1
      omega
    rw [e1, show p + i + 1 = p + (i + 1) from rfl]
    exact ih (by omega)
/-- how many digits there are: one to four -/
theorem tx_digits {w : Nat → Nat} {n p : Nat} (hW : tx_W w n) (h : tx_D (w p)) : ∃ M, 1 ≤ M ∧ M ≤ 4 ∧ p + M ≤ n ∧ (∀ j, p ≤ j → j < p + M → tx_D (w j)) ∧ (M < 4 → ¬ tx_D (w (p + M))) := by
  have inn : ∀ {k}, tx_D (w k) → k < n := fun hk => tx_in hW (by have := hk.1; omega)
  have i0 := inn h
  by_cases h1 : tx_D (w (p + 1))
  · have i1 := inn h1
    by_cases h2 : tx_D (w (p + 2))
    · have i2 := inn h2
      by_cases h3 : tx_D (w (p + 3))
      · have i3 := inn h3
        refine ⟨4, by omega, by omega, by omega, fun j a b => ?_, fun q => absurd q (by omega)⟩
        rcases (by omega : j = p ∨ j = p + 1 ∨ j = p + 2 ∨ j = p + 3) with rfl | rfl | rfl | rfl <;> assumption
      · refine ⟨3, by omega, by omega, by omega, fun j a b => ?_, fun _ => h3⟩
        rcases (by omega : j = p ∨ j = p + 1 ∨ j = p + 2) with rfl | rfl | rfl <;> assumption
    · refine ⟨2, by omega, by omega, by omega, fun j a b => ?_, fun _ => h2⟩
      rcases (by omega : j = p ∨ j = p + 1) with rfl | rfl <;> assumption
  · refine ⟨1, by omega, by omega, by omega, fun j a b => ?_, fun _ => h1⟩
    rcases (by omega : j = p) with rfl
    assumption
/-- up to where a text in ' goes -/
theorem tx_quote {w : Nat → Nat} {n : Nat} (hW : tx_W w n) : ∀ {m p : Nat}, p + m = n → ∃ e, p ≤ e ∧ e ≤ n ∧ (∀ j, p ≤ j → j < e → tx_Q (w j)) ∧ ¬ tx_Q (w e)
  | 0, p, hm => ⟨p, Nat.le_refl _, by omega, fun j a b => absurd a (by omega), fun q => q.2.2.2 (hW.2.2 p (by omega))⟩
  | m + 1, p, hm => by
    by_cases h : tx_Q (w p)
    · obtain ⟨e, h1, h2, h3, h4⟩ := tx_quote hW (m := m) (p := p + 1) (by omega)
      refine ⟨e, by omega, h2, fun j a b => ?_, h4⟩
      by_cases hj : j = p
      · rw [hj]; exact h
      · exact h3 j (by omega) b
    · exact ⟨p, Nat.le_refl _, by omega, fun j a b => absurd a (by omega), h⟩
end EX
