/-! VALUES THAT ARE NOT SAFE UNLESS FORESEEN -/
/-- a character of a number, or a comma -/
def TD (x : Nat) : Prop := x = 45 ∨ (48 ≤ x ∧ x ≤ 57) ∨ x = 44
section E01
variable {D : Nat → rv} {I : Nat → Nat → rv} {B : Nat → Nat} {V : Nat → Nat → Option rv} {M : Nat} {S : Nat → Nat} {x : Nat} {G0 : mj_G} {v w : rv} {c : Nat}
theorem tme_N {y : Int32} : tme (rv_N y) := fun h => absurd h (by show ¬ 1 = 2; decide)
theorem tme_0 : tme rv_0 := fun h => absurd h (by show ¬ 0 = 2; decide)
theorem tme_f (h : rv_s v = false) : tme v := fun _ q => by rw [h] at q; exact absurd q (by decide)
theorem TD_dg {y : Int32} {j : Nat} : TD (dg_c y j) := (dg_cd y j).imp id Or.inl
theorem jn_td {l : Nat} : ∀ {k : Nat}, (jn I l k).2.2 = true → ∀ j, j < (jn I l k).1 → TD ((jn I l k).2.1 j)
  | 0, _, j, hj => absurd hj (Nat.not_lt_zero j)
  | k + 1, h, j, hj => by
    have hc : (jn_c k (jn I l k)).2.2 = true → ∀ j, j < (jn_c k (jn I l k)).1 → TD ((jn_c k (jn I l k)).2.1 j) := fun h j hj => by
      unfold jn_c at h hj ⊢
      by_cases q : k = 0
      · rw [if_pos q] at h hj ⊢
        exact jn_td h j hj
      · rw [if_neg q] at h hj ⊢
        show TD (rv_ap (jn I l k).1 (jn I l k).2.1 (fun _ => 44) j)
        by_cases t : j < (jn I l k).1
        · rw [rv_ap1 t]
          exact jn_td h j t
        · rw [show rv_ap (jn I l k).1 (jn I l k).2.1 (fun _ => 44) j = 44 from if_neg t]
          exact Or.inr (Or.inr rfl)
    have h' : (jn_i (jn_c k (jn I l k)) (I l k)).2.2 = true := h
    have hj' : j < (jn_i (jn_c k (jn I l k)) (I l k)).1 := hj
    show TD ((jn_i (jn_c k (jn I l k)) (I l k)).2.1 j)
    unfold jn_i at h' hj' ⊢
    by_cases q : rv_t (I l k) = 1
    · rw [if_pos q] at h' hj' ⊢
      show TD (rv_ap (jn_c k (jn I l k)).1 (jn_c k (jn I l k)).2.1 (dg_c (rv_n (I l k))) j)
      by_cases t : j < (jn_c k (jn I l k)).1
      · rw [rv_ap1 t]
        exact hc h' j t
      · rw [show rv_ap (jn_c k (jn I l k)).1 (jn_c k (jn I l k)).2.1 (dg_c (rv_n (I l k))) j = dg_c (rv_n (I l k)) (j - (jn_c k (jn I l k)).1) from if_neg t]
        exact TD_dg
    · rw [if_neg q] at h'
      exact absurd h' (by show ¬ false = true; decide)
theorem rv_u_td {y : Nat} (h : TD y) : TD (rv_u y) := by
  unfold rv_u
  unfold TD at h ⊢
  rw [if_neg (by omega)]
  exact h
/-- a filter that is not r makes nothing safe -/
theorem tme_fi (h : tme v) (hc : c ≠ 114) : tme (rv_fi I c v).2 := by
  unfold rv_fi
  by_cases q1 : c = 106
  · rw [if_pos q1]
    by_cases q2 : rv_t v = 3
    · rw [if_pos q2]
      by_cases q3 : (jn I (rv_d v) (rv_l v)).1 ≤ 300
      · rw [if_pos q3]
        exact fun _ hs j hj => jn_td hs j hj
      · rw [if_neg q3]
        exact tme_0
    · rw [if_neg q2]
      exact tme_0
  · rw [if_neg q1]
    by_cases q2 : c = 108
    · rw [if_pos q2]
      by_cases q3 : 2 ≤ rv_t v
      · rw [if_pos q3]
        exact tme_N
      · rw [if_neg q3]
        exact tme_0
    · rw [if_neg q2]
      by_cases q3 : rv_t v = 2
      · rw [if_pos q3]
        by_cases q4 : c = 117
        · rw [if_pos q4]
          exact fun _ hs j hj => rv_u_td (h q3 hs j hj)
        · rw [if_neg q4, if_neg hc]
          show tme (rv_rd v)
          unfold rv_rd
          by_cases q5 : (rv_rn v).1 = true
          · rw [if_pos q5]
            exact tme_N
          · rw [if_neg q5]
            exact tme_0
      · rw [if_neg q3]
        exact tme_0
theorem tme_op (h : tme v) (h2 : tme w) : tme (rv_op I c v w).2 := by
  unfold rv_op
  by_cases q1 : c = 38
  · rw [if_pos q1]
    exact tme_N
  rw [if_neg q1]
  by_cases q2 : c = 61
  · rw [if_pos q2]
    exact tme_N
  rw [if_neg q2]
  by_cases q3 : rv_t v = 1 ∧ rv_t w = 1
  · rw [if_pos q3]
    by_cases q4 : c = 60
    · rw [if_pos q4]
      exact tme_N
    rw [if_neg q4]
    by_cases q5 : lg_cmp (rv_ar c (rv_n v) (rv_n w)) (rv_ar c (rv_n v) (rv_n w)).toInt32.toInt64 = nI 0
    · rw [if_pos q5]
      exact tme_N
    · rw [if_neg q5]
      exact tme_0
  rw [if_neg q3]
  by_cases q4 : rv_t v = 2 ∧ rv_t w = 2
  · rw [if_pos q4]
    by_cases q5 : c = 43
    · rw [if_pos q5]
      by_cases q6 : rv_l v + rv_l w ≤ 300
      · rw [if_pos q6]
        intro _ hs j hj
        have hs' : (rv_s v && rv_s w) = true := hs
        rw [Bool.and_eq_true] at hs'
        have hj' : j < rv_l v + rv_l w := hj
        show TD (rv_ap (rv_l v) (rv_c v) (rv_c w) j)
        by_cases t : j < rv_l v
        · rw [rv_ap1 t]
          exact h q4.1 hs'.1 j t
        · rw [show rv_ap (rv_l v) (rv_c v) (rv_c w) j = rv_c w (j - rv_l v) from if_neg t]
          exact h2 q4.2 hs'.2 _ (by omega)
      · rw [if_neg q6]
        exact tme_0
    · rw [if_neg q5]
      by_cases q6 : c = 60
      · rw [if_pos q6]
        exact tme_N
      · rw [if_neg q6]
        exact tme_0
  · rw [if_neg q4]
    exact tme_0
theorem tme_it (hD : da D I) (hv : rv_in D v) {k : Nat} : tme (rv_it I v k).2 := by
  unfold rv_it
  by_cases q1 : rv_t v = 3
  · rw [if_pos q1]
    by_cases q2 : k < rv_l v
    · rw [if_pos q2]
      obtain ⟨d1, d2⟩ := hv.2 q1
      obtain ⟨-, d3⟩ := hv.1.2.2.2.2 q1
      obtain ⟨-, g⟩ := hD (rv_d v) d3
      obtain ⟨-, g2⟩ := g d1
      obtain ⟨-, g3⟩ := g2 k (by omega)
      rcases g3 with g3 | ⟨-, g3, -⟩
      · exact fun t => absurd (g3.symm.trans t) (by decide)
      · exact tme_f g3
    · rw [if_neg q2]
      exact tme_0
  · rw [if_neg q1]
    exact tme_0
end E01
