/-! SCANS OVER A TEMPLATE'S TEXT, by its tree -/
section BO
variable {G G' : mj_G} {f : mm_F} {t : Nat} {w : Nat → Nat} {n d : Nat} {A : Nat → Prop} {hm : Int32}
theorem tx_nxi {k : Nat} (h : k < n) : tx_nx w n k = nI (w k) := if_pos h
theorem bo_step {p D : Nat} {K : Int32 → mm_F → Prop} (hS : mm_S G) (hT : mt_T f t w n) (hd : 15 ≤ d) (hp : w p = 123) (hD : D ≤ 1000) (hp1 : p + 1 < n) (h1 : D = 0 → (w (p + 1) = 58 ∨ w (p + 1) = 59) → K (nI p) f) (h2 : tx_B (w (p + 1)) → m_borderOf_5 G (d + 1) (nI t) (nI (D + 1)) (nI (p + 1)) f K)
    (h3 : D ≠ 0 → w (p + 1) = 59 → m_borderOf_5 G (d + 1) (nI t) (nI (D - 1)) (nI (p + 1)) f K) (h4 : ¬ tx_B (w (p + 1)) → ¬ w (p + 1) = 59 → ¬ (D = 0 ∧ w (p + 1) = 58) → m_borderOf_5 G (d + 1) (nI t) (nI D) (nI (p + 1)) f K) : m_borderOf_5 G (d + 1) (nI t) (nI D) (nI p) f K := by
  have hn := hT.2.1.1
  have hw := tx_le hT.2.1 (p + 1)
  refine w_m_borderOf_5 hS hd (c_letter hS hT (by omega) ?_)
  rw [tx_nxi (by omega)]
  refine z_bt (by rw [hp]) ?_
  rw [z_add]
  refine c_letter hS hT (by omega) ?_
  rw [tx_nxi hp1, z_eq (by omega) (by omega), z_eq (by omega) (by omega), z_eq (by omega) (by omega), z_13070 (by omega), z_add, z_add]
  have rest : ¬ (D = 0 ∧ (w (p + 1) = 58 ∨ w (p + 1) = 59)) → mm_br (tx_B (w (p + 1))) (m_borderOf_5 G (d + 1) (nI t) (nI (D + 1)) (nI (p + 1)) f K) (mm_br (w (p + 1) = 59) (m_borderOf_5 G (d + 1) (nI t) (nI D + Int32.ofInt (-1)) (nI (p + 1)) f K) (m_borderOf_5 G (d + 1) (nI t) (nI (D + 0)) (nI (p + 1)) f K)) := fun hx => by
    refine z_br h2 (fun hB => z_br (fun h59 => ?_) (fun h59 => h4 hB h59 (fun q => hx ⟨q.1, Or.inl q.2⟩)))
    have hD0 : D ≠ 0 := fun q => hx ⟨q, Or.inr h59⟩
    obtain ⟨D, rfl⟩ : ∃ E, D = E + 1 := ⟨D - 1, by omega⟩
    have e : nI (D + 1) + Int32.ofInt (-1) = nI D := by
      rw [← z_add, Int32.add_assoc]
      show nI D + 0 = nI D
      exact Int32.add_zero _
    rw [e]
    exact h3 hD0 h59
  refine z_br (fun hD0 => z_br (fun h => h1 hD0 (Or.inl h)) (fun h => z_br (fun h' => h1 hD0 (Or.inr h')) (fun h' => rest (fun q => q.2.elim h h')))) (fun hD0 => rest (fun q => hD0 q.1))
theorem bo_two {q D : Nat} {K : Int32 → mm_F → Prop} (hS : mm_S G) (hT : mt_T f t w n) (hd : 15 ≤ d) (hD : D ≤ 900) (hq : w q = 123) (hq1 : w (q + 1) = 58 ∨ w (q + 1) = 59) (hq2 : w (q + 2) = 125) (h1 : w (q + 1) = 58 → m_borderOf_5 G (d + 1) (nI t) (nI (D + 1)) (nI (q + 3)) f K)
    (h2 : w (q + 1) = 59 → m_borderOf_5 G (d + 1) (nI t) (nI D) (nI (q + 3)) f K) : m_borderOf_5 G (d + 1) (nI t) (nI (D + 1)) (nI q) f K := by
  have hn := hT.2.1.1
  have hqn : q + 2 < n := tx_in hT.2.1 (by omega)
  have sk : tx_M w (q + 1) (q + 3) := fun j a b => by
    rcases (by omega : j = q + 1 ∨ j = q + 2) with rfl | rfl <;> omega
  refine bo_step hS hT hd hq (by omega) (by omega) (fun h => absurd h (by omega)) (fun h => by unfold tx_B at h; omega) (fun _ h => ?_) (fun _ h _ => ?_)
  · exact bo_skip hS hT hd (by omega) (h2 h) (m := 2) rfl sk
  · exact bo_skip hS hT hd (by omega) (h1 (by omega)) (m := 2) rfl sk
theorem tb_sk {b : Int32} {r p e : Nat} (hH : tb_h A G' r b w p e) (he : w e = 125) : tx_M w (p + 1) (e + 1) := fun j a b => by
  obtain ⟨h1, h2⟩ := tb_h_ch hH
  by_cases hj : j = e
  · rw [hj]; omega
  · exact (h2 j a (by omega)).1
theorem bo_loop (hS : mm_S G) (hT : mt_T f t w n) (hd : 15 ≤ d) {K : Int32 → mm_F → Prop} : ∀ {k b r p q L D}, tb_B k A G' hm b r w p q L → q ≤ n → D + (q - p) ≤ 500 → m_borderOf_5 G (d + 1) (nI t) (nI D) (nI q) f K → m_borderOf_5 G (d + 1) (nI t) (nI D) (nI p) f K
  | 0, _, _, _, _, _, _, h, _, _, _ => h.elim
  | k + 1, b, r, p, q, L, D, h, hq, hD, hK => by
    have hn := hT.2.1.1
    have hle := tb_le h
    rcases h with ⟨-, rfl, -⟩ | ⟨-, -, -, -, -, a1, -, -, -, -, h⟩ | ⟨-, -, -, -, -, a1, aT, -, e, m, L1, L2, he, hH, h125, -, h13, h14⟩
    · exact hK
    · have hl2 := tb_le h
      refine bo_skip hS hT hd (e := p + 1) (by omega) (bo_loop hS hT hd h hq (by omega) hK) (m := 1) rfl (fun j a b => ?_)
      have : j = p := by omega
      rw [this]; exact a1
    · have hen : e < n := tx_in hT.2.1 (by omega)
      have hl2 := tb_le h13
      have sk := tb_sk hH h125
      have c58 : ¬ w (p + 1) = 58 ∧ ¬ w (p + 1) = 59 := by clear h14; unfold tx_T at aT; omega
      have nx : m ≤ q → e + 1 ≤ m → m_borderOf_5 G (d + 1) (nI t) (nI D) (nI m) f K := fun _ _ => bo_loop hS hT hd h13 hq (by clear h14; omega) hK
      rcases h14 with ⟨b1, rfl, -⟩ | ⟨b1, -, -, q1, b2, b3, b4, b5, rfl⟩ | ⟨b1, q1, q2, La, Lb, b2, b3, b4, b5, b6, b7, b8, b9, rfl, -⟩
      · refine bo_step hS hT hd a1 (by omega) (by omega) (fun _ h => absurd h (by omega)) (fun h => absurd h b1) (fun _ h => absurd h c58.2) (fun _ _ _ => ?_)
        exact bo_skip hS hT hd (e := e + 1) (by omega) (nx (by omega) (by omega)) (m := e - p) (by omega) sk
      · have hl3 := tb_le b2
        refine bo_step hS hT hd a1 (by omega) (by omega) (fun _ h => absurd h (by omega)) (fun _ => ?_) (fun _ h => absurd h c58.2) (fun h => absurd b1 h)
        refine bo_skip hS hT hd (e := e + 1) (by omega) ?_ (m := e - p) (by omega) sk
        refine bo_loop hS hT hd b2 (by omega) (by omega) ?_
        exact bo_two hS hT hd (by omega) b3 (Or.inr b4) b5 (fun h => absurd h (by omega)) (fun _ => nx (by omega) (by omega))
      · have hl3 := tb_le b2
        have hl4 := tb_le b6
        have q2n : q2 < n := tx_in hT.2.1 (by omega)
        refine bo_step hS hT hd a1 (by omega) (by omega) (fun _ h => absurd h (by omega)) (fun _ => ?_) (fun _ h => absurd h c58.2) (fun h => absurd (by unfold tx_B; omega) h)
        refine bo_skip hS hT hd (e := e + 1) (by omega) ?_ (m := e - p) (by omega) sk
        refine bo_loop hS hT hd b2 (by omega) (by omega) ?_
        refine bo_two hS hT hd (by omega) b3 (Or.inl b4) b5 (fun _ => ?_) (fun h => absurd h (by omega))
        refine bo_loop hS hT hd b6 (by omega) (by omega) ?_
        exact bo_two hS hT hd (by omega) b7 (Or.inr b8) b9 (fun h => absurd h (by omega)) (fun _ => nx (by omega) (by omega))
/-- what ends a body -/
theorem c_border {k s q r : Nat} {b : Int32} {L : List (Nat × Nat)} {K : Int32 → mm_F → Prop} (hS : mm_S G) (hT : mt_T f t w n) (hd : 16 ≤ d) (hB : tb_B k A G' hm b r w s q L) (hq : w q = 123) (hq1 : w (q + 1) = 58 ∨ w (q + 1) = 59) (h : K (nI q) f) : m_borderOf G d (nI t) (nI s) f K := by
  obtain ⟨d, rfl⟩ : ∃ e, d = e + 1 := ⟨d - 1, by omega⟩
  have hn := hT.2.1.1
  have hqn : q + 1 < n := tx_in hT.2.1 (by omega)
  refine w_m_borderOf hS (bo_loop hS hT (by omega) (D := 0) hB (by omega) (by omega) ?_)
  exact bo_step hS hT (by omega) hq (by decide) hqn (fun _ _ => h) (fun h' => by unfold tx_B at h'; omega) (fun h' => absurd rfl h') (fun _ h1 h2 => absurd ⟨rfl, by omega⟩ h2)
/-! the first tag of a kind -/
def tl_fx (w : Nat → Nat) (c g : Nat) : List (Nat × Nat) → Option (Nat × Nat)
  | [] => none
  | x :: L => if w (x.1 + 1) = c ∧ w (x.1 + 2) = g then some x else tl_fx w c g L
theorem tl_fx_app {c g : Nat} : ∀ {L M : List (Nat × Nat)}, tl_fx w c g (L ++ M) = (match tl_fx w c g L with | some x => some x | none => tl_fx w c g M)
  | [], M => rfl
  | x :: L, M => by
    show (if w (x.1 + 1) = c ∧ w (x.1 + 2) = g then some x else tl_fx w c g (L ++ M)) = (match (if w (x.1 + 1) = c ∧ w (x.1 + 2) = g then some x else tl_fx w c g L) with | some x => some x | none => tl_fx w c g M)
    by_cases hc : w (x.1 + 1) = c ∧ w (x.1 + 2) = g
    · rw [if_pos hc, if_pos hc]
    · rw [if_neg hc, if_neg hc]
      exact tl_fx_app
theorem tl_fd_x {c i : Nat} : ∀ {L : List (Nat × Nat)}, tl_fd w c i L = (match tl_fx w c (48 + i) L with | some x => x.2 | none => 0)
  | [] => rfl
  | x :: L => by
    show (if w (x.1 + 1) = c ∧ w (x.1 + 2) = 48 + i then x.2 else tl_fd w c i L) = (match (if w (x.1 + 1) = c ∧ w (x.1 + 2) = 48 + i then some x else tl_fx w c (48 + i) L) with | some x => x.2 | none => 0)
    by_cases hc : w (x.1 + 1) = c ∧ w (x.1 + 2) = 48 + i
    · rw [if_pos hc, if_pos hc]
    · rw [if_neg hc, if_neg hc]
      exact tl_fd_x
theorem tl_fx_in {c g : Nat} {x : Nat × Nat} : ∀ {L : List (Nat × Nat)}, tl_fx w c g L = some x → x ∈ L ∧ w (x.1 + 1) = c ∧ w (x.1 + 2) = g
  | [], h => by cases h
  | y :: L, h => by
    have h' : (if w (y.1 + 1) = c ∧ w (y.1 + 2) = g then some y else tl_fx w c g L) = some x := h
    by_cases hc : w (y.1 + 1) = c ∧ w (y.1 + 2) = g
    · rw [if_pos hc] at h'
      cases h'
      exact ⟨List.mem_cons_self .., hc⟩
    · rw [if_neg hc] at h'
      obtain ⟨h1, h2⟩ := tl_fx_in h'
      exact ⟨List.mem_cons_of_mem _ h1, h2⟩
theorem tl_fx_no {c g : Nat} : ∀ {L : List (Nat × Nat)}, tl_fx w c g L = none → ∀ x, x ∈ L → ¬ (w (x.1 + 1) = c ∧ w (x.1 + 2) = g)
  | [], _, x, hx => nomatch hx
  | y :: L, h, x, hx => by
    have h' : (if w (y.1 + 1) = c ∧ w (y.1 + 2) = g then some y else tl_fx w c g L) = none := h
    by_cases hc : w (y.1 + 1) = c ∧ w (y.1 + 2) = g
    · rw [if_pos hc] at h'
      cases h'
    · rw [if_neg hc] at h'
      rcases List.mem_cons.mp hx with rfl | hx
      · exact hc
      · exact tl_fx_no h' x hx
theorem tl_st_x {i : Nat} {L : List (Nat × Nat)} : tl_st w i L ↔ ∃ x, tl_fx w 37 (97 + i) L = some x := by
  constructor
  · rintro ⟨x, h1, h2⟩
    cases h : tl_fx w 37 (97 + i) L with
    | none => exact absurd h2 (tl_fx_no h x h1)
    | some y => exact ⟨y, rfl⟩
  · rintro ⟨x, h⟩
    obtain ⟨h1, h2⟩ := tl_fx_in h
    exact ⟨x, h1, h2⟩
def sc_M (F St : Nat → Prop) (q : Nat) : Option (Nat × Nat) → Prop
  | some x => F x.1
  | none => St q
theorem sc_skip {St : Nat → Prop} {e : Nat} (s1 : ∀ k, k < n → w k ≠ 123 → St (k + 1) → St k) (he : e ≤ n) (h : St e) : ∀ {m p : Nat}, p + m = e → tx_M w p e → St p
  | 0, p, hm, _ => by
    have : p = e := hm
    rw [this]; exact h
  | m + 1, p, hm, hq => s1 p (by omega) (hq p (Nat.le_refl _) (by omega)) (sc_skip s1 he h (m := m) (by omega) (fun j a b => hq j (by omega) b))
theorem sc_loop {St F : Nat → Prop} {c g : Nat} (hW : tx_W w n) (hc : c ≠ 58 ∧ c ≠ 59) (s1 : ∀ k, k < n → w k ≠ 123 → St (k + 1) → St k) (s2 : ∀ k, k < n → w k = 123 → ¬ (w (k + 1) = c ∧ w (k + 2) = g) → St (k + 1) → St k) (s3 : ∀ k, k < n → w k = 123 → w (k + 1) = c → w (k + 2) = g → F k → St k) :
    ∀ {k b r p q L}, tb_B k A G' hm b r w p q L → q ≤ n → sc_M F St q (tl_fx w c g L) → St p
  | 0, _, _, _, _, _, h, _, _ => h.elim
  | k + 1, b, r, p, q, L, h, hq, hK => by
    rcases h with ⟨-, rfl, rfl⟩ | ⟨-, -, -, -, -, a1, -, a0, -, -, h⟩ | ⟨-, -, -, -, -, a1, aT, -, e, m, L1, L2, he, hH, h125, rfl, h13, h14⟩
    · exact hK
    · exact s1 p (tx_in hW a0) a1 (sc_loop hW hc s1 s2 s3 h hq hK)
    · have hpn : p < n := tx_in hW (by omega)
      have hen : e < n := tx_in hW (by omega)
      by_cases hit : w (p + 1) = c ∧ w (p + 2) = g
      · rw [show tl_fx w c g ((p, r) :: (L1 ++ L2)) = some (p, r) from if_pos hit] at hK
        exact s3 p hpn a1 hit.1 hit.2 hK
      · rw [show tl_fx w c g ((p, r) :: (L1 ++ L2)) = tl_fx w c g (L1 ++ L2) from if_neg hit, tl_fx_app] at hK
        refine s2 p hpn a1 hit (sc_skip s1 (e := e + 1) (by omega) ?_ (m := e - p) (by omega) (tb_sk hH h125))
        -- an end or a turn at q1
        have two : ∀ {q1 : Nat}, w q1 = 123 → (w (q1 + 1) = 58 ∨ w (q1 + 1) = 59) → w (q1 + 2) = 125 → St (q1 + 3) → St q1 := fun {q1} g1 g2 g3 h => by
          clear h14
          have hqn : q1 + 2 < n := tx_in hW (by omega)
          exact s2 q1 (by omega) g1 (fun q => by omega) (s1 (q1 + 1) (by omega) (by omega) (s1 (q1 + 2) hqn (by omega) h))
        rcases h14 with ⟨-, rfl, rfl, -⟩ | ⟨-, -, -, q1, b2, b3, b4, b5, rfl⟩ | ⟨-, q1, q2, La, Lb, b2, b3, b4, b5, b6, b7, b8, b9, rfl, rfl⟩
        · exact sc_loop hW hc s1 s2 s3 h13 hq hK
        · have hq1 : q1 ≤ n := Nat.le_of_lt (tx_in hW (by omega))
          refine sc_loop hW hc s1 s2 s3 b2 hq1 ?_
          cases h1 : tl_fx w c g L1 with
          | some x =>
            rw [h1] at hK
            exact hK
          | none =>
            rw [h1] at hK
            exact two b3 (Or.inr b4) b5 (sc_loop hW hc s1 s2 s3 h13 hq hK)
        · have hq1 : q1 ≤ n := Nat.le_of_lt (tx_in hW (by omega))
          have hq2 : q2 ≤ n := Nat.le_of_lt (tx_in hW (by omega))
          refine sc_loop hW hc s1 s2 s3 b2 hq1 ?_
          rw [tl_fx_app] at hK
          cases h1 : tl_fx w c g La with
          | some x =>
            rw [h1] at hK
            exact hK
          | none =>
            rw [h1] at hK
            refine two b3 (Or.inl b4) b5 (sc_loop hW hc s1 s2 s3 b6 hq2 ?_)
            cases h2 : tl_fx w c g Lb with
            | some x =>
              rw [h2] at hK
              exact hK
            | none =>
              rw [h2] at hK
              exact two b7 (Or.inr b8) b9 (sc_loop hW hc s1 s2 s3 h13 hq hK)
/-- ahead of the body: nothing, or the parent's tag -/
theorem sc_all {St F : Nat → Prop} {c g k r s : Nat} {b pa : Int32} {L : List (Nat × Nat)} (hW : tx_W w n) (hc : c ≠ 58 ∧ c ≠ 59 ∧ c ≠ 60) (s1 : ∀ k, k < n → w k ≠ 123 → St (k + 1) → St k) (s2 : ∀ k, k < n → w k = 123 → ¬ (w (k + 1) = c ∧ w (k + 2) = g) → St (k + 1) → St k) (s3 : ∀ k, k < n → w k = 123 → w (k + 1) = c → w (k + 2) = g → F k → St k)
    (hP : tp_P w s pa) (hB : tb_B k A G' hm b r w s n L) (h : sc_M F St n (tl_fx w c g L)) : St 0 := by
  have h1 := sc_loop hW ⟨hc.1, hc.2.1⟩ s1 s2 s3 hB (Nat.le_refl _) h
  rcases hP with ⟨rfl, -⟩ | ⟨rfl, a1, a2, a3, a4, -⟩
  · exact h1
  · have h3 : 3 < n := tx_in hW (by omega)
    unfold tx_D at a3
    exact s2 0 (by omega) a1 (fun q => by have q1 : w 1 = c := q.1; omega) (s1 1 (by omega) (by omega) (s1 2 (by omega) (by omega) (s1 3 h3 (by omega) h1)))
theorem c_firstOf {c g k r s : Nat} {b pa : Int32} {L : List (Nat × Nat)} {K : Int32 → mm_F → Prop} (hS : mm_S G) (hT : mt_T f t w n) (hd : 2 ≤ d) (hc : 1 ≤ c ∧ c ≤ 126 ∧ c ≠ 58 ∧ c ≠ 59 ∧ c ≠ 60) (hg : 1 ≤ g ∧ g ≤ 126) (hP : tp_P w s pa) (hB : tb_B k A G' hm b r w s n L) (h1 : ∀ x, tl_fx w c g L = some x → K (nI x.1) f) (h2 : tl_fx w c g L = none → K (Int32.ofInt (-1)) f) :
    m_firstOf G d (nI t) (nI c) (nI g) f K := by
  obtain ⟨d, rfl⟩ : ∃ e, d = e + 1 := ⟨d - 1, by omega⟩
  have hW := hT.2.1
  have hn := hW.1
  refine w_m_firstOf hS ?_
  have len : ∀ k, k < n → ∀ {X : Nat → Prop}, m_letter G d (nI t) (nI k) f (fun v3 f2 => mm_br (v3 = (nI 123)) (m_letter G d (nI t) (nI k + (nI 1)) f2 (fun v5 f4 => mm_br (v5 = nI c) (m_letter G d (nI t) (nI k + (nI 2)) f4 (fun v7 f6 => mm_br (v7 = nI g) (K (nI k) f6) (m_firstOf_3 G (d + 1) (nI t) (nI c) (nI g) (nI k + nI 1) f6 K))) (m_firstOf_3 G (d + 1) (nI t) (nI c) (nI g) (nI k + nI 1) f4 K))) (m_firstOf_3 G (d + 1) (nI t) (nI c) (nI g) (nI k + nI 1) f2 K)) → m_firstOf_3 G (d + 1) (nI t) (nI c) (nI g) (nI k) f K := fun k hk X h => by
    refine w_m_firstOf_3 hS (z_ixi hT.1 (by decide) ?_)
    rw [hT.2.2.1, z_le (by omega) (by omega)]
    exact z_bf (by omega) h
  refine sc_all (c := c) (g := g) (St := fun k => m_firstOf_3 G (d + 1) (nI t) (nI c) (nI g) (nI k) f K) (F := fun k => K (nI k) f) hW ⟨hc.2.2.1, hc.2.2.2.1, hc.2.2.2.2⟩ (fun k hk h123 h => ?_) (fun k hk h123 hno h => ?_) (fun k hk h123 hc1 hg1 h => ?_) hP hB ?_
  · refine len k hk (X := fun _ => True) (c_letter hS hT (by omega) ?_)
    rw [tx_nxe hW (by decide), z_add]
    exact z_bf h123 h
  · refine len k hk (X := fun _ => True) (c_letter hS hT (by omega) ?_)
    rw [tx_nxe hW (by decide), z_add, z_add]
    refine z_bt h123 (c_letter hS hT (by omega) ?_)
    rw [tx_nxe hW ⟨hc.1, hc.2.1⟩]
    refine z_br (fun q => c_letter hS hT (by omega) ?_) (fun _ => h)
    rw [tx_nxe hW hg]
    exact z_bf (fun q' => hno ⟨q, q'⟩) h
  · refine len k hk (X := fun _ => True) (c_letter hS hT (by omega) ?_)
    rw [tx_nxe hW (by decide), z_add, z_add]
    refine z_bt h123 (c_letter hS hT (by omega) ?_)
    rw [tx_nxe hW ⟨hc.1, hc.2.1⟩]
    refine z_bt hc1 (c_letter hS hT (by omega) ?_)
    rw [tx_nxe hW hg]
    exact z_bt hg1 h
  · cases h : tl_fx w c g L with
    | some x => exact h1 x h
    | none =>
      refine w_m_firstOf_3 hS (z_ixi hT.1 (by decide) ?_)
      rw [hT.2.2.1, z_le (by omega) (by omega)]
      exact z_bt (Nat.le_refl _) (h2 h)
theorem c_isSetAnywhere {i k r s : Nat} {b pa : Int32} {L : List (Nat × Nat)} {K : Bool → mm_F → Prop} (hS : mm_S G) (hT : mt_T f t w n) (hd : 2 ≤ d) (hi : i < 26) (hP : tp_P w s pa) (hB : tb_B k A G' hm b r w s n L) (h1 : tl_st w i L → K true f) (h2 : ¬ tl_st w i L → K false f) :
    m_isSetAnywhere G d (nI t) (nI (97 + i)) f K := by
  obtain ⟨d, rfl⟩ : ∃ e, d = e + 1 := ⟨d - 1, by omega⟩
  have hW := hT.2.1
  have hn := hW.1
  refine w_m_isSetAnywhere hS ?_
  have len : ∀ k, k < n → m_letter G d (nI t) (nI k) f (fun v3 f2 => mm_br (v3 = (nI 123)) (m_letter G d (nI t) (nI k + (nI 1)) f2 (fun v5 f4 => mm_br (v5 = nI 37) (m_letter G d (nI t) (nI k + (nI 2)) f4 (fun v7 f6 => mm_br (v7 = nI (97 + i)) (K true f6) (m_isSetAnywhere_2 G (d + 1) (nI t) (nI (97 + i)) (nI k + nI 1) f6 K))) (m_isSetAnywhere_2 G (d + 1) (nI t) (nI (97 + i)) (nI k + nI 1) f4 K))) (m_isSetAnywhere_2 G (d + 1) (nI t) (nI (97 + i)) (nI k + nI 1) f2 K)) → m_isSetAnywhere_2 G (d + 1) (nI t) (nI (97 + i)) (nI k) f K := fun k hk h => by
    refine w_m_isSetAnywhere_2 hS (z_ixi hT.1 (by decide) ?_)
    rw [hT.2.2.1, z_le (by omega) (by omega)]
    exact z_bf (by omega) h
  refine sc_all (c := 37) (g := 97 + i) (St := fun k => m_isSetAnywhere_2 G (d + 1) (nI t) (nI (97 + i)) (nI k) f K) (F := fun k => K true f) hW (by decide) (fun k hk h123 h => ?_) (fun k hk h123 hno h => ?_) (fun k hk h123 hc1 hg1 h => ?_) hP hB ?_
  · refine len k hk (c_letter hS hT (by omega) ?_)
    rw [tx_nxe hW (by decide), z_add]
    exact z_bf h123 h
  · refine len k hk (c_letter hS hT (by omega) ?_)
    rw [tx_nxe hW (by decide), z_add, z_add]
    refine z_bt h123 (c_letter hS hT (by omega) ?_)
    rw [tx_nxe hW (by decide)]
    refine z_br (fun q => c_letter hS hT (by omega) ?_) (fun _ => h)
    rw [tx_nxe hW (by omega)]
    exact z_bf (fun q' => hno ⟨q, q'⟩) h
  · refine len k hk (c_letter hS hT (by omega) ?_)
    rw [tx_nxe hW (by decide), z_add, z_add]
    refine z_bt h123 (c_letter hS hT (by omega) ?_)
    rw [tx_nxe hW (by decide)]
    refine z_bt hc1 (c_letter hS hT (by omega) ?_)
    rw [tx_nxe hW (by omega)]
    exact z_bt hg1 h
  · cases h : tl_fx w 37 (97 + i) L with
    | some x => exact h1 (tl_st_x.mpr ⟨x, h⟩)
    | none =>
      refine w_m_isSetAnywhere_2 hS (z_ixi hT.1 (by decide) ?_)
      rw [hT.2.2.1, z_le (by omega) (by omega)]
      exact z_bt (Nat.le_refl _) (h2 (fun q => by obtain ⟨x, hx⟩ := tl_st_x.mp q; rw [h] at hx; cases hx))
end BO
