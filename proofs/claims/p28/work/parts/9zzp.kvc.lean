/-! FRAGMENTS kept by the class: values -/
section ZZP
variable {u : wo} {ρ ρ' ρ0 ρ1 : Nat → Nat} {D : Nat → rv} {I I0 : Nat → Nat → rv} {G G0 G1 G' : mj_G} {W : Nat → Prop} {a b0 d i j l x : Nat} {v : rv} {N : Nat} {B : Nat → Nat} {M : Nat} {S : Nat → Nat} {lc : Nat} {ln : Nat → Nat} {op : Nat} {ch : List en} {V : Nat → Nat → Option rv} {o : ost} {ra rd : Nat → Int32} {sp : Nat → Bool} {st hts : Nat} {FG : Nat → kfr} {fr b cn : Nat → Nat} {top la : Nat}
/-- a kept value stays -/
theorem kvl_g (h : hh ρ D I G) (hk : kvl ρ G i a v I0) (F : fw ρ W G G') (he : ro_e ρ ρ' G) (hW : ∀ o, W o → ¬ im_o o) (hi : ¬ W (2000 + i)) : kvl ρ' G' i a v I0 := by
  have hG := hh_n h
  obtain ⟨h1, h2, h3, h4, h5, h6, h7, h8, h9, h10⟩ := hk
  have e : ∀ c, c < mj_n G → 1768 ≤ c → ρ c = 2000 + i → mj_k G' c = mj_k G c ∧ mj_l G' c = mj_l G c ∧ (∀ j, mj_r G' c j = mj_r G c j) ∧ ∀ j, mj_i G' c j = mj_i G c j := fun c hc hd ho => by
    have := F.2.2.2 c hc
    have q := this.2.2 (fun q => hi (by rw [ow_d hd, ho] at q; exact q))
    exact ⟨this.1, this.2.1, q.1, q.2⟩
  obtain ⟨k1, -, k3, k4⟩ := e a h2 h1 h3
  refine ⟨h1, Nat.lt_of_lt_of_le h2 F.1, (he a h2).trans h3, k1.trans h4, h5, by rw [k4]; exact h6, (k4 0).trans h7, fun t => (k4 1).trans (h8 t), fun t => ?_, fun t => ?_⟩
  · obtain ⟨g1, g2, g3, g4, g5, g6, g7, g8⟩ := h9 t
    obtain ⟨c1, c2, -, c4⟩ := e _ g4 g3 g5
    rw [k3 3]
    exact ⟨(k4 4).trans g1, (k4 2).trans g2, g3, Nat.lt_of_lt_of_le g4 F.1, (he _ g4).trans g5, c1.trans g6, by rw [c2]; exact g7, fun j hj => (c4 j).trans (g8 j hj)⟩
  · obtain ⟨g1, g2, g3, g4, g5⟩ := h10 t
    obtain ⟨c1, c2, c3, c4⟩ := fw_im F hW g2 g1
    rw [k3 5]
    refine ⟨by rw [imm_e he g2]; exact g1, Nat.lt_of_lt_of_le g2 F.1, c1.trans g3, c2.trans g4, fun k hk => ?_⟩
    obtain ⟨d1, d2, d3, d4, d5⟩ := g5 k hk
    rw [c3 k]
    exact ⟨by rw [imm_e he d2]; exact d1, Nat.lt_of_lt_of_le d2 F.1, cv_im d3 d4 h.2.2.2 F he hW hG d2 d1, d4, d5⟩
/-- a value that was kept just now -/
theorem kvl_of (h : hh ρ D I G) (ha : 1768 ≤ a) (han : a < mj_n G) (hr : ρ a = 2000 + i) (hv : rv_in D v) (hc : cv (fun c => ow ρ c = 2000 + i ∧ 1768 ≤ c) G a v) : kvl ρ G i a v I := by
  obtain ⟨h1, h2, h3, h4, h5, h6⟩ := hc
  refine ⟨ha, han, hr, h1, hv.1, h2, h3, h4, fun t => ?_, fun t => ?_⟩
  · obtain ⟨g1, g2, ⟨g3, g3'⟩, g4, g5, g6, g7, g8⟩ := h5 t
    exact ⟨g1, g2, g3', g5, by rw [ow_d g3'] at g3; exact g3, g6, g7, g8⟩
  · obtain ⟨-, hd⟩ := hv.1.2.2.2.2 t
    obtain ⟨e1, e2⟩ := hv.2 t
    obtain ⟨-, -, -, -, g⟩ := h.2.2.2 _ hd
    obtain ⟨-, g2, g3, g4, g5, g6⟩ := g e1
    have e5 : mj_r G a 5 = ir G (rv_d v) := h6 t
    rw [e5]
    exact ⟨g2, g3, g4, g5.trans e2, fun k hk => g6 k (by omega)⟩
/-- a new Value in a place for a kept one -/
theorem hh_new {A0 : Nat} (h : hh ρ D I G) (hj : j < 520) (hA : fg_a j = A0) (hl : j % 26 = l) (h0 : mj_r G A0 l = 0) (K : mj_G → Prop) (hK : ∀ ρ' G', hh ρ' D I G' → ro_e ρ ρ' G → fw ρ (fun o => o = A0) G G' → mj_r G' A0 l = mj_n G → (∀ k, k ≠ l → mj_r G' A0 k = mj_r G A0 k) → mj_k G' (mj_n G) = 12 → mj_n G < mj_n G' → ρ' (mj_n G) = 2000 + j → K G') :
    ∀ G11, G11 = mj_al G 12 8 (fun _ => 0) → Va_init d (mj_n G) G11 (fun G12 => (30 ≤ mj_k G12 A0) ∧ mm_ix (nI l) (mj_l G12 A0) (fun n14 => ((mj_n G) = 0 ∨ mj_k G12 (mj_n G) + 29 = mj_k G12 A0) ∧ (cs_w A0) ∧ ∀ G18, G18 = mj_pR G12 A0 n14 (mj_n G) → K G18)) := by
  have hG := hh_n h
  have hS := h.1
  obtain ⟨kA, lA⟩ := h.2.1.2.2.2.2 j hj
  rw [hA] at kA lA
  have hAl := fg_al hj
  rw [hA] at hAl
  have hl26 : l < 26 := by omega
  have uq : ∀ k, k < 520 → fg_a k = A0 → k % 26 = l → k = j := fun k hk e1 e2 => by
    rw [← hA] at e1
    unfold fg_a at e1
    omega
  intro G11 e11
  have hS11 : cs_S G11 := by rw [e11]; exact cs_al hS
  have k11 : ∀ c, c < mj_n G → mj_k G11 c = mj_k G c := fun c hc => by rw [e11]; exact z_kAn (by omega)
  refine w_Va_init hS11 ⟨by rw [e11, z_kAs]; decide, by rw [e11, z_kAs], ?_⟩
  intro G3 e3 G4 e4 G5 e5
  refine ⟨?_, ?_⟩
  · rw [e5, z_kAn (by rw [e4, e3, e11]; show mj_n G ≠ mj_n G + 1; omega), e4, z_kRa, e3, z_kIa, e11, z_kAs]
  intro G7 e7 G8 e8 G9 e9
  have n4 : mj_n G4 = mj_n G + 1 := by rw [e4, e3, e11]; rfl
  -- what the nine writes come to
  have nn : mj_n G9 = mj_n G + 2 := by rw [e9, e8, e7, e5, e4, e3, e11]; rfl
  have uu : mj_u G9 = mj_u G + 8 := by rw [e9, e8, e7, e5, e4, e3, e11]; rfl
  have kk : ∀ c, c < mj_n G → mj_k G9 c = mj_k G c ∧ mj_l G9 c = mj_l G c ∧ (∀ j, mj_r G9 c j = mj_r G c j) ∧ ∀ j, mj_i G9 c j = mj_i G c j := fun c hc => by
    refine ⟨?_, ?_, fun y => ?_, fun y => ?_⟩
    · rw [e9, z_kRa, e8, z_kIa, e7, z_kRa, e5, z_kAn (by omega), e4, z_kRa, e3, z_kIa, e11, z_kAn (by omega)]
    · rw [e9]
      show mj_l G8 c = _
      rw [e8]
      show mj_l G7 c = _
      rw [e7]
      show mj_l G5 c = _
      rw [e5, z_lAn (by omega), e4]
      show mj_l G3 c = _
      rw [e3]
      show mj_l G11 c = _
      rw [e11, z_lAn (by omega)]
    · rw [e9, z_rRn (by omega), e8, z_rIa, e7, z_rRn (by omega), e5, z_rAn (by omega), e4, z_rRn (by omega), e3, z_rIa, e11, z_rAn (by omega)]
    · rw [e9, z_iRa, e8, z_iIn (by omega), e7, z_iRa, e5, z_iAn (by omega), e4, z_iRa, e3, z_iIn (by omega), e11, z_iAn (by omega)]
  have ka : mj_k G9 (mj_n G) = 12 := by rw [e9, z_kRa, e8, z_kIa, e7, z_kRa, e5, z_kAn (by omega), e4, z_kRa, e3, z_kIa, e11, z_kAs]
  have kb : mj_k G9 (mj_n G + 1) = 41 := by rw [e9, z_kRa, e8, z_kIa, e7, z_kRa, e5, ← n4, z_kAs]
  have r7 : mj_r G9 (mj_n G) 7 = 2 := by rw [e9, z_rRs]
  have i2 : mj_i G9 (mj_n G) 2 = 0 := by rw [e9, z_iRa, e8, z_iIm (by decide), e7, z_iRa, e5, z_iAn (by omega), e4, z_iRa, e3, z_iIm (by decide), e11, z_iAs]
  have kc : ∀ c, mj_n G + 2 ≤ c → mj_k G9 c = mj_k G c ∧ mj_l G9 c = mj_l G c ∧ mj_i G9 c 2 = mj_i G c 2 := fun c hc => by
    refine ⟨?_, ?_, ?_⟩
    · rw [e9, z_kRa, e8, z_kIa, e7, z_kRa, e5, z_kAn (by omega), e4, z_kRa, e3, z_kIa, e11, z_kAn (by omega)]
    · rw [e9]
      show mj_l G8 c = _
      rw [e8]
      show mj_l G7 c = _
      rw [e7]
      show mj_l G5 c = _
      rw [e5, z_lAn (by omega), e4]
      show mj_l G3 c = _
      rw [e3]
      show mj_l G11 c = _
      rw [e11, z_lAn (by omega)]
    · rw [e9, z_iRa, e8, z_iIn (by omega), e7, z_iRa, e5, z_iAn (by omega), e4, z_iRa, e3, z_iIn (by omega), e11, z_iAn (by omega)]
  have hS9 : cs_S G9 := by
    rw [e9]
    refine cs_pRg ?_ hG
    rw [e8]
    refine cs_pI ?_
    rw [e7]
    refine cs_pRg ?_ hG
    rw [e5]
    refine cs_al ?_
    rw [e4]
    refine cs_pRg ?_ hG
    rw [e3]
    exact cs_pI hS11
  clear e3 e4 e5 e7 e8 e9 e11 n4
  obtain ⟨kA9, lA9, rA9, -⟩ := kk A0 (by omega)
  refine ⟨by rw [kA9, kA]; decide, ?_⟩
  rw [lA9, lA]
  refine z_ixi hl26 (by omega) ⟨Or.inr (by rw [ka, kA9, kA]), ⟨by omega, by omega, by omega, by omega, by omega⟩, ?_⟩
  intro G18 e18
  have n18 : mj_n G18 = mj_n G + 2 := by rw [e18]; exact nn
  have u18 : mj_u G18 = mj_u G + 8 := by rw [e18]; exact uu
  have q18 : ∀ c, mj_k G18 c = mj_k G9 c ∧ mj_l G18 c = mj_l G9 c ∧ ∀ y, mj_i G18 c y = mj_i G9 c y := fun c => by rw [e18]; exact ⟨rfl, rfl, fun _ => rfl⟩
  have r18 : ∀ c y, ¬ (c = A0 ∧ y = l) → mj_r G18 c y = mj_r G9 c y := fun c y hq => by rw [e18]; exact if_neg hq
  have s18 : mj_r G18 A0 l = mj_n G := by rw [e18]; exact z_rRs
  have hS18 : cs_S G18 := by
    rw [e18]
    exact cs_pRw hS9 (by rw [kA9, kA]; decide) ⟨by omega, by omega, by omega, by omega, by omega⟩
  clear e18
  have old : ∀ c, c < mj_n G → mj_k G18 c = mj_k G c ∧ mj_l G18 c = mj_l G c ∧ (∀ y, ¬ (c = A0 ∧ y = l) → mj_r G18 c y = mj_r G c y) ∧ ∀ y, mj_i G18 c y = mj_i G c y := fun c hc => by
    obtain ⟨g1, g2, g3, g4⟩ := kk c hc
    obtain ⟨f1, f2, f3⟩ := q18 c
    exact ⟨f1.trans g1, f2.trans g2, fun y hy => (r18 c y hy).trans (g3 y), fun y => (f3 y).trans (g4 y)⟩
  have slot : ∀ k, k < 520 → k ≠ j → mj_r G18 (fg_a k) (k % 26) = mj_r G (fg_a k) (k % 26) := fun k hk hne => by
    have := fg_al hk
    exact (old _ (by omega)).2.2.1 _ (fun q => hne (uq k hk q.1 q.2))
  have sj : mj_r G18 (fg_a j) (j % 26) = mj_n G := by rw [hA, hl]; exact s18
  have gj : mj_r G (fg_a j) (j % 26) = 0 := by rw [hA, hl]; exact h0
  have dn : ∀ k, k < 520 → mj_r G (fg_a k) (k % 26) ≠ 0 → mj_r G (fg_a k) (k % 26) < mj_n G ∧ 1768 ≤ mj_r G (fg_a k) (k % 26) := fun k hk hne => by
    rcases h.2.1.2.2.2.1 k hk with q | q
    · exact absurd q hne
    · exact ⟨q.2.1, q.1⟩
  have r7' : mj_r G18 (mj_n G) 7 = 2 := (r18 _ _ (by omega)).trans r7
  -- what is not made yet
  have hp : ∀ x y, pw x y G18 + y ≤ pw x y G := fun x y => by
    unfold pw
    have e1 : sm 320 (fun i => if mj_r G18 (67 + 2 * i) 7 = 2 then x else 0) = sm 320 (fun i => if mj_r G (67 + 2 * i) 7 = 2 then x else 0) := sm_c (fun i hi => by show (if _ then _ else _) = (if _ then _ else _); rw [(old (67 + 2 * i) (by omega)).2.2.1 7 (by omega)])
    have e2 : sm 40 (fun i => if mj_r G18 (1509 + 2 * i) 7 = 2 then x else 0) = sm 40 (fun i => if mj_r G (1509 + 2 * i) 7 = 2 then x else 0) := sm_c (fun i hi => by show (if _ then _ else _) = (if _ then _ else _); rw [(old (1509 + 2 * i) (by omega)).2.2.1 7 (by omega)])
    have e3 : sm 200 (fun i => if mj_r G18 (707 + 4 * i) 18 = 0 then x else 0) = sm 200 (fun i => if mj_r G (707 + 4 * i) 18 = 0 then x else 0) := sm_c (fun i hi => by show (if _ then _ else _) = (if _ then _ else _); rw [(old (707 + 4 * i) (by omega)).2.2.1 18 (by omega)])
    have e4 := sm_u (g := fun i => if mj_r G (fg_a i) (i % 26) = 0 then y + x else if mj_r G (mj_r G (fg_a i) (i % 26)) 7 = 2 then x else 0) (h := fun i => if mj_r G18 (fg_a i) (i % 26) = 0 then y + x else if mj_r G18 (mj_r G18 (fg_a i) (i % 26)) 7 = 2 then x else 0) (i := j) (w := y) (n := 520) hj (fun k hk hne => by
      show (if _ then _ else _) = (if _ then _ else _)
      rw [slot k hk hne]
      by_cases q : mj_r G (fg_a k) (k % 26) = 0
      · rw [if_pos q, if_pos q]
      · rw [if_neg q, if_neg q]
        obtain ⟨g1, g2⟩ := dn k hk q
        rw [(old _ g1).2.2.1 7 (by omega)]) (by
      show (if _ then _ else _) + y ≤ (if _ then _ else _)
      rw [sj, gj, if_neg (by omega), if_pos rfl, r7', if_pos rfl]
      omega)
    rw [e1, e2, e3]
    omega
  have F : fw ρ (fun o => o = A0) G G18 := by
    have p1 := hp 1 2
    have p2 := hp 300 8
    refine ⟨by omega, by omega, by omega, fun c hc => ?_⟩
    obtain ⟨g1, g2, g3, g4⟩ := old c hc
    exact ⟨g1, g2, fun hw => ⟨fun y => g3 y (fun q => hw (by rw [q.1]; exact ow_s (by omega))), g4⟩⟩
  have nim : ∀ o, o = A0 → ¬ im_o o := fun o q => by
    rw [q]
    unfold im_o
    omega
  -- who owns them
  have he : ro_e ρ (ro_u (ro_u ρ (mj_n G) (2000 + j)) (mj_n G + 1) (2000 + j)) G := fun c hc => (if_neg (by omega)).trans (if_neg (by omega))
  have hra : ro_u (ro_u ρ (mj_n G) (2000 + j)) (mj_n G + 1) (2000 + j) (mj_n G) = 2000 + j := (if_neg (by omega)).trans (if_pos rfl)
  generalize ro_u (ro_u ρ (mj_n G) (2000 + j)) (mj_n G + 1) (2000 + j) = ρ' at he hra
  have hkl : ∀ c, c < mj_n G → mj_k G18 c = mj_k G c ∧ mj_l G18 c = mj_l G c := fun c hc => ⟨(old c hc).1, (old c hc).2.1⟩
  refine hK ρ' G18 ⟨hS18, ⟨fun k hk => ho_vt (h.2.1.1 k hk) F.1 he ((old _ (by omega)).2.2.1 7 (by omega)) hkl, fun k hk => ho_vt (h.2.1.2.1 k hk) F.1 he ((old _ (by omega)).2.2.1 7 (by omega)) hkl, fun k hk => ho_ft (h.2.1.2.2.1 k hk) F.1 he ((old _ (by omega)).2.2.1 18 (by omega)) hkl, fun k hk => ?_, fun k hk => ?_⟩, ⟨fun c hc => ?_, fun c hc => ?_⟩, dcx_f h.2.2.2 F he nim hG⟩ he F s18 (fun k hk => (old A0 (by omega)).2.2.1 k (by omega)) ((q18 _).1.trans ka) (by omega) hra
  · by_cases q : k = j
    · subst q
      refine Or.inr ?_
      rw [sj]
      exact ⟨hG, by omega, hra, (q18 _).1.trans ka, Or.inl r7'⟩
    · exact ho_kt (h.2.1.2.2.2.1 k hk) F.1 he (slot k hk q) (fun hne => (old _ (dn k hk hne).1).2.2.1 7 (fun q => by have := (dn k hk hne).2; omega)) hkl
  · have := fg_al hk
    obtain ⟨g1, g2⟩ := hkl (fg_a k) (by omega)
    rw [g1, g2]
    exact h.2.1.2.2.2.2 k hk
  · obtain ⟨f1, f2, f3⟩ := q18 c
    rw [f3 2]
    by_cases q1 : c < mj_n G
    · rw [(kk c q1).2.2.2 2]
      exact h.2.2.1.1 c ((hkl c q1).1.symm.trans hc)
    · by_cases q2 : c = mj_n G
      · rw [q2, i2]
        exact Or.inl rfl
      · by_cases q3 : c = mj_n G + 1
        · rw [f1, q3, kb] at hc
          exact absurd hc (by decide)
        · obtain ⟨g1, -, g3⟩ := kc c (by omega)
          rw [g3]
          exact h.2.2.1.1 c (by rw [← g1, ← f1]; exact hc)
  · obtain ⟨f1, f2, f3⟩ := q18 c
    rw [f1] at hc
    rw [f2]
    by_cases q1 : c < mj_n G
    · rw [(kk c q1).2.1]
      exact h.2.2.1.2 c (by rw [← (kk c q1).1]; exact hc)
    · by_cases q2 : c = mj_n G
      · rw [q2, ka] at hc
        exact absurd hc (by decide)
      · by_cases q3 : c = mj_n G + 1
        · rw [q3, kb] at hc
          exact absurd hc (by decide)
        · obtain ⟨g1, g2, -⟩ := kc c (by omega)
          rw [g2]
          exact h.2.2.1.2 c (by rw [← g1]; exact hc)
/-- what keeping a row of values writes -/
def kW (A0 j0 o : Nat) : Prop := o = A0 ∨ (2000 + j0 ≤ o ∧ o < 2026 + j0)
theorem kW_im {A0 j0 o : Nat} (hA : 1600 ≤ A0 ∧ A0 ≤ 1673) (h6 : 6 ≤ (A0 - 1594) % 8) (h : kW A0 j0 o) : ¬ im_o o ∧ ¬ (67 ≤ o ∧ o ≤ 1506) := by
  unfold kW at h
  unfold im_o
  omega
/-- the values of a row kept, from the l-th letter on -/
theorem c_kv3 {A0 j0 x : Nat} {R : Int32} {K : mj_G → Prop} (hj0 : j0 + 26 ≤ 520) (hA : ∀ l, l < 26 → fg_a (j0 + l) = A0 ∧ (j0 + l) % 26 = l) (hB : ∀ s, B s ≤ s) (hin : ∀ l, l < 26 → rv_in D (e_vl D B V l x)) (hx : x ≤ N) (h0 : hh ρ0 D I G0) (hE0 : ce ρ0 D G0 N B V fr b cn)
    (hK : ∀ ρ' G', hh ρ' D I G' → ro_e ρ0 ρ' G0 → fw ρ0 (kW A0 j0) G0 G' → (∀ l, l < 26 → bt R l → kvl ρ' G' (j0 + l) (mj_r G' A0 l) (e_vl D B V l x) I) → K G') : ∀ {n l : Nat} {ρ : Nat → Nat} {G : mj_G}, l + n = 26 → hh ρ D I G → ro_e ρ0 ρ G0 → fw ρ0 (kW A0 j0) G0 G → (∀ k, k < l → bt R k → kvl ρ G (j0 + k) (mj_r G A0 k) (e_vl D B V k x) I) → Fg_keepValues_3 (d + 2) A0 R (sf fr x) (nI l) G K
  | 0, l, ρ, G, hl, h, he, F, hk => by
    have q : l = 26 := by omega
    subst q
    exact w_Fg_keepValues_3 h.1 (z_bt (by decide) (hK ρ G h he F hk))
  | n + 1, l, ρ, G, hl, h, he, F, hk => by
    obtain ⟨a1, a2⟩ := hA l (by omega)
    have hal := fg_al (i := j0 + l) (by omega)
    rw [a1] at hal
    have hA16 : 1600 ≤ A0 ∧ A0 ≤ 1673 := by
      rw [← a1]
      unfold fg_a
      omega
    have nim : ∀ o, kW A0 j0 o → ¬ im_o o ∧ ¬ (67 ≤ o ∧ o ≤ 1506) := fun o q => kW_im hA16 hal.2.2 q
    have hG := hh_n h
    obtain ⟨kA, lA⟩ := h.2.1.2.2.2.2 (j0 + l) (by omega)
    rw [a1] at kA lA
    -- the value put where it is kept
    have put : ∀ {ρ1 : Nat → Nat} {G1 : mj_G}, hh ρ1 D I G1 → ro_e ρ0 ρ1 G0 → fw ρ0 (kW A0 j0) G0 G1 → (∀ k, k < l → bt R k → kvl ρ1 G1 (j0 + k) (mj_r G1 A0 k) (e_vl D B V k x) I) → mj_r G1 A0 l ≠ 0 → St_valueFrom (d + 1) (sf fr x) (nI l) G1 (fun v23 G22 => (mj_k G22 (mj_r G1 A0 l) = 12) ∧ Va_keep (d + 1) (mj_r G1 A0 l) v23 G22 (fun G25 => Fg_keepValues_3 (d + 1 + 1) A0 R (sf fr x) (nI l + nI 1) G25 K)) := fun {ρ1 G1} h1 he1 F1 hk1 hne => by
      have hE1 : ce ρ1 D G1 N B V fr b cn := ce_fw h0 hE0 F1 he1 nim
      have slot := h1.2.1.2.2.2.1 (j0 + l) (by omega)
      unfold ho_k at slot
      rw [a1, a2] at slot
      obtain ⟨s1, s2, s3, s4, s5⟩ := slot.resolve_left hne
      have hna : ¬ imm ρ1 (mj_r G1 A0 l) := by
        unfold imm
        rw [ow_d s1, s3]
        unfold im_o
        omega
      refine c_valueFrom h1 hE1 hB (by omega) hx (fun b0 hb => ⟨s4, ?_⟩)
      have hab : b0 ≠ mj_r G1 A0 l := fun q => by
        rcases hb.2.1 with g | g
        · rw [q] at g
          exact hna g
        · omega
      refine c_keep (o := 2000 + (j0 + l)) h1 ⟨s4, s2, hna, by unfold lz; omega, by unfold lz; omega⟩ (Or.inr (Or.inr ⟨j0 + l, by omega, by rw [a1, a2], by rw [a1, a2]; exact hne, rfl⟩)) (hin l (by omega)).1 hab hb.2.2.1 (fun ρ2 G2 b1 b2 b3 b4 b5 => ?_)
      rw [ow_d s1, s3] at b3 b5
      have rA : ∀ k, mj_r G2 A0 k = mj_r G1 A0 k := fun k => ((b3.2.2.2 A0 (by have := hh_n h1; omega)).2.2 (by rw [ow_s (by omega)]; omega)).1 k
      have s2' : mj_r G1 A0 l < mj_n G2 := Nat.lt_of_lt_of_le s2 b3.1
      rw [z_add]
      refine c_kv3 hj0 hA hB hin hx h0 hE0 hK (n := n) (l := l + 1) (by omega) b1 (ro_t he1 F1.1 b2) (fw_t F1 he1 (fw_m b3 (fun o q => by have q' : o = 2000 + (j0 + l) := q; unfold kW; omega))) (fun k hk' hb' => ?_)
      rw [rA k]
      by_cases q : k = l
      · subst q
        exact kvl_of b1 s1 s2' ((b2 _ s2).trans s3) (hin k (by omega)) b5
      · exact kvl_g h1 (hk1 k (by omega) hb') b3 b2 (fun o q => by have q' : o = 2000 + (j0 + l) := q; unfold im_o; omega) (by omega)
    refine w_Fg_keepValues_3 h.1 (z_bf (by rw [z_le (by omega) (by omega)]; omega) ?_)
    rw [bt_0r (by omega)]
    refine z_br (fun hb => ?_) (fun hb => ?_)
    · rw [z_add]
      exact c_kv3 hj0 hA hB hin hx h0 hE0 hK (n := n) (l := l + 1) (by omega) h he F (fun k hk' hb' => hk k (by
        by_cases q : k = l
        · rw [q] at hb'
          exact absurd hb' hb
        · omega) hb')
    · have hb' : bt R l := Classical.byContradiction hb
      rw [kA, lA]
      refine ⟨by decide, z_ixi (by omega) (by omega) (z_br (fun h00 => ?_) (fun h00 => ?_))⟩
      · refine hh_new (j := j0 + l) (l := l) h (by omega) a1 a2 h00 (fun G18 => (30 ≤ mj_k G18 A0) ∧ mm_ix (nI l) (mj_l G18 A0) (fun n20 => St_valueFrom (d + 1) (sf fr x) (nI l) G18 (fun v23 G22 => (mj_k G22 (mj_r G18 A0 n20) = 12) ∧ Va_keep (d + 1) (mj_r G18 A0 n20) v23 G22 (fun G25 => Fg_keepValues_3 (d + 1 + 1) A0 R (sf fr x) (nI l + nI 1) G25 K)))) (fun ρ1 G1 c1 c2 c3 c4 c5 c6 c7 c8 => ?_)
        obtain ⟨k1, l1, -⟩ := c3.2.2.2 A0 (by omega)
        rw [k1, l1, kA, lA]
        refine ⟨by decide, z_ixi (by omega) (by omega) (put c1 (ro_t he F.1 c2) (fw_t F he (fw_m c3 (fun o q => Or.inl q))) (fun k hk' hb' => ?_) (by rw [c4]; omega))⟩
        rw [c5 k (by omega)]
        exact kvl_g h (hk k hk' hb') c3 c2 (fun o q => (nim o (Or.inl q)).1) (fun q => by have q' : 2000 + (j0 + k) = A0 := q; omega)
      · exact ⟨by decide, z_ixi (by omega) (by omega) (put h he F hk h00)⟩
end ZZP
