/-! RENDERING: the class's heap, the data in it; what leaves it as it is -/
/-- every Value tells whether it is safe by a bit -/
def hb (G : mj_G) : Prop := (∀ a, mj_k G a = 12 → mj_b (mj_i G a 2)) ∧ ∀ a, mj_k G a = 22 → mj_l G a ≤ 10000
/-- the row of the items of a letter of the data -/
def ir (G : mj_G) (l : Nat) : Nat := mj_r G (mj_r G 12 l) 5
/-- a cell that rendering never writes -/
def imm (ρ : Nat → Nat) (c : Nat) : Prop := im_o (ow ρ c)
/-- the data: what each letter is, what the items of lists are -/
def dcx (ρ : Nat → Nat) (G : mj_G) (D : Nat → rv) (I : Nat → Nat → rv) : Prop := ∀ l, l < 26 → imm ρ (mj_r G 12 l) ∧ mj_r G 12 l < mj_n G ∧ cv (imm ρ) G (mj_r G 12 l) (D l) ∧ rv_ok (D l) ∧ (rv_t (D l) = 3 → rv_d (D l) = l ∧ imm ρ (ir G l) ∧ ir G l < mj_n G ∧ mj_k G (ir G l) = 41 ∧ mj_l G (ir G l) = rv_l (D l) ∧
  ∀ k, k < rv_l (D l) → imm ρ (mj_r G (ir G l) k) ∧ mj_r G (ir G l) k < mj_n G ∧ cv (imm ρ) G (mj_r G (ir G l) k) (I l k) ∧ rv_ok (I l k) ∧ (rv_t (I l k) = 1 ∨ (rv_t (I l k) = 2 ∧ rv_s (I l k) = false ∧ rv_l (I l k) ≤ 40)))
/-- a value that stands for no other list than the data's -/
def rv_in (D : Nat → rv) (v : rv) : Prop := rv_ok v ∧ (rv_t v = 3 → rv_t (D (rv_d v)) = 3 ∧ rv_l (D (rv_d v)) = rv_l v)
theorem rv_in0 {D : Nat → rv} : rv_in D rv_0 := ⟨rv_ok0, fun h => absurd h (by show ¬ 0 = 3; omega)⟩
theorem rv_inN {D : Nat → rv} {x : Int32} : rv_in D (rv_N x) := ⟨rv_okN, fun h => absurd h (by show ¬ 1 = 3; omega)⟩
theorem rv_inT {D : Nat → rv} {n : Nat} {c : Nat → Nat} {s : Bool} (hn : n ≤ 300) (hc : ∀ j, j < n → 32 ≤ c j ∧ c j ≤ 126) : rv_in D (rv_T n c s) := ⟨rv_okT hn hc, fun h => absurd h (by show ¬ 2 = 3; omega)⟩
def hh (ρ : Nat → Nat) (D : Nat → rv) (I : Nat → Nat → rv) (G : mj_G) : Prop := cs_S G ∧ ho ρ G ∧ hb G ∧ dcx ρ G D I
section HE
variable {ρ ρ' : Nat → Nat} {D : Nat → rv} {I : Nat → Nat → rv} {W : Nat → Prop} {G G' : mj_G} {a b j x : Nat} {z : Int32} {v : rv} {P Q : Nat → Prop}
theorem im_12 : im_o 12 := Or.inr (Or.inr (Or.inr (Or.inr (Or.inl rfl))))
theorem imm_e (he : ro_e ρ ρ' G) (ha : a < mj_n G) : imm ρ' a = imm ρ a := by
  unfold imm
  rw [ro_ow he ha]
/-- a value stays, where neither it nor its row is written -/
theorem cv_st (h : cv P G a v) (hn : mj_n G ≤ mj_n G') (hk : mj_k G' a = mj_k G a) (hi : ∀ j, mj_i G' a j = mj_i G a j) (hr : ∀ j, mj_r G' a j = mj_r G a j) (hc : rv_t v = 2 → mj_k G' (mj_r G a 3) = mj_k G (mj_r G a 3) ∧ mj_l G' (mj_r G a 3) = mj_l G (mj_r G a 3) ∧ (∀ j, mj_i G' (mj_r G a 3) j = mj_i G (mj_r G a 3) j)) (hP : ∀ c, c < mj_n G → P c → Q c) (hl : rv_t v = 3 → ir G' (rv_d v) = ir G (rv_d v)) : cv Q G' a v := by
  obtain ⟨h1, h2, h3, h4, h5, h6⟩ := h
  refine ⟨hk.trans h1, by rw [hi]; exact h2, (hi 0).trans h3, fun q => (hi 1).trans (h4 q), fun q => ?_, fun q => (hr 5).trans ((h6 q).trans (hl q).symm)⟩
  obtain ⟨b1, b2, b3, b4, b5, b6, b7, b8⟩ := h5 q
  obtain ⟨c1, c2, c3⟩ := hc q
  rw [hr 3]
  exact ⟨(hi 4).trans b1, (hi 2).trans b2, hP _ b5 b3, b4, by omega, c1.trans b6, by rw [c2]; exact b7, fun j hj => (c3 j).trans (b8 j hj)⟩
theorem dcx_l (h : dcx ρ G D I) (hF : fw ρ W G G') (hW : ∀ o, W o → ¬ im_o o) (hG : 1768 ≤ mj_n G) {l : Nat} (hl : l < 26) : mj_r G' 12 l = mj_r G 12 l ∧ ir G' l = ir G l := by
  obtain ⟨a1, a2, -⟩ := h l hl
  have e1 : mj_r G' 12 l = mj_r G 12 l := (fw_im hF hW (a := 12) (by omega) (by rw [ow_s (by decide)]; exact im_12)).2.2.1 l
  refine ⟨e1, ?_⟩
  unfold ir
  rw [e1]
  exact (fw_im hF hW a2 a1).2.2.1 5
theorem cv_fw (h : cv P G a v) (hv : rv_ok v) (hd : dcx ρ G D I) (hF : fw ρ W G G') (hW : ∀ o, W o → ¬ im_o o) (hG : 1768 ≤ mj_n G) (ha : a < mj_n G) (hna : ¬ W (ow ρ a)) (hP : ∀ c, c < mj_n G → P c → ¬ W (ow ρ c) ∧ Q c) : cv Q G' a v := by
  obtain ⟨k1, k2, k3⟩ := hF.2.2.2 a ha
  obtain ⟨k4, k5⟩ := k3 hna
  refine cv_st h hF.1 k1 k5 k4 (fun q => ?_) (fun c hc q => (hP c hc q).2) (fun q => (dcx_l hd hF hW hG (hv.2.2.2.2 q).2).2)
  obtain ⟨-, -, b3, -, b5, -⟩ := h.2.2.2.2.1 q
  obtain ⟨c1, c2, c3⟩ := hF.2.2.2 _ b5
  exact ⟨c1, c2, (c3 (hP _ b5 b3).1).2⟩
/-- a value that rendering never writes -/
theorem cv_im (h : cv (imm ρ) G a v) (hv : rv_ok v) (hd : dcx ρ G D I) (hF : fw ρ W G G') (he : ro_e ρ ρ' G) (hW : ∀ o, W o → ¬ im_o o) (hG : 1768 ≤ mj_n G) (ha : a < mj_n G) (hi : imm ρ a) : cv (imm ρ') G' a v :=
  cv_fw h hv hd hF hW hG ha (fun q => hW _ q hi) (fun c hc q => ⟨fun q' => hW _ q' q, by rw [imm_e he hc]; exact q⟩)
theorem dcx_f (h : dcx ρ G D I) (hF : fw ρ W G G') (he : ro_e ρ ρ' G) (hW : ∀ o, W o → ¬ im_o o) (hG : 1768 ≤ mj_n G) : dcx ρ' G' D I := fun l hl => by
  obtain ⟨e1, e2⟩ := dcx_l h hF hW hG hl
  obtain ⟨a1, a2, a3, a4, a5⟩ := h l hl
  have hn := hF.1
  rw [e1, e2]
  refine ⟨by rw [imm_e he a2]; exact a1, by omega, cv_im a3 a4 h hF he hW hG a2 a1, a4, fun q => ?_⟩
  obtain ⟨b1, b2, b3, b4, b5, b6⟩ := a5 q
  obtain ⟨c1, c2, c3, -⟩ := fw_im hF hW b3 b2
  refine ⟨b1, by rw [imm_e he b3]; exact b2, by omega, c1.trans b4, c2.trans b5, fun k hk => ?_⟩
  obtain ⟨d1, d2, d3, d4, d5⟩ := b6 k hk
  rw [c3 k]
  exact ⟨by rw [imm_e he d2]; exact d1, by omega, cv_im d3 d4 h hF he hW hG d2 d1, d4, d5⟩
theorem hh_n (h : hh ρ D I G) : 1768 ≤ mj_n G := h.1.1
theorem wo_im (h : ¬ im_o a) : ∀ o, o = a → ¬ im_o o := fun o q => by rw [q]; exact h
/-- one write to what may be written -/
theorem hh_I (h : hh ρ D I G) (hna : ¬ imm ρ a) (hz : j = 2 → mj_k G a = 12 → mj_b z) : hh ρ D I (mj_pI G a j z) := by
  refine ⟨cs_pI h.1, h.2.1, ⟨fun c hc => ?_, h.2.2.1.2⟩, dcx_f h.2.2.2 (fw_I (W := fun o => o = ow ρ a) rfl) ro_r (wo_im hna) (hh_n h)⟩
  show mj_b (if c = a ∧ 2 = j then z else mj_i G c 2)
  by_cases hq : c = a ∧ 2 = j
  · rw [if_pos hq]
    exact hz hq.2.symm (by rw [← hq.1]; exact hc)
  · rw [if_neg hq]
    exact h.2.2.1.1 c hc
theorem hh_cp {b sp dp m : Nat} (h : hh ρ D I G) (hna : ¬ imm ρ a) (hk : mj_k G a ≠ 12) : hh ρ D I (mj_cp G b sp a dp m) := by
  refine ⟨cs_cp h.1, h.2.1, ⟨fun c hc => ?_, h.2.2.1.2⟩, dcx_f h.2.2.2 (fw_cp (W := fun o => o = ow ρ a) rfl) ro_r (wo_im hna) (hh_n h)⟩
  show mj_b (if c = a ∧ _ then _ else mj_i G c 2)
  rw [if_neg (fun q => hk (by rw [← q.1]; exact hc))]
  exact h.2.2.1.1 c hc
theorem hh_R (h : hh ρ D I G) (hna : ¬ imm ρ a) (hl : ¬ lz a j) (hS : cs_S (mj_pR G a j x)) : hh ρ D I (mj_pR G a j x) :=
  ⟨hS, ho_R h.2.1 (hh_n h) hl, h.2.2.1, dcx_f h.2.2.2 (fw_R (W := fun o => o = ow ρ a) rfl hl h.2.1) ro_r (wo_im hna) (hh_n h)⟩
/-- a new cell that nothing tells of yet -/
theorem pw_A {x y kd len : Nat} {row : Nat → Int32} (ho : ho ρ G) (hG : 1768 ≤ mj_n G) : pw x y (mj_al G kd len row) = pw x y G := by
  refine pw_c (fun i hi => if_neg (by omega)) (fun i hi => if_neg (by omega)) (fun i hi => if_neg (by omega)) (fun i hi => ⟨?_, fun h0 => ?_⟩)
  · have := fg_al hi
    exact if_neg (by omega)
  · rcases ho.2.2.2.1 i hi with q | q
    · exact absurd q h0
    · exact if_neg (by have := q.2.1; omega)
/-- what is told, with one place more -/
def ro_u (ρ : Nat → Nat) (a o : Nat) : Nat → Nat := fun x => if x = a then o else ρ x
theorem ro_ue {o : Nat} : ro_e ρ (ro_u ρ (mj_n G) o) G := fun a ha => if_neg (by omega)
theorem ro_us {o : Nat} : ro_u ρ a o a = o := if_pos rfl
/-- a Value's row, as it is or made now -/
theorem c_ownRow {d o : Nat} {K : Nat → mj_G → Prop} (h : hh ρ D I G) (ha : mj_k G a = 12) (han : a < mj_n G) (hw : (∃ i, i < 320 ∧ a = 67 + 2 * i ∧ o = a) ∨ (∃ i, i < 40 ∧ a = 1509 + 2 * i ∧ o = a) ∨ ∃ i, i < 520 ∧ mj_r G (fg_a i) (i % 26) = a ∧ mj_r G (fg_a i) (i % 26) ≠ 0 ∧ o = 2000 + i)
    (hK : ∀ ρ' G' c, hh ρ' D I G' → ro_e ρ ρ' G → fw ρ (fun q => q = ow ρ a) G G' → (∀ j, j ≠ 7 → mj_r G' a j = mj_r G a j) → (∀ q, q < mj_n G → ∀ j, mj_i G' q j = mj_i G q j) → mj_r G' a 7 = c → 1768 ≤ c → c < mj_n G' → ρ' c = o → mj_k G' c = 22 → mj_l G' c = 300 → K c G') : Va_ownRow d a G K := by
  have hS := h.1
  have hG := hh_n h
  have hov : ho_v ρ G a o := by
    rcases hw with ⟨i, h1, rfl, rfl⟩ | ⟨i, h1, rfl, rfl⟩ | ⟨i, h1, rfl, h2, rfl⟩
    · exact h.2.1.1 i h1
    · exact h.2.1.2.1 i h1
    · rcases h.2.1.2.2.2.1 i h1 with q | q
      · exact absurd q h2
      · exact q.2.2.2.2
  have haz : ∀ i, i < 520 → mj_r G (fg_a i) (i % 26) ≠ 0 → 1768 ≤ mj_r G (fg_a i) (i % 26) ∧ mj_r G (fg_a i) (i % 26) < mj_n G ∧ ρ (mj_r G (fg_a i) (i % 26)) = 2000 + i := fun i hi h0 => by
    rcases h.2.1.2.2.2.1 i hi with q | q
    · exact absurd q h0
    · exact ⟨q.1, q.2.1, q.2.2.1⟩
  have hna : ¬ imm ρ a := by
    unfold imm
    rcases hw with ⟨i, h1, rfl, rfl⟩ | ⟨i, h1, rfl, rfl⟩ | ⟨i, h1, rfl, h2, rfl⟩
    · rw [ow_s (by omega)]; unfold im_o; omega
    · rw [ow_s (by omega)]; unfold im_o; omega
    · obtain ⟨q1, q2, q3⟩ := haz i h1 h2
      rw [ow_d q1, q3]; unfold im_o; omega
  have hu : ∀ i, i < 520 → ∀ k, k < 520 → mj_r G (fg_a i) (i % 26) = mj_r G (fg_a k) (k % 26) → mj_r G (fg_a i) (i % 26) ≠ 0 → i = k := fun i hi k hk q h0 => by
    have q1 := (haz i hi h0).2.2
    have q2 := (haz k hk (by rw [← q]; exact h0)).2.2
    rw [q] at q1
    omega
  rcases hov with hov | ⟨g1, g2, g3, g4, g5⟩
  · have hl2 : mj_l G 2 = 0 := cs_l hS rfl
    refine w_Va_ownRow hS ⟨ha, ?_, ?_⟩
    · rw [hov, cs_k (K := 22) hS rfl]; decide
    rw [hov, hl2]
    refine z_bt rfl ?_
    rintro _ rfl
    have hne : a ≠ mj_n G := by omega
    refine ⟨(z_kAn hne).trans ha, ?_⟩
    rintro _ rfl
    rw [z_rRs]
    have kk : ∀ c, c < mj_n G → mj_k (mj_pR (mj_al G 22 300 (fun _ => 0)) a 7 (mj_n G)) c = mj_k G c ∧ mj_l (mj_pR (mj_al G 22 300 (fun _ => 0)) a 7 (mj_n G)) c = mj_l G c := fun c hc => ⟨z_kRa.trans (z_kAn (by omega)), (show mj_l (mj_al G 22 300 (fun _ => 0)) c = mj_l G c from z_lAn (by omega))⟩
    have rr : ∀ c j, c < mj_n G → ¬ (c = a ∧ j = 7) → mj_r (mj_pR (mj_al G 22 300 (fun _ => 0)) a 7 (mj_n G)) c j = mj_r G c j := fun c j hc hq => (show mj_u2 (mj_r (mj_al G 22 300 (fun _ => 0))) a 7 (mj_n G) c j = _ from (if_neg hq).trans (z_rAn (by omega)))
    have ii : ∀ c j, c < mj_n G → mj_i (mj_pR (mj_al G 22 300 (fun _ => 0)) a 7 (mj_n G)) c j = mj_i G c j := fun c j hc => z_iRa.trans (z_iAn (by omega))
    have ra : mj_r (mj_pR (mj_al G 22 300 (fun _ => 0)) a 7 (mj_n G)) a 7 = mj_n G := z_rRs
    have kn : mj_k (mj_pR (mj_al G 22 300 (fun _ => 0)) a 7 (mj_n G)) (mj_n G) = 22 := z_kRa.trans z_kAs
    have ln : mj_l (mj_pR (mj_al G 22 300 (fun _ => 0)) a 7 (mj_n G)) (mj_n G) = 300 := (show mj_l (mj_al G 22 300 (fun _ => 0)) (mj_n G) = 300 from z_lAs)
    have nn : mj_n (mj_pR (mj_al G 22 300 (fun _ => 0)) a 7 (mj_n G)) = mj_n G + 1 := rfl
    have uu : mj_u (mj_pR (mj_al G 22 300 (fun _ => 0)) a 7 (mj_n G)) = mj_u G + 300 := rfl
    have i2 : ∀ c, mj_k (mj_pR (mj_al G 22 300 (fun _ => 0)) a 7 (mj_n G)) c = 12 → mj_b (mj_i (mj_pR (mj_al G 22 300 (fun _ => 0)) a 7 (mj_n G)) c 2) := fun c hc => by
      by_cases hcn : c = mj_n G
      · rw [hcn, kn] at hc
        exact absurd hc (by decide)
      · rw [show mj_i (mj_pR (mj_al G 22 300 (fun _ => 0)) a 7 (mj_n G)) c 2 = mj_i G c 2 from z_iRa.trans (z_iAn hcn)]
        exact h.2.2.1.1 c ((z_kRa.trans (z_kAn hcn)).symm.trans hc)
    have l22 : ∀ c, mj_k (mj_pR (mj_al G 22 300 (fun _ => 0)) a 7 (mj_n G)) c = 22 → mj_l (mj_pR (mj_al G 22 300 (fun _ => 0)) a 7 (mj_n G)) c ≤ 10000 := fun c hc => by
      by_cases hcn : c = mj_n G
      · rw [hcn, ln]; decide
      · rw [show mj_l (mj_pR (mj_al G 22 300 (fun _ => 0)) a 7 (mj_n G)) c = mj_l G c from (show mj_l (mj_al G 22 300 (fun _ => 0)) c = mj_l G c from z_lAn hcn)]
        exact h.2.2.1.2 c ((z_kRa.trans (z_kAn hcn)).symm.trans hc)
    have hSn : cs_S (mj_pR (mj_al G 22 300 (fun _ => 0)) a 7 (mj_n G)) := cs_pR (K := 12) (cs_al hS) ((z_kAn hne).trans ha) rfl
    generalize mj_pR (mj_al G 22 300 (fun _ => 0)) a 7 (mj_n G) = G' at kk rr ii ra kn ln nn uu i2 l22 hSn ⊢
    -- what is not made yet is less by one row
    have hp : ∀ x y, pw x y G' + x ≤ pw x y G := fun x y => by
      unfold pw
      have e3 : sm 200 (fun i => if mj_r G' (707 + 4 * i) 18 = 0 then x else 0) = sm 200 (fun i => if mj_r G (707 + 4 * i) 18 = 0 then x else 0) := sm_c (fun i hi => by show (if _ then _ else _) = (if _ then _ else _); rw [rr _ _ (by omega) (fun q => by omega)])
      have ed : ∀ i, i < 520 → mj_r G' (fg_a i) (i % 26) = mj_r G (fg_a i) (i % 26) := fun i hi => rr _ _ (by have := fg_al hi; omega) (fun q => by
        have := fg_al hi
        rcases hw with ⟨i, h1, rfl, rfl⟩ | ⟨i, h1, rfl, rfl⟩ | ⟨k, h1, rfl, h2, rfl⟩
        · omega
        · omega
        · have := (haz k h1 h2).1
          omega)
      have e4 : ∀ i, i < 520 → (mj_r G (fg_a i) (i % 26) ≠ 0 → mj_r G (fg_a i) (i % 26) ≠ a) → (if mj_r G' (fg_a i) (i % 26) = 0 then y + x else if mj_r G' (mj_r G' (fg_a i) (i % 26)) 7 = 2 then x else 0) = (if mj_r G (fg_a i) (i % 26) = 0 then y + x else if mj_r G (mj_r G (fg_a i) (i % 26)) 7 = 2 then x else 0) := fun i hi hne => by
        rw [ed i hi]
        by_cases h0 : mj_r G (fg_a i) (i % 26) = 0
        · rw [if_pos h0, if_pos h0]
        · rw [if_neg h0, if_neg h0, rr _ _ (haz i hi h0).2.1 (fun q => hne h0 q.1)]
      rcases hw with ⟨i, h1, rfl, rfl⟩ | ⟨i, h1, rfl, rfl⟩ | ⟨k, h1, rfl, h2, rfl⟩
      · have e1 := sm_u (g := fun i => if mj_r G (67 + 2 * i) 7 = 2 then x else 0) (h := fun i => if mj_r G' (67 + 2 * i) 7 = 2 then x else 0) (i := i) (w := x) (n := 320) h1 (fun k hk hne => by show (if _ then _ else _) = (if _ then _ else _); rw [rr _ _ (by omega) (fun q => by omega)]) (by show (if _ then _ else _) + x ≤ (if _ then _ else _); rw [ra, if_neg (by omega), if_pos hov]; omega)
        have e2 : sm 40 (fun i => if mj_r G' (1509 + 2 * i) 7 = 2 then x else 0) = sm 40 (fun i => if mj_r G (1509 + 2 * i) 7 = 2 then x else 0) := sm_c (fun k hk => by show (if _ then _ else _) = (if _ then _ else _); rw [rr _ _ (by omega) (fun q => by omega)])
        have e5 : sm 520 (fun i => if mj_r G' (fg_a i) (i % 26) = 0 then y + x else if mj_r G' (mj_r G' (fg_a i) (i % 26)) 7 = 2 then x else 0) = sm 520 (fun i => if mj_r G (fg_a i) (i % 26) = 0 then y + x else if mj_r G (mj_r G (fg_a i) (i % 26)) 7 = 2 then x else 0) := sm_c (fun k hk => e4 k hk (fun h0 => by have := (haz k hk h0).1; omega))
        omega
      · have e1 := sm_u (g := fun i => if mj_r G (1509 + 2 * i) 7 = 2 then x else 0) (h := fun i => if mj_r G' (1509 + 2 * i) 7 = 2 then x else 0) (i := i) (w := x) (n := 40) h1 (fun k hk hne => by show (if _ then _ else _) = (if _ then _ else _); rw [rr _ _ (by omega) (fun q => by omega)]) (by show (if _ then _ else _) + x ≤ (if _ then _ else _); rw [ra, if_neg (by omega), if_pos hov]; omega)
        have e2 : sm 320 (fun i => if mj_r G' (67 + 2 * i) 7 = 2 then x else 0) = sm 320 (fun i => if mj_r G (67 + 2 * i) 7 = 2 then x else 0) := sm_c (fun k hk => by show (if _ then _ else _) = (if _ then _ else _); rw [rr _ _ (by omega) (fun q => by omega)])
        have e5 : sm 520 (fun i => if mj_r G' (fg_a i) (i % 26) = 0 then y + x else if mj_r G' (mj_r G' (fg_a i) (i % 26)) 7 = 2 then x else 0) = sm 520 (fun i => if mj_r G (fg_a i) (i % 26) = 0 then y + x else if mj_r G (mj_r G (fg_a i) (i % 26)) 7 = 2 then x else 0) := sm_c (fun k hk => e4 k hk (fun h0 => by have := (haz k hk h0).1; omega))
        omega
      · have q1 := haz k h1 h2
        have e1 : sm 320 (fun i => if mj_r G' (67 + 2 * i) 7 = 2 then x else 0) = sm 320 (fun i => if mj_r G (67 + 2 * i) 7 = 2 then x else 0) := sm_c (fun k hk => by show (if _ then _ else _) = (if _ then _ else _); rw [rr _ _ (by omega) (fun q => by omega)])
        have e2 : sm 40 (fun i => if mj_r G' (1509 + 2 * i) 7 = 2 then x else 0) = sm 40 (fun i => if mj_r G (1509 + 2 * i) 7 = 2 then x else 0) := sm_c (fun k hk => by show (if _ then _ else _) = (if _ then _ else _); rw [rr _ _ (by omega) (fun q => by omega)])
        have e5 := sm_u (g := fun i => if mj_r G (fg_a i) (i % 26) = 0 then y + x else if mj_r G (mj_r G (fg_a i) (i % 26)) 7 = 2 then x else 0) (h := fun i => if mj_r G' (fg_a i) (i % 26) = 0 then y + x else if mj_r G' (mj_r G' (fg_a i) (i % 26)) 7 = 2 then x else 0) (i := k) (w := x) (n := 520) h1 (fun i hi hne => e4 i hi (fun h0 q => hne (hu i hi k h1 q h0))) (by
          show (if _ then _ else _) + x ≤ (if _ then _ else _)
          rw [ed k h1, if_neg h2, if_neg h2, ra, if_neg (by omega), if_pos hov]; omega)
        omega
    have hp1 := hp 1 2
    have hp2 := hp 300 8
    have hF : fw ρ (fun q => q = ow ρ a) G G' := ⟨by omega, by omega, by omega, fun c hc => ⟨(kk c hc).1, (kk c hc).2, fun hq => ⟨fun j => rr c j hc (fun q => hq (by show ow ρ c = ow ρ a; rw [q.1])), fun j => ii c j hc⟩⟩⟩
    have he : ro_e ρ (ro_u ρ (mj_n G) o) G := ro_ue
    have lz7 : ∀ c i, c < mj_n G → lz c i → ¬ (c = a ∧ i = 7) → mj_r G' c i = mj_r G c i := fun c i hc _ hq => rr c i hc hq
    have hva : ho_v (ro_u ρ (mj_n G) o) G' a o := Or.inr ⟨by rw [ra]; exact hG, by rw [ra]; omega, by rw [ra]; exact ro_us, by rw [ra]; exact kn, by rw [ra]; exact ln⟩
    have hho : ho (ro_u ρ (mj_n G) o) G' := by
      obtain ⟨t1, t2, t3, t4, t5⟩ := h.2.1
      refine ⟨fun i hi => ?_, fun i hi => ?_, fun i hi => ho_ft (t3 i hi) (by omega) he (rr _ _ (by omega) (fun q => by omega)) kk, fun i hi => ?_, fun i hi => ?_⟩
      · by_cases hq : 67 + 2 * i = a
        · rcases hw with ⟨i', h1, h2, rfl⟩ | ⟨i', h1, h2, rfl⟩ | ⟨k, h1, h2, h3, rfl⟩
          · rw [hq]; exact hva
          · omega
          · have := (haz k h1 h3).1; omega
        · exact ho_vt (t1 i hi) (by omega) he (rr _ _ (by omega) (fun q => hq q.1)) kk
      · by_cases hq : 1509 + 2 * i = a
        · rcases hw with ⟨i', h1, h2, rfl⟩ | ⟨i', h1, h2, rfl⟩ | ⟨k, h1, h2, h3, rfl⟩
          · omega
          · rw [hq]; exact hva
          · have := (haz k h1 h3).1; omega
        · exact ho_vt (t2 i hi) (by omega) he (rr _ _ (by omega) (fun q => hq q.1)) kk
      · have hfa := fg_al hi
        have e0 : mj_r G' (fg_a i) (i % 26) = mj_r G (fg_a i) (i % 26) := rr _ _ (by omega) (fun q => by
          rcases hw with ⟨i', h1, h2, rfl⟩ | ⟨i', h1, h2, rfl⟩ | ⟨k, h1, h2, h3, rfl⟩
          · omega
          · omega
          · have := (haz k h1 h3).1; omega)
        by_cases h0 : mj_r G (fg_a i) (i % 26) = 0
        · exact Or.inl (e0.trans h0)
        by_cases hq : mj_r G (fg_a i) (i % 26) = a
        · obtain ⟨p1, p2, p3⟩ := haz i hi h0
          have ho2 : o = 2000 + i := by
            rcases hw with ⟨i', h1, h2, rfl⟩ | ⟨i', h1, h2, rfl⟩ | ⟨k, h1, h2, h3, rfl⟩
            · omega
            · omega
            · have := hu k h1 i hi (h2.trans hq.symm) h3
              rw [this]
          refine Or.inr ⟨by rw [e0]; exact p1, by rw [e0]; omega, by rw [e0]; exact (he _ p2).trans p3, by rw [e0]; exact ((kk _ p2).1).trans (by rw [hq]; exact ha), ?_⟩
          rw [e0, hq, ← ho2]
          exact hva
        · exact ho_kt (t4 i hi) (by omega) he e0 (fun _ => rr _ _ (haz i hi h0).2.1 (fun q => hq q.1)) kk
      · have hfa := fg_al hi
        obtain ⟨k1, k2⟩ := kk (fg_a i) (by omega)
        exact ⟨k1.trans (t5 i hi).1, k2.trans (t5 i hi).2⟩
    exact hK _ _ _ ⟨hSn, hho, ⟨i2, l22⟩, dcx_f h.2.2.2 hF he (wo_im hna) hG⟩ he hF (fun j hj => rr _ _ han (fun q => hj q.2)) (fun q hq j => ii q j hq) ra hG (by omega) ro_us kn ln
  · refine w_Va_ownRow hS ⟨ha, ?_, ?_⟩
    · rw [g4]; decide
    rw [g5]
    refine z_bf (by decide) ?_
    exact hK ρ G _ h ro_r fw_r (fun _ _ => rfl) (fun _ _ _ => rfl) rfl g1 g2 g3 g4 g5
end HE
