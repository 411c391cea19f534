/-! RENDERING: the class's Values: kept, true, alike, less -/
theorem c_cpy {G : mj_G} {x0 x sp dp m : Nat} {K : Nat → Nat → Nat → Prop} (hk : mj_k G x = 20 ∨ mj_k G x = 22) (hk0 : mj_k G x0 = mj_k G x) (h2 : 2 ≤ x0) (h3 : 3 ≤ x) (hs : sp + m ≤ mj_l G x0) (hd : dp + m ≤ mj_l G x) (hb : sp < 2 ^ 31 ∧ dp < 2 ^ 31 ∧ m < 2 ^ 31) (h : K sp dp m) : mm_cpy G x0 (nI sp) x (nI dp) (nI m) K := by
  obtain ⟨b1, b2, b3⟩ := hb
  unfold mm_cpy
  rw [nI_clamp b1, nI_clamp b2, nI_clamp b3]
  exact ⟨hk, hk0, h2, h3, nI_pos b1, nI_pos b2, nI_pos b3, hs, hd, h⟩
theorem z_ixg {n N : Nat} {K : Nat → Prop} (h : n < N) (hn : n < 2 ^ 31) (hK : K n) : mm_ix (nI n) N K := by
  unfold mm_ix vp_in
  rw [nI_clamp hn]
  exact ⟨fun q => q.elim (nI_pos hn) (fun q => by omega), hK⟩
theorem cp_i {G : mj_G} {b sp a dp m j : Nat} (h1 : dp ≤ j) (h2 : j < dp + m) : mj_i (mj_cp G b sp a dp m) a j = mj_i G b (sp + (j - dp)) := if_pos ⟨rfl, h1, h2⟩
theorem cp_n {G : mj_G} {b sp a dp m j c : Nat} (h : ¬ (c = a ∧ dp ≤ j ∧ j < dp + m)) : mj_i (mj_cp G b sp a dp m) c j = mj_i G c j := if_neg h
theorem cv_nt {P Q : Nat → Prop} {G : mj_G} {a : Nat} {v : rv} (h : cv P G a v) (ht : rv_t v ≠ 2) : cv Q G a v := ⟨h.1, h.2.1, h.2.2.1, h.2.2.2.1, fun q => absurd q ht, h.2.2.2.2.2⟩
theorem cv_m {P Q : Nat → Prop} {G : mj_G} {a : Nat} {v : rv} (h : cv P G a v) (hP : ∀ c, P c → Q c) : cv Q G a v := ⟨h.1, h.2.1, h.2.2.1, h.2.2.2.1, fun q => by
  obtain ⟨b1, b2, b3, b4⟩ := h.2.2.2.2.1 q
  exact ⟨b1, b2, hP _ b3, b4⟩, h.2.2.2.2.2⟩
/-- values of a text are told by their length, characters and safety -/
theorem cv_T {P : Nat → Prop} {G : mj_G} {a : Nat} {v : rv} (h : rv_t v = 2) : cv P G a (rv_T (rv_l v) (rv_c v) (rv_s v)) = cv P G a v := by
  have e : ∀ i, rv_t (rv_T (rv_l v) (rv_c v) (rv_s v)) = i ↔ rv_t v = i := fun i => by rw [h]; exact Iff.rfl
  unfold cv
  rw [show rv_t (rv_T (rv_l v) (rv_c v) (rv_s v)) = rv_t v from h.symm]
  refine propext ⟨fun ⟨h1, h2, h3, h4, h5, h6⟩ => ⟨h1, h2, h3, fun q => ?_, h5, fun q => ?_⟩, fun ⟨h1, h2, h3, h4, h5, h6⟩ => ⟨h1, h2, h3, fun q => ?_, h5, fun q => ?_⟩⟩
  all_goals omega
/-- whether a value is true, two are alike, one text is ahead of another -/
def rv_tr (v : rv) : Prop := (rv_t v = 1 ∧ ¬ rv_n v = nI 0) ∨ (2 ≤ rv_t v ∧ rv_l v ≠ 0)
def rv_pl (v w : rv) : Prop := rv_t v = rv_t w ∧ (rv_t v = 1 → rv_n v = rv_n w) ∧ (rv_t v = 2 → rv_l v = rv_l w ∧ ∀ j, j < rv_l v → rv_c v j = rv_c w j)
def rv_lk (I : Nat → Nat → rv) (v w : rv) : Prop := rv_pl v w ∧ (rv_t v = 3 → rv_l v = rv_l w ∧ ∀ k, k < rv_l v → rv_pl (I (rv_d v) k) (I (rv_d w) k))
/-- up to where two rows are the same -/
def rv_fd (c e : Nat → Nat) : Nat → Nat → Nat
  | 0, i => i
  | m + 1, i => if c i = e i then rv_fd c e m (i + 1) else i
def rv_bf (v w : rv) : Prop := rv_fd (rv_c v) (rv_c w) (min (rv_l v) (rv_l w)) 0 < rv_l w ∧ (rv_l v ≤ rv_fd (rv_c v) (rv_c w) (min (rv_l v) (rv_l w)) 0 ∨ rv_c v (rv_fd (rv_c v) (rv_c w) (min (rv_l v) (rv_l w)) 0) < rv_c w (rv_fd (rv_c v) (rv_c w) (min (rv_l v) (rv_l w)) 0))
theorem rv_fd_le {c e : Nat → Nat} : ∀ {m i : Nat}, i ≤ rv_fd c e m i ∧ rv_fd c e m i ≤ i + m
  | 0, i => ⟨Nat.le_refl _, Nat.le_refl _⟩
  | m + 1, i => by
    show i ≤ (if c i = e i then rv_fd c e m (i + 1) else i) ∧ (if c i = e i then rv_fd c e m (i + 1) else i) ≤ i + (m + 1)
    by_cases h : c i = e i
    · rw [if_pos h]
      have := rv_fd_le (c := c) (e := e) (m := m) (i := i + 1)
      omega
    · rw [if_neg h]; omega
section VK
variable {ρ ρ' : Nat → Nat} {D : Nat → rv} {I : Nat → Nat → rv} {W : Nat → Prop} {G G' : mj_G} {a b d : Nat} {x z : Int32} {v w : rv} {P Q : Nat → Prop}
theorem c_keep {o : Nat} {K : mj_G → Prop} (h : hh ρ D I G) (ha : vm ρ G a) (hw : (∃ i, i < 320 ∧ a = 67 + 2 * i ∧ o = a) ∨ (∃ i, i < 40 ∧ a = 1509 + 2 * i ∧ o = a) ∨ ∃ i, i < 520 ∧ mj_r G (fg_a i) (i % 26) = a ∧ mj_r G (fg_a i) (i % 26) ≠ 0 ∧ o = 2000 + i) (hv : rv_ok v) (hab : b ≠ a) (hb : cv P G b v)
    (hK : ∀ ρ' G', hh ρ' D I G' → ro_e ρ ρ' G → fw ρ (fun q => q = ow ρ a) G G' → mj_i G' a 6 = mj_i G a 6 → cv (fun c => ow ρ' c = ow ρ a ∧ 1768 ≤ c) G' a v → K G') : Va_keep (d + 1) a b G K := by
  have hoa : o = ow ρ a := by
    rcases hw with ⟨i, h1, h2, rfl⟩ | ⟨i, h1, h2, rfl⟩ | ⟨i, h1, h2, h3, rfl⟩
    · rw [ow_s (by omega)]
    · rw [ow_s (by omega)]
    · rcases h.2.1.2.2.2.1 i h1 with q | ⟨q1, q2, q3, -⟩
      · exact absurd q h3
      · rw [← h2, ow_d q1, q3]
  have hG := hh_n h
  refine w_Va_keep h.1 ⟨ha.1, c_refer h ha hv hab hb (fun G2 h2 F2 v2 o2 c2 r2 r25 => ?_)⟩
  refine ⟨c2.1, ?_⟩
  rw [c2.2.2.1, rv_kn hv.1 (by omega)]
  refine z_br (fun q => ?_) (fun q => hK ρ G2 h2 ro_r F2 v2.2 (cv_nt c2 (by have := hv.1; omega)))
  have ht : rv_t v = 2 := by omega
  obtain ⟨b1, b2, b3, b4, b5, b6, b7, b8⟩ := c2.2.2.2.2.1 ht
  have hvm2 : vm ρ G2 a := vm_f ha F2 ro_r
  have hw2 : (∃ i, i < 320 ∧ a = 67 + 2 * i ∧ o = a) ∨ (∃ i, i < 40 ∧ a = 1509 + 2 * i ∧ o = a) ∨ ∃ i, i < 520 ∧ mj_r G2 (fg_a i) (i % 26) = a ∧ mj_r G2 (fg_a i) (i % 26) ≠ 0 ∧ o = 2000 + i := by
    rcases hw with g | g | ⟨i, g1, g2, g3, g4⟩
    · exact Or.inl g
    · exact Or.inr (Or.inl g)
    · have e : mj_r G2 (fg_a i) (i % 26) = mj_r G (fg_a i) (i % 26) := (o2 _ (fun q => by
        have k1 := (h.2.1.2.2.2.2 i g1).1
        rw [q, ha.1] at k1
        exact absurd k1 (by decide))).2 _
      exact Or.inr (Or.inr ⟨i, g1, e.trans g2, by rw [e]; exact g3, g4⟩)
  refine c_ownRow h2 hvm2.1 hvm2.2.1 hw2 (fun ρ3 G4 c h4 e4 F4 r4 i4 s4 g1 g2 g3 g4 g5 => ?_)
  have ka : mj_k G4 a = 12 := ((F4.2.2.2 a hvm2.2.1).1).trans hvm2.1
  have hsrc : mj_r G4 a 3 = mj_r G2 a 3 := r4 3 (by decide)
  obtain ⟨k1, k2, -⟩ := F4.2.2.2 _ b5
  have hn300 := (hv.2.2.2.1 ht).1
  have hcr : c ≠ a := z_kne g4 ka (by decide)
  refine ⟨ka, by rw [g4]; decide, ?_⟩
  have i2a : ∀ j, mj_i G4 a j = mj_i G2 a j := i4 a hvm2.2.1
  rw [i2a 4, b1, g5, z_mn (by omega) (by decide), Nat.min_eq_left hn300, hsrc]
  refine c_cpy (Or.inr g4) (k1.trans (b6.trans g4.symm)) b4 (by omega) (by rw [k2]; omega) (by rw [g5]; omega) ⟨by decide, by decide, by omega⟩ ?_
  rintro _ rfl
  have hoc : ow ρ3 c = ow ρ a := by rw [ow_d g1, g3, hoa]
  have hna : ¬ imm ρ a := ha.2.2.1
  have hnc : ¬ imm ρ3 c := by
    unfold imm at hna ⊢
    rw [hoc]; exact hna
  have hoa3 : ow ρ3 a = ow ρ a := ro_ow e4 hvm2.2.1
  have h5 : hh ρ3 D I (mj_cp G4 (mj_r G2 a 3) 0 c 0 (rv_l v)) := hh_cp h4 hnc (by rw [g4]; decide)
  have F5 : fw ρ3 (fun q => q = ow ρ a) G4 (mj_cp G4 (mj_r G2 a 3) 0 c 0 (rv_l v)) := fw_cp hoc
  have hc5 : ∀ j, j < rv_l v → mj_i (mj_cp G4 (mj_r G2 a 3) 0 c 0 (rv_l v)) c j = nI (rv_c v j) := fun j hj => by
    rw [cp_i (Nat.zero_le _) (by omega), Nat.zero_add, Nat.sub_zero, i4 _ b5 j]
    exact b8 j hj
  have ia5 : ∀ j, mj_i (mj_cp G4 (mj_r G2 a 3) 0 c 0 (rv_l v)) a j = mj_i G2 a j := fun j => (cp_n (fun q => hcr q.1.symm)).trans (i2a j)
  rw [ia5 2, b2]
  have k5 : mj_k (mj_cp G4 (mj_r G2 a 3) 0 c 0 (rv_l v)) c = 22 := g4
  have l5 : mj_l (mj_cp G4 (mj_r G2 a 3) 0 c 0 (rv_l v)) c = 300 := g5
  have n5 : mj_n (mj_cp G4 (mj_r G2 a 3) 0 c 0 (rv_l v)) = mj_n G4 := rfl
  have v5 : vm ρ3 (mj_cp G4 (mj_r G2 a 3) 0 c 0 (rv_l v)) a := vm_f (vm_f hvm2 F4 e4) F5 ro_r
  generalize mj_cp G4 (mj_r G2 a 3) 0 c 0 (rv_l v) = G5 at h5 F5 hc5 ia5 k5 l5 n5 v5 ⊢
  refine c_setText (P := fun c' => ow ρ3 c' = ow ρ a ∧ 1768 ≤ c') h5 v5 ⟨hoc, g1⟩ (by omega) (by omega) k5 (by omega) (by omega) hc5 (fun G6 h6 F6 v6 o6 c6 => ?_)
  refine hK ρ3 G6 h6 (fun q hq => e4 q (Nat.lt_of_lt_of_le hq F2.1)) (fw_t F2 ro_r (fw_t F4 e4 (fw_t F5 ro_r (fw_m F6 (fun q hq => by rw [hq]; exact hoa3))))) (v6.2.trans ((ia5 6).trans v2.2)) ?_
  rw [cv_T ht] at c6
  exact c6
theorem c_isTrue {K : Bool → mj_G → Prop} (h : hh ρ D I G) (hv : rv_in D v) (ha : cv P G a v) (h1 : rv_tr v → K true G) (h2 : ¬ rv_tr v → K false G) : Va_isTrue d a G K := by
  have ht := hv.1.1
  unfold rv_tr at h1 h2
  refine w_Va_isTrue h.1 ⟨ha.1, ?_⟩
  rw [ha.2.2.1, rv_kn ht (by omega), rv_kn ht (by omega), rv_kn ht (by omega)]
  refine z_br (fun q => ?_) (fun q => z_br (fun q1 => ?_) (fun q1 => z_br (fun q2 => ?_) (fun q2 => ?_)))
  · have h1t : rv_t v = 1 := by omega
    rw [ha.2.2.2.1 h1t]
    exact z_br (fun q0 => h2 (fun q' => by rcases q' with q' | q'; exact q'.2 q0; omega)) (fun q0 => h1 (Or.inl ⟨h1t, q0⟩))
  · have h2t : rv_t v = 2 := by omega
    have hl := (hv.1.2.2.2.1 h2t).1
    rw [(ha.2.2.2.2.1 h2t).1, z_eq (by omega) (by decide)]
    exact z_br (fun q0 => h2 (fun q' => by rcases q' with q' | q'; omega; exact q'.2 q0)) (fun q0 => h1 (Or.inr ⟨by omega, q0⟩))
  · have h3t : rv_t v = 3 := by omega
    have hd := (hv.1.2.2.2.2 h3t).2
    have hl := (hv.1.2.2.2.2 h3t).1
    obtain ⟨e1, e2⟩ := hv.2 h3t
    obtain ⟨-, -, -, -, g⟩ := h.2.2.2 _ hd
    obtain ⟨-, -, -, g4, g5, -⟩ := g e1
    rw [ha.2.2.2.2.2 h3t]
    unfold ir at g4 g5
    rw [g4, g5, e2, z_eq (by omega) (by decide)]
    exact ⟨by decide, z_br (fun q0 => h2 (fun q' => by rcases q' with q' | q'; omega; exact q'.2 q0)) (fun q0 => h1 (Or.inr ⟨by omega, q0⟩))⟩
  · exact h2 (fun q' => by rcases q' with q' | q' <;> omega)
/-- the rows of two texts, from the i-th character on -/
theorem c_like65 {K : Bool → mj_G → Prop} (h : hh ρ D I G) (hv : rv_ok v) (hw : rv_ok w) (ha : cv P G a v) (hb : cv Q G b w) (tv : rv_t v = 2) (tw : rv_t w = 2) (hl : rv_l v = rv_l w) (h1 : (∀ j, j < rv_l v → rv_c v j = rv_c w j) → K true G) (h2 : ¬ (∀ j, j < rv_l v → rv_c v j = rv_c w j) → K false G) :
    ∀ {m i : Nat}, i + m = rv_l v → (∀ j, j < i → rv_c v j = rv_c w j) → Va_isPlainlyLike_65 d a b (nI 1) (nI i) G K
  | 0, i, hi, hj => by
    have hn := (hv.2.2.2.1 tv).1
    refine w_Va_isPlainlyLike_65 h.1 (z_bf (by decide) ⟨ha.1, ?_⟩)
    rw [(ha.2.2.2.2.1 tv).1, z_le (by omega) (by omega)]
    exact z_bt (by omega) (z_ex (b := true) (h1 (fun j q => hj j (by omega))))
  | m + 1, i, hi, hj => by
    obtain ⟨hn, hc⟩ := hv.2.2.2.1 tv
    have hc' := (hw.2.2.2.1 tw).2
    obtain ⟨b1, -, -, -, -, b6, b7, b8⟩ := ha.2.2.2.2.1 tv
    obtain ⟨c1, -, -, -, -, c6, c7, c8⟩ := hb.2.2.2.2.1 tw
    have x1 := hc i (by omega)
    have x2 := hc' i (by omega)
    refine w_Va_isPlainlyLike_65 h.1 (z_bf (by decide) ⟨ha.1, ?_⟩)
    rw [b1, z_le (by omega) (by omega)]
    refine z_bf (by omega) ⟨b6, z_ixg (by omega) (by omega) ⟨hb.1, c6, z_ixg (by omega) (by omega) ?_⟩⟩
    rw [b8 i (by omega), c8 i (by omega), z_eq (by omega) (by omega), z_add]
    refine z_br (fun q => c_like65 h hv hw ha hb tv tw hl h1 h2 (m := m) (i := i + 1) (by omega) (fun j hj2 => ?_)) (fun q => ?_)
    · by_cases e : j = i
      · rw [e]; exact q
      · exact hj j (by omega)
    · exact w_Va_isPlainlyLike_65 h.1 (z_bt rfl (z_ex (b := false) (h2 (fun q' => q (q' i (by omega))))))
theorem c_isPlainlyLike {K : Bool → mj_G → Prop} (h : hh ρ D I G) (hv : rv_ok v) (hw : rv_ok w) (ha : cv P G a v) (hb : cv Q G b w) (h3 : ¬ (rv_t v = 3 ∧ rv_t w = 3)) (h1 : rv_pl v w → K true G) (h2 : ¬ rv_pl v w → K false G) : Va_isPlainlyLike d a b G K := by
  have tv := hv.1
  have tw := hw.1
  unfold rv_pl at h1 h2
  refine w_Va_isPlainlyLike h.1 ⟨ha.1, hb.1, ?_⟩
  rw [ha.2.2.1, hb.2.2.1, rv_kx tv tw, rv_kn tv (by omega), rv_kn tv (by omega)]
  refine z_br (fun q => z_br (fun q4 => ?_) (fun q4 => z_br (fun q1 => h1 ⟨q, fun _ => by omega, fun _ => by omega⟩) (fun q1 => ?_))) (fun q => h2 (fun q' => q q'.1))
  · have tv2 : rv_t v = 2 := by omega
    have tw2 : rv_t w = 2 := by omega
    have hn := (hv.2.2.2.1 tv2).1
    have hn' := (hw.2.2.2.1 tw2).1
    rw [(ha.2.2.2.2.1 tv2).1, (hb.2.2.2.2.1 tw2).1, z_eq (by omega) (by omega)]
    refine z_br (fun hl => c_like65 h hv hw ha hb tv2 tw2 hl (fun g => h1 ⟨q, fun _ => by omega, fun _ => ⟨hl, g⟩⟩) (fun g => h2 (fun q' => g (q'.2.2 tv2).2)) (m := rv_l v) (i := 0) (by omega) (fun j hj => absurd hj (by omega))) (fun hl => ?_)
    exact w_Va_isPlainlyLike_65 h.1 (z_bt rfl (z_ex (b := false) (h2 (fun q' => hl (q'.2.2 tv2).1))))
  · have tv1 : rv_t v = 1 := by omega
    have tw1 : rv_t w = 1 := by omega
    rw [ha.2.2.2.1 tv1, hb.2.2.2.1 tw1]
    exact z_br (fun g => h1 ⟨q, fun _ => g, fun _ => by omega⟩) (fun g => h2 (fun q' => g (q'.2.1 tv1)))
/-- the items of two lists, from the i-th one on -/
theorem c_like41 {K : Bool → mj_G → Prop} (h : hh ρ D I G) (hv : rv_in D v) (hw : rv_in D w) (ha : cv P G a v) (hb : cv Q G b w) (tv : rv_t v = 3) (tw : rv_t w = 3) (hl : rv_l v = rv_l w) (h1 : (∀ k, k < rv_l v → rv_pl (I (rv_d v) k) (I (rv_d w) k)) → K true G) (h2 : ¬ (∀ k, k < rv_l v → rv_pl (I (rv_d v) k) (I (rv_d w) k)) → K false G) :
    ∀ {m i : Nat}, i + m = rv_l v → (∀ k, k < i → rv_pl (I (rv_d v) k) (I (rv_d w) k)) → Va_isLike_41 (d + 1) a b (nI i) G K
  | m, i, hi, hj => by
    obtain ⟨hn, hd⟩ := hv.1.2.2.2.2 tv
    obtain ⟨-, hd'⟩ := hw.1.2.2.2.2 tw
    obtain ⟨e1, e2⟩ := hv.2 tv
    obtain ⟨e1', e2'⟩ := hw.2 tw
    obtain ⟨-, -, -, -, g⟩ := h.2.2.2 _ hd
    obtain ⟨-, -, -, -, g'⟩ := h.2.2.2 _ hd'
    obtain ⟨-, -, -, g4, g5, g6⟩ := g e1
    obtain ⟨-, -, -, g4', g5', g6'⟩ := g' e1'
    unfold ir at g4 g5 g6 g4' g5' g6'
    refine w_Va_isLike_41 h.1 ⟨ha.1, ?_⟩
    rw [ha.2.2.2.2.2 tv, hb.2.2.2.2.2 tw, g4, g5, g4', g5', e2, e2', z_le (by omega) (by omega)]
    refine ⟨by decide, z_br (fun q => h1 (fun k hk => hj k (by omega))) (fun q => ⟨by decide, z_ixg (by omega) (by omega) ⟨hb.1, by decide, z_ixg (by omega) (by omega) ?_⟩⟩)⟩
    obtain ⟨p1, p2, p3, p4, p5⟩ := g6 i (by omega)
    obtain ⟨p1', p2', p3', p4', p5'⟩ := g6' i (by omega)
    refine ⟨p3.1, c_isPlainlyLike h p4 p4' p3 p3' (by omega) (fun hp => z_bt rfl ?_) (fun hp => z_bf (by decide) (h2 (fun q' => hp (q' i (by omega)))))⟩
    rw [z_add]
    match m, hi with
    | 0, hi => exact absurd hi (by omega)
    | m + 1, hi =>
      refine c_like41 h hv hw ha hb tv tw hl h1 h2 (m := m) (i := i + 1) (by omega) (fun k hk => ?_)
      by_cases e : k = i
      · rw [e]; exact hp
      · exact hj k (by omega)
theorem c_isLike {K : Bool → mj_G → Prop} (h : hh ρ D I G) (hv : rv_in D v) (hw : rv_in D w) (ha : cv P G a v) (hb : cv Q G b w) (h1 : rv_lk I v w → K true G) (h2 : ¬ rv_lk I v w → K false G) : Va_isLike (d + 1) a b G K := by
  have tv := hv.1.1
  have tw := hw.1.1
  unfold rv_lk at h1 h2
  have pl : ¬ (rv_t v = 3 ∧ rv_t w = 3) → Va_isPlainlyLike d a b G (fun v3 G2 => K v3 G2) := fun h3 => c_isPlainlyLike h hv.1 hw.1 ha hb h3 (fun q => h1 ⟨q, fun q3 => absurd ⟨q3, q.1 ▸ q3⟩ h3⟩) (fun q => h2 (fun q' => q q'.1))
  refine w_Va_isLike h.1 ⟨ha.1, ?_⟩
  rw [ha.2.2.1, hb.2.2.1, rv_kn tv (by omega), rv_kn tw (by omega)]
  refine z_br (fun q => ⟨hb.1, z_br (fun q' => ?_) (fun q' => pl (by omega))⟩) (fun q => pl (by omega))
  have tv3 : rv_t v = 3 := by omega
  have tw3 : rv_t w = 3 := by omega
  obtain ⟨hn, hd⟩ := hv.1.2.2.2.2 tv3
  obtain ⟨hn', hd'⟩ := hw.1.2.2.2.2 tw3
  obtain ⟨e1, e2⟩ := hv.2 tv3
  obtain ⟨e1', e2'⟩ := hw.2 tw3
  obtain ⟨-, -, -, -, g⟩ := h.2.2.2 _ hd
  obtain ⟨-, -, -, -, g'⟩ := h.2.2.2 _ hd'
  obtain ⟨-, -, -, g4, g5, -⟩ := g e1
  obtain ⟨-, -, -, g4', g5', -⟩ := g' e1'
  unfold ir at g4 g5 g4' g5'
  rw [ha.2.2.2.2.2 tv3, hb.2.2.2.2.2 tw3, g4, g5, g4', g5', e2, e2', z_eq (by omega) (by omega)]
  refine ⟨by decide, by decide, z_br (fun hl => c_like41 h hv hw ha hb tv3 tw3 hl (fun r => h1 ⟨⟨by omega, fun _ => by omega, fun _ => by omega⟩, fun _ => ⟨hl, r⟩⟩) (fun r => h2 (fun q' => r (q'.2 tv3).2)) (m := rv_l v) (i := 0) (by omega) (fun k hk => absurd hk (by omega))) (fun hl => h2 (fun q' => hl (q'.2 tv3).1))⟩
theorem c_isSafeLike {K : Bool → mj_G → Prop} (h : hh ρ D I G) (hv : rv_ok v) (ha : cv P G a v) (hb : cv Q G b w) (hp : rv_t v = rv_t w) (h1 : (rv_t v = 2 → rv_s v = rv_s w) → K true G) (h2 : ¬ (rv_t v = 2 → rv_s v = rv_s w) → K false G) : Va_isSafeLike d a b G K := by
  have tv := hv.1
  refine w_Va_isSafeLike h.1 ⟨ha.1, ?_⟩
  rw [ha.2.2.1, rv_kn tv (by omega)]
  refine z_br (fun q => ⟨hb.1, ?_⟩) (fun q => h1 (fun q' => by omega))
  have tv2 : rv_t v = 2 := by omega
  rw [(ha.2.2.2.2.1 tv2).2.1, (hb.2.2.2.2.1 (by omega)).2.1]
  refine z_br (fun g => h1 (fun _ => ?_)) (fun g => h2 (fun g' => g (by rw [g' tv2])))
  rw [← qb_bI (rv_s v), g, qb_bI]
/-- the first place at which two texts differ -/
theorem c_firstDiff {K : Int32 → mj_G → Prop} {M : Nat} (h : hh ρ D I G) (hv : rv_ok v) (hw : rv_ok w) (ha : cv P G a v) (hb : cv Q G b w) (tv : rv_t v = 2) (tw : rv_t w = 2) (hM : M ≤ rv_l v ∧ M ≤ rv_l w) : ∀ {m i : Nat}, i + m = M → K (nI (rv_fd (rv_c v) (rv_c w) m i)) G → Va_firstDifference_14 d a b (nI M) (nI i) G K
  | 0, i, hi, hK => by
    have hn := (hv.2.2.2.1 tv).1
    refine w_Va_firstDifference_14 h.1 ?_
    rw [z_le (by omega) (by omega)]
    refine z_bt (by omega) ?_
    have : i = M := hi
    rw [← this]
    exact hK
  | m + 1, i, hi, hK => by
    obtain ⟨hn, hc⟩ := hv.2.2.2.1 tv
    have hc' := (hw.2.2.2.1 tw).2
    obtain ⟨b1, -, -, -, -, b6, b7, b8⟩ := ha.2.2.2.2.1 tv
    obtain ⟨c1, -, -, -, -, c6, c7, c8⟩ := hb.2.2.2.2.1 tw
    have x1 := hc i (by omega)
    have x2 := hc' i (by omega)
    refine w_Va_firstDifference_14 h.1 ?_
    rw [z_le (by omega) (by omega)]
    refine z_bf (by omega) ⟨ha.1, b6, z_ixg (by omega) (by omega) ⟨hb.1, c6, z_ixg (by omega) (by omega) ?_⟩⟩
    rw [b8 i (by omega), c8 i (by omega), z_eq (by omega) (by omega), z_add]
    have e : rv_fd (rv_c v) (rv_c w) (m + 1) i = if rv_c v i = rv_c w i then rv_fd (rv_c v) (rv_c w) m (i + 1) else i := rfl
    rw [e] at hK
    refine z_br (fun q => ?_) (fun q => ?_)
    · rw [if_pos q] at hK
      exact c_firstDiff h hv hw ha hb tv tw hM (m := m) (i := i + 1) (by omega) hK
    · rw [if_neg q] at hK
      exact hK
theorem c_isTextBefore {K : Bool → mj_G → Prop} (h : hh ρ D I G) (hv : rv_ok v) (hw : rv_ok w) (ha : cv P G a v) (hb : cv Q G b w) (tv : rv_t v = 2) (tw : rv_t w = 2) (h1 : rv_bf v w → K true G) (h2 : ¬ rv_bf v w → K false G) : Va_isTextBefore (d + 1) a b G K := by
  obtain ⟨hn, hc⟩ := hv.2.2.2.1 tv
  obtain ⟨hn', hc'⟩ := hw.2.2.2.1 tw
  obtain ⟨b1, -, -, -, -, b6, b7, b8⟩ := ha.2.2.2.2.1 tv
  obtain ⟨c1, -, -, -, -, c6, c7, c8⟩ := hb.2.2.2.2.1 tw
  have hf := rv_fd_le (c := rv_c v) (e := rv_c w) (m := min (rv_l v) (rv_l w)) (i := 0)
  unfold rv_bf at h1 h2
  refine w_Va_isTextBefore h.1 ⟨ha.1, w_Va_firstDifference h.1 ⟨ha.1, hb.1, ?_⟩⟩
  rw [b1, c1, z_mn (by omega) (by omega)]
  refine c_firstDiff h hv hw ha hb tv tw ⟨Nat.min_le_left _ _, Nat.min_le_right _ _⟩ (m := min (rv_l v) (rv_l w)) (i := 0) (by omega) ?_
  generalize rv_fd (rv_c v) (rv_c w) (min (rv_l v) (rv_l w)) 0 = p at h1 h2 hf ⊢
  have hm1 := Nat.min_le_left (rv_l v) (rv_l w)
  have hm2 := Nat.min_le_right (rv_l v) (rv_l w)
  refine ⟨hb.1, ?_⟩
  rw [c1, b1, z_lt (by omega) (by omega), z_le (by omega) (by omega)]
  refine z_br (fun q => ⟨ha.1, z_br (fun q' => h1 ⟨q, Or.inl q'⟩) (fun q' => ⟨b6, z_ixg (by omega) (by omega) ⟨c6, z_ixg (by omega) (by omega) ?_⟩⟩)⟩) (fun q => h2 (fun q' => q q'.1))
  have x1 := hc p (by omega)
  have x2 := hc' p (by omega)
  rw [b8 p (by omega), c8 p (by omega), z_le (by omega) (by omega)]
  exact z_br (fun g => h2 (fun q2 => by rcases q2.2 with q2 | q2 <;> omega)) (fun g => h1 ⟨q, Or.inr (by omega)⟩)
end VK
