/-! RENDERING: the class's slots: joined, combined -/
section SP
variable {ρ ρ' : Nat → Nat} {D : Nat → rv} {I : Nat → Nat → rv} {G G' : mj_G} {n d : Nat} {v w : rv}
theorem jn_41 {l : Nat} : ∀ {k : Nat}, (∀ i, i < k → rv_t (I l i) = 1 ∨ rv_l (I l i) ≤ 40) → (jn I l k).1 ≤ 41 * k
  | 0, _ => Nat.le_refl _
  | k + 1, h => by
    have ih := jn_41 (k := k) (fun i hi => h i (by omega))
    have e : jn I l (k + 1) = jn_i (jn_c k (jn I l k)) (I l k) := rfl
    have hc : (jn_c k (jn I l k)).1 ≤ 41 * k + 1 := by
      unfold jn_c
      by_cases q : k = 0
      · rw [if_pos q]; omega
      · rw [if_neg q]; show (jn I l k).1 + 1 ≤ _; omega
    rw [e]
    unfold jn_i
    by_cases q : rv_t (I l k) = 1
    · rw [if_pos q]
      have := dg_ll (rv_n (I l k))
      show (jn_c k (jn I l k)).1 + dg_l (rv_n (I l k)) ≤ _
      omega
    · rw [if_neg q]
      have := h k (by omega)
      show (jn_c k (jn I l k)).1 + rv_l (I l k) ≤ _
      omega
theorem sv_08 {n c : Nat} (h : sv ρ n c) : ¬ ow ρ c = 1508 := by
  unfold sv imm im_o at h
  omega
theorem sv_cv (hn : n < 40) (h : hh ρ D I G) (hv : rv_ok v) (ha : cv (sv ρ n) G (1509 + 2 * n) v) (F : fw ρ (fun o => o = 1508) G G') : cv (sv ρ n) G' (1509 + 2 * n) v := by
  have hG := hh_n h
  exact cv_fw ha hv h.2.2.2 F (fun o ho => by rw [ho]; unfold im_o; omega) hG (by omega) (by rw [sv_o hn]; omega) (fun c _ q => ⟨sv_08 q, q⟩)
theorem c_jn19 {l N : Nat} {K : Int32 → mj_G → Prop} (hn : n < 40) (hv : rv_in D v) (tv : rv_t v = 3) (hl : rv_d v = l) (hN : rv_l v = N) (h0 : hh ρ D I G)
    (hK : ∀ ρ' G', hh ρ' D I G' → ro_e ρ ρ' G → fw ρ (fW n) G G' → ((jn I l N).1 ≤ 300 → cv (sv ρ' n) G' (1509 + 2 * n) (rv_T (jn I l N).1 (jn I l N).2.1 (jn I l N).2.2)) → K (if (jn I l N).1 ≤ 300 then nI 0 else Int32.ofInt (-10)) G') :
    ∀ {m i : Nat} {G1 : mj_G}, i + m = N → hh ρ D I G1 → fw ρ (fun o => o = 1508) G G1 → cv (sv ρ n) G1 (1509 + 2 * n) v → (∀ j, j < (jn I l i).1 → mj_i G1 1508 j = nI ((jn I l i).2.1 j)) → Fi_joinItems_19 (d + 1) (1509 + 2 * n) (nI (jn I l i).1) (bI (jn I l i).2.2) (nI i) G1 K
  | m, i, G1, hi, h1, F1, ha, hc => by
    have hG0 := hh_n h0
    obtain ⟨hl8, hdl⟩ := hv.1.2.2.2.2 tv
    obtain ⟨e1, e2⟩ := hv.2 tv
    obtain ⟨-, -, -, -, g⟩ := h1.2.2.2 _ hdl
    obtain ⟨-, -, -, g4, g5, g6⟩ := g e1
    unfold ir at g4 g5 g6
    rw [hl] at g4 g5 g6 hdl e1 e2
    have hl5 : mj_r G1 (1509 + 2 * n) 5 = mj_r G1 (mj_r G1 12 l) 5 := by rw [ha.2.2.2.2.2 tv, hl]
    have hjb : (jn I l i).1 ≤ 41 * i := jn_41 (fun k hk => by
      obtain ⟨-, -, -, -, p5⟩ := g6 k (by omega)
      rcases p5 with p5 | p5
      · exact Or.inl p5
      · exact Or.inr p5.2.2)
    have k08 : ∀ {ρ} {G2 : mj_G}, hh ρ D I G2 → mj_k G2 1508 = 22 ∧ mj_l G2 1508 = 328 := fun h => ⟨cs_k h.1 rfl, cs_l h.1 rfl⟩
    have hna8 : ¬ imm ρ 1508 := by unfold imm; rw [ow_s (by decide)]; unfold im_o; omega
    have w08 : ∀ o, o = ow ρ 1508 → o = 1508 := fun o q => by rw [ow_s (by decide)] at q; exact q
    refine w_Fi_joinItems_19 h1.1 ⟨cs_g1507 h1.1 hn, ?_⟩
    rw [hl5, g4, g5, e2, hN, z_le (by omega) (by omega), z_le (by decide) (by omega), z_le (by omega) (by decide)]
    refine ⟨by decide, ?_⟩
    match m, hi with
    | 0, hi =>
      have hiN : i = N := hi
      refine z_bt (by omega) (c_ownRow h1 (cs_g1507 h1.1 hn) (by have := hh_n h1; omega) (Or.inr (Or.inl ⟨n, hn, rfl, rfl⟩)) (fun ρ' G2 c h2 e2' F2 r2 i2 s2 c1 c2 c3 c4 c5 => ?_))
      have hco : ow ρ' c = 1509 + 2 * n := by rw [ow_d c1, c3]
      have hnc : ¬ imm ρ' c := by unfold imm; rw [hco]; unfold im_o; omega
      have FF : fw ρ (fW n) G G2 := fw_t (fw_m F1 (fun o q => Or.inl q)) ro_r (fw_m F2 (fun o q => sv_fW hn q))
      have ee : ro_e ρ ρ' G := fun a q => e2' a (Nat.lt_of_lt_of_le q F1.1)
      obtain ⟨k1, k2⟩ := k08 h2
      rw [c5, z_le (by omega) (by decide)]
      subst hiN
      refine ⟨by rw [c4]; decide, z_br (fun q => ?_) (fun q => ?_)⟩
      · rw [if_pos q] at hK
        refine c_cpy (Or.inr c4) (k1.trans c4.symm) (by decide) (by omega) (by omega) (by omega) ⟨by decide, by decide, by omega⟩ ?_
        rintro _ rfl
        have hc2 : ∀ j, j < (jn I l i).1 → mj_i (mj_cp G2 1508 0 c 0 (jn I l i).1) c j = nI ((jn I l i).2.1 j) := fun j hj => by
          rw [cp_i (Nat.zero_le _) (by omega), Nat.zero_add, Nat.sub_zero, i2 1508 (by have := hh_n h1; omega)]
          exact hc j hj
        have h3 : hh ρ' D I (mj_cp G2 1508 0 c 0 (jn I l i).1) := hh_cp h2 hnc (by rw [c4]; decide)
        have F3 : fw ρ' (fW n) G2 (mj_cp G2 1508 0 c 0 (jn I l i).1) := fw_cp (by rw [hco]; unfold fW; omega)
        have d2 : c < mj_n (mj_cp G2 1508 0 c 0 (jn I l i).1) := c2
        have d4 : mj_k (mj_cp G2 1508 0 c 0 (jn I l i).1) c = 22 := c4
        have d5 : mj_l (mj_cp G2 1508 0 c 0 (jn I l i).1) c = 300 := c5
        generalize mj_cp G2 1508 0 c 0 (jn I l i).1 = G3 at hc2 h3 F3 d2 d4 d5 ⊢
        exact ⟨cs_g1507 h3.1 hn, c_setText (P := sv ρ' n) h3 (sv_vm h3 hn) (Or.inr (Or.inr hco)) (by omega) d2 d4 (by omega) (by omega) hc2 (fun G4 h4 F4 _ _ c6 => hK ρ' G4 h4 ee (fw_t FF ee (fw_t F3 ro_r (fw_m F4 (fun o q => sv_fW hn q)))) (fun _ => c6))⟩
      · rw [if_neg q] at hK
        exact hK ρ' G2 h2 ee FF (fun r => absurd r q)
    | m + 1, hi =>
      refine z_bf (by omega) (z_bf (by omega) ⟨by decide, z_ixg (by omega) (by omega) ?_⟩)
      obtain ⟨p1, p2, p3, p4, p5⟩ := g6 i (by omega)
      have t3 := p4.1
      have e3 : jn I l (i + 1) = jn_i (jn_c i (jn I l i)) (I l i) := rfl
      have ih : ∀ G3, hh ρ D I G3 → fw ρ (fun o => o = 1508) G1 G3 → (∀ j, j < (jn I l (i + 1)).1 → mj_i G3 1508 j = nI ((jn I l (i + 1)).2.1 j)) → Fi_joinItems_19 (d + 1) (1509 + 2 * n) (nI (jn I l (i + 1)).1) (bI (jn I l (i + 1)).2.2) (nI (i + 1)) G3 K := fun G3 h3 F3 c3 => c_jn19 hn hv tv hl hN h0 hK (m := m) (i := i + 1) (by omega) h3 (fw_t F1 ro_r F3) (sv_cv hn h1 hv.1 ha F3) c3
      -- the item itself
      have item : ∀ (it : Nat) (G2 : mj_G) (a : Nat) (ch : Nat → Nat) (s : Bool), it = mj_r G1 (mj_r G1 (mj_r G1 12 l) 5) i → jn_c i (jn I l i) = (a, ch, s) → a ≤ 41 * i + 1 → i ≤ 7 → hh ρ D I G2 → fw ρ (fun o => o = 1508) G1 G2 → cv (imm ρ) G2 it (I l i) → it < mj_n G2 → (∀ j, j < a → mj_i G2 1508 j = nI (ch j)) →
          mm_br ((mj_i G2 it 0) = (nI 4)) (mm_cpy G2 (mj_r G2 it 3) (nI 0) 1508 (nI a) (mj_i G2 it 4) (fun n46 n47 n48 => ∀ G58, G58 = mj_cp G2 (mj_r G2 it 3) n46 1508 n47 n48 → mm_br (bI s = (nI 0)) (Fi_joinItems_19 (d + 1) (1509 + 2 * n) (nI a + (mj_i G58 it 4)) (nI 0) (nI i + nI 1) G58 K) (mm_br ((mj_i G58 it 2) = (nI 0)) (Fi_joinItems_19 (d + 1) (1509 + 2 * n) (nI a + (mj_i G58 it 4)) (nI 0) (nI i + nI 1) G58 K) (Fi_joinItems_19 (d + 1) (1509 + 2 * n) (nI a + (mj_i G58 it 4)) (nI 1) (nI i + nI 1) G58 K)))) (Tq_writeDigits d (mj_i G2 it 1) 1508 (nI a) G2 (fun v45 G44 => Fi_joinItems_19 (d + 1) (1509 + 2 * n) v45 (bI s) (nI i + nI 1) G44 K)) := fun it G2 a ch s hit hst hs hi7 h2 F2 q3 q2 hc2 => by
        rw [hst] at e3
        obtain ⟨k1, k2⟩ := k08 h2
        have hi8 : it ≠ 1508 := z_kne q3.1 k1 (by decide)
        rw [q3.2.2.1, rv_kn t3 (by omega)]
        refine z_br (fun q => ?_) (fun q => ?_)
        · have t2 : rv_t (I l i) = 2 := by omega
          have p6 : rv_s (I l i) = false ∧ rv_l (I l i) ≤ 40 := by
            rcases p5 with p5 | p5
            · omega
            · exact p5.2
          have e4 : jn I l (i + 1) = (a + rv_l (I l i), rv_ap a ch (rv_c (I l i)), false) := e3.trans (by unfold jn_i; rw [if_neg (by omega)])
          obtain ⟨b1, b2, b3, b4, b5, b6, b7, b8⟩ := q3.2.2.2.2.1 t2
          have hr8 : mj_r G2 it 3 ≠ 1508 := fun q => by
            unfold imm at b3
            rw [q, ow_s (by decide)] at b3
            unfold im_o at b3
            omega
          rw [b1]
          refine c_cpy (Or.inr k1) (b6.trans k1.symm) b4 (by decide) (by omega) (by omega) ⟨by decide, by omega, by omega⟩ ?_
          rintro _ rfl
          have go : Fi_joinItems_19 (d + 1) (1509 + 2 * n) (nI a + nI (rv_l (I l i))) (nI 0) (nI i + nI 1) (mj_cp G2 (mj_r G2 it 3) 0 1508 a (rv_l (I l i))) K := by
            rw [z_add, z_add]
            have r := ih (mj_cp G2 (mj_r G2 it 3) 0 1508 a (rv_l (I l i))) (hh_cp h2 hna8 (by rw [k1]; decide)) (fw_t F2 ro_r (fw_cp (ow_s (by decide)))) (fun j hj => ?_)
            · rw [e4] at r
              exact r
            · rw [e4] at hj ⊢
              have hj' : j < a + rv_l (I l i) := hj
              show _ = nI (rv_ap a ch (rv_c (I l i)) j)
              by_cases hj1 : j < a
              · rw [cp_n (by omega), rv_ap1 hj1]
                exact hc2 j hj1
              · obtain ⟨u, rfl⟩ : ∃ u, j = a + u := ⟨j - a, by omega⟩
                rw [cp_i (by omega) (by omega), rv_ap2, Nat.add_sub_cancel_left, Nat.zero_add]
                exact b8 u (by omega)
          have i4 : mj_i (mj_cp G2 (mj_r G2 it 3) 0 1508 a (rv_l (I l i))) it 4 = nI (rv_l (I l i)) := (cp_n (fun q => hi8 q.1)).trans b1
          have i2 : mj_i (mj_cp G2 (mj_r G2 it 3) 0 1508 a (rv_l (I l i))) it 2 = nI 0 := (cp_n (fun q => hi8 q.1)).trans (b2.trans (by rw [p6.1]; rfl))
          rw [i4, i2]
          exact z_br (fun _ => go) (fun _ => z_bt rfl go)
        · have t1 : rv_t (I l i) = 1 := by
            rcases p5 with p5 | p5
            · exact p5
            · omega
          have e4 : jn I l (i + 1) = (a + dg_l (rv_n (I l i)), rv_ap a ch (dg_c (rv_n (I l i))), s) := e3.trans (by unfold jn_i; rw [if_pos t1])
          have hdl := dg_ll (rv_n (I l i))
          rw [q3.2.2.2.1 t1]
          refine c_writeDigits h2 (by decide) hna8 k1 (by omega) (by omega) (fun G3 h3 F3 i3 j3 => ?_)
          rw [z_add]
          have r := ih G3 h3 (fw_t F2 ro_r (fw_m F3 w08)) (fun j hj => ?_)
          · rw [e4] at r
            exact r
          · rw [e4] at hj ⊢
            have hj' : j < a + dg_l (rv_n (I l i)) := hj
            show _ = nI (rv_ap a ch (dg_c (rv_n (I l i))) j)
            by_cases hj1 : j < a
            · rw [i3 j (by omega), rv_ap1 hj1]
              exact hc2 j hj1
            · obtain ⟨u, rfl⟩ : ∃ u, j = a + u := ⟨j - a, by omega⟩
              rw [j3 u (by omega), rv_ap2]
      refine z_br (fun q => ?_) (fun q => ?_)
      · have es : jn_c i (jn I l i) = jn I l i := by unfold jn_c; rw [if_pos (by omega)]
        exact ⟨p3.1, item _ G1 (jn I l i).1 (jn I l i).2.1 (jn I l i).2.2 rfl es (by omega) (by omega) h1 fw_r p3 p2 hc⟩
      · have es : jn_c i (jn I l i) = ((jn I l i).1 + 1, rv_ap (jn I l i).1 (jn I l i).2.1 (fun _ => 44), (jn I l i).2.2) := by unfold jn_c; rw [if_neg (by omega)]
        refine z_ixi (by omega) (by decide) ?_
        rintro _ rfl
        obtain ⟨k1, k2⟩ := k08 h1
        have h2 : hh ρ D I (mj_pI G1 1508 (jn I l i).1 (nI 44)) := hh_I h1 hna8 (fun _ q => absurd (k1.symm.trans q) (by decide))
        have F2 : fw ρ (fun o => o = 1508) G1 (mj_pI G1 1508 (jn I l i).1 (nI 44)) := fw_I (ow_s (by decide))
        have p3' := cv_im p3 p4 h1.2.2.2 F2 ro_r (fun o q => by rw [q]; unfold im_o; omega) (hh_n h1) p2 p1
        have hc2 : ∀ j, j < (jn I l i).1 + 1 → mj_i (mj_pI G1 1508 (jn I l i).1 (nI 44)) 1508 j = nI (rv_ap (jn I l i).1 (jn I l i).2.1 (fun _ => 44) j) := fun j hj' => by
          by_cases hj1 : j < (jn I l i).1
          · rw [z_iIm (by omega), rv_ap1 hj1]
            exact hc j hj1
          · obtain rfl : j = (jn I l i).1 := by omega
            rw [z_iIs]
            unfold rv_ap
            rw [if_neg (Nat.lt_irrefl _)]
        have p2' : mj_r G1 (mj_r G1 (mj_r G1 12 l) 5) i < mj_n (mj_pI G1 1508 (jn I l i).1 (nI 44)) := p2
        generalize mj_pI G1 1508 (jn I l i).1 (nI 44) = G2 at h2 F2 p3' hc2 p2' ⊢
        refine ⟨p3'.1, ?_⟩
        rw [z_add]
        exact item _ G2 ((jn I l i).1 + 1) (rv_ap (jn I l i).1 (jn I l i).2.1 (fun _ => 44)) (jn I l i).2.2 rfl es (by omega) (by omega) h2 F2 p3' p2' hc2
theorem c_joinItems {K : Int32 → mj_G → Prop} (hn : n < 40) (h : hh ρ D I G) (hv : rv_in D v) (ha : cv (sv ρ n) G (1509 + 2 * n) v)
    (hK : ∀ ρ' G', hh ρ' D I G' → ro_e ρ ρ' G → fw ρ (fW n) G G' → ((rv_fi I 106 v).1 = nI 0 → cv (sv ρ' n) G' (1509 + 2 * n) (rv_fi I 106 v).2) → K (rv_fi I 106 v).1 G') : Fi_joinItems (d + 1) (1509 + 2 * n) G K := by
  have tv := hv.1.1
  have n3 : ¬ Int32.ofInt (-3) = nI 0 := by decide
  have n10 : ¬ Int32.ofInt (-10) = nI 0 := by decide
  refine w_Fi_joinItems h.1 ⟨cs_g1507 h.1 hn, ?_⟩
  rw [ha.2.2.1, rv_kn tv (by omega)]
  refine z_br (fun q => ?_) (fun q => ?_)
  · have t3 : rv_t v = 3 := by omega
    refine c_jn19 (l := rv_d v) (N := rv_l v) hn hv t3 rfl rfl h (fun ρ' G1 h1 e1 F1 c1 => ?_) (m := rv_l v) (i := 0) (by omega) h fw_r ha (fun j hj => absurd hj (Nat.not_lt_zero j))
    by_cases b : (jn I (rv_d v) (rv_l v)).1 ≤ 300
    · have e : rv_fi I 106 v = (nI 0, rv_jn I v) := by unfold rv_fi; rw [if_pos rfl, if_pos t3, if_pos b]
      rw [if_pos b]
      rw [e] at hK
      exact hK ρ' G1 h1 e1 F1 (fun _ => c1 b)
    · have e : rv_fi I 106 v = (Int32.ofInt (-10), rv_0) := by unfold rv_fi; rw [if_pos rfl, if_pos t3, if_neg b]
      rw [if_neg b]
      rw [e] at hK
      exact hK ρ' G1 h1 e1 F1 (fun r => absurd r n10)
  · have e : rv_fi I 106 v = (Int32.ofInt (-3), rv_0) := by unfold rv_fi; rw [if_pos rfl, if_neg (by omega)]
    rw [e] at hK
    exact hK ρ G h ro_r fw_r (fun r => absurd r n3)
theorem sv_x {n m c : Nat} (h : sv ρ m c) (hm : m ≠ n) (hm2 : n < 40) : ¬ ow ρ c = 1509 + 2 * n := by
  unfold sv imm im_o at h
  omega
theorem c_joinTexts {K : Int32 → mj_G → Prop} (hn : n + 1 < 40) (h : hh ρ D I G) (hv : rv_ok v) (hw : rv_ok w) (tv : rv_t v = 2) (tw : rv_t w = 2) (ha : cv (sv ρ n) G (1509 + 2 * n) v) (hb : cv (sv ρ (n + 1)) G (1509 + 2 * (n + 1)) w)
    (hK : ∀ ρ' G', hh ρ' D I G' → ro_e ρ ρ' G → fw ρ (fW n) G G' → (rv_l v + rv_l w ≤ 300 → cv (sv ρ' n) G' (1509 + 2 * n) (rv_T (rv_l v + rv_l w) (rv_ap (rv_l v) (rv_c v) (rv_c w)) (rv_s v && rv_s w))) → K (if rv_l v + rv_l w ≤ 300 then nI 0 else Int32.ofInt (-10)) G') : Fi_joinTexts (d + 1) (1509 + 2 * n) (1509 + 2 * (n + 1)) G K := by
  have hG := hh_n h
  have hn' : n < 40 := by omega
  have lv := rv_lb hv
  have lw := rv_lb hw
  refine w_Fi_joinTexts h.1 ⟨cs_g1507 h.1 hn', c_ownRow h (cs_g1507 h.1 hn') (by omega) (Or.inr (Or.inl ⟨n, hn', rfl, rfl⟩)) (fun ρ' G1 c h1 e1 F1 r1 i1 s1 g1 g2 g3 g4 g5 => ?_)⟩
  have c1 := sv_st h hn' hv ha F1 e1 r1 i1
  have c2 : cv (sv ρ' (n + 1)) G1 (1509 + 2 * (n + 1)) w := cv_fw hb hw h.2.2.2 F1 (fun o q => fW_im (sv_fW hn' q)) hG (by omega) (by rw [sv_o hn, sv_o hn']; omega) (fun c hc q => ⟨by rw [sv_o hn']; exact sv_x q (by omega) hn', sv_e q e1 hc⟩)
  have hco : ow ρ' c = 1509 + 2 * n := by rw [ow_d g1, g3]
  have hnc : ¬ imm ρ' c := by unfold imm; rw [hco]; unfold im_o; omega
  have FF : fw ρ (fW n) G G1 := fw_m F1 (fun o q => sv_fW hn' q)
  obtain ⟨b1, b2, b3, b4, b5, b6, b7, b8⟩ := c1.2.2.2.2.1 tv
  obtain ⟨d1, d2, d3, d4, d5, d6, d7, d8⟩ := c2.2.2.2.2.1 tw
  have hdc : mj_r G1 (1509 + 2 * (n + 1)) 3 ≠ c := fun q => by
    rw [q] at d3
    exact sv_x d3 (by omega) hn' hco
  refine ⟨cs_g1507 h1.1 hn', cs_g1507 h1.1 hn, by rw [g4]; decide, ?_⟩
  rw [b1, d1, z_add, g5, z_le (by omega) (by decide)]
  refine z_br (fun q => ?_) (fun q => ?_)
  · rw [if_pos q] at hK
    refine c_cpy (Or.inr g4) (b6.trans g4.symm) b4 (by omega) (by omega) (by omega) ⟨by decide, by decide, by omega⟩ ?_
    rintro _ rfl
    have hca : ∀ m, 1509 + 2 * m ≠ c ∨ 1768 ≤ 1509 + 2 * m := fun m => by omega
    have ia : ∀ m j, m < 40 → mj_i (mj_cp G1 (mj_r G1 (1509 + 2 * n) 3) 0 c 0 (rv_l v)) (1509 + 2 * m) j = mj_i G1 (1509 + 2 * m) j := fun m j hm => cp_n (fun q => by omega)
    rw [ia n 4 hn', ia (n + 1) 4 hn, b1, d1]
    have rr : mj_r (mj_cp G1 (mj_r G1 (1509 + 2 * n) 3) 0 c 0 (rv_l v)) (1509 + 2 * (n + 1)) 3 = mj_r G1 (1509 + 2 * (n + 1)) 3 := rfl
    rw [rr]
    have f1 : ∀ j, j < rv_l v → mj_i (mj_cp G1 (mj_r G1 (1509 + 2 * n) 3) 0 c 0 (rv_l v)) c j = nI (rv_c v j) := fun j hj => by
      rw [cp_i (Nat.zero_le _) (by omega), Nat.zero_add, Nat.sub_zero]
      exact b8 j hj
    have f2 : ∀ j, j < rv_l w → mj_i (mj_cp G1 (mj_r G1 (1509 + 2 * n) 3) 0 c 0 (rv_l v)) (mj_r G1 (1509 + 2 * (n + 1)) 3) j = nI (rv_c w j) := fun j hj => (cp_n (fun q => hdc q.1)).trans (d8 j hj)
    have h2 : hh ρ' D I (mj_cp G1 (mj_r G1 (1509 + 2 * n) 3) 0 c 0 (rv_l v)) := hh_cp h1 hnc (by rw [g4]; decide)
    have F2 : fw ρ' (fW n) G1 (mj_cp G1 (mj_r G1 (1509 + 2 * n) 3) 0 c 0 (rv_l v)) := fw_cp (by rw [hco]; unfold fW; omega)
    have k2 : ∀ a, mj_k (mj_cp G1 (mj_r G1 (1509 + 2 * n) 3) 0 c 0 (rv_l v)) a = mj_k G1 a ∧ mj_l (mj_cp G1 (mj_r G1 (1509 + 2 * n) 3) 0 c 0 (rv_l v)) a = mj_l G1 a := fun _ => ⟨rfl, rfl⟩
    have n2 : mj_n (mj_cp G1 (mj_r G1 (1509 + 2 * n) 3) 0 c 0 (rv_l v)) = mj_n G1 := rfl
    generalize mj_cp G1 (mj_r G1 (1509 + 2 * n) 3) 0 c 0 (rv_l v) = G2 at ia f1 f2 h2 F2 k2 n2 ⊢
    obtain ⟨k3, k4⟩ := k2 c
    obtain ⟨k5, k6⟩ := k2 (mj_r G1 (1509 + 2 * (n + 1)) 3)
    refine c_cpy (Or.inr (k3.trans g4)) (k5.trans (d6.trans (k3.trans g4).symm)) d4 (by omega) (by omega) (by omega) ⟨by decide, by omega, by omega⟩ ?_
    rintro _ rfl
    have ib : ∀ m j, m < 40 → mj_i (mj_cp G2 (mj_r G1 (1509 + 2 * (n + 1)) 3) 0 c (rv_l v) (rv_l w)) (1509 + 2 * m) j = mj_i G1 (1509 + 2 * m) j := fun m j hm => (cp_n (fun q => by omega)).trans (ia m j hm)
    rw [ib n 2 hn', ib (n + 1) 2 hn, b2, d2]
    have f3 : ∀ j, j < rv_l v + rv_l w → mj_i (mj_cp G2 (mj_r G1 (1509 + 2 * (n + 1)) 3) 0 c (rv_l v) (rv_l w)) c j = nI (rv_ap (rv_l v) (rv_c v) (rv_c w) j) := fun j hj => by
      by_cases hj1 : j < rv_l v
      · rw [cp_n (by omega), rv_ap1 hj1]
        exact f1 j hj1
      · obtain ⟨u, rfl⟩ : ∃ u, j = rv_l v + u := ⟨j - rv_l v, by omega⟩
        rw [cp_i (by omega) (by omega), rv_ap2, Nat.add_sub_cancel_left, Nat.zero_add]
        exact f2 u (by omega)
    have h3 : hh ρ' D I (mj_cp G2 (mj_r G1 (1509 + 2 * (n + 1)) 3) 0 c (rv_l v) (rv_l w)) := hh_cp h2 hnc (by rw [k3, g4]; decide)
    have F3 : fw ρ' (fW n) G2 (mj_cp G2 (mj_r G1 (1509 + 2 * (n + 1)) 3) 0 c (rv_l v) (rv_l w)) := fw_cp (by rw [hco]; unfold fW; omega)
    have d3' : c < mj_n (mj_cp G2 (mj_r G1 (1509 + 2 * (n + 1)) 3) 0 c (rv_l v) (rv_l w)) := by show c < mj_n G2; omega
    have d4' : mj_k (mj_cp G2 (mj_r G1 (1509 + 2 * (n + 1)) 3) 0 c (rv_l v) (rv_l w)) c = 22 := k3.trans g4
    have d5' : mj_l (mj_cp G2 (mj_r G1 (1509 + 2 * (n + 1)) 3) 0 c (rv_l v) (rv_l w)) c = 300 := k4.trans g5
    generalize mj_cp G2 (mj_r G1 (1509 + 2 * (n + 1)) 3) 0 c (rv_l v) (rv_l w) = G3 at ib f3 h3 F3 d3' d4' d5' ⊢
    have fin : ∀ b, (rv_s v && rv_s w) = b → Va_setText d (1509 + 2 * n) c (nI (rv_l v + rv_l w)) (bI b) G3 (fun G33 => K (nI 0) G33) := fun b hb => c_setText (P := sv ρ' n) h3 (sv_vm h3 hn') (Or.inr (Or.inr hco)) (by omega) d3' d4' (by omega) (by omega) f3 (fun G4 h4 F4 _ _ c6 => hK ρ' G4 h4 e1 (fw_t FF e1 (fw_t F2 ro_r (fw_t F3 ro_r (fw_m F4 (fun o q => sv_fW hn' q))))) (fun _ => by rw [hb]; exact c6))
    cases hs : rv_s v with
    | false => exact z_bt rfl (fin false (by rw [hs]; rfl))
    | true =>
      refine z_bf (by decide) ?_
      cases hs2 : rv_s w with
      | false => exact z_bt rfl (fin false (by rw [hs, hs2]; rfl))
      | true => exact z_bf (by decide) (fin true (by rw [hs, hs2]; rfl))
  · rw [if_neg q] at hK
    exact hK ρ' G1 h1 e1 FF (fun r => absurd r q)
theorem z_l64 {x y : Int32} : (nI 0 ≤ lg_cmp x.toInt64 y.toInt64) = (y ≤ x) := propext ((lg_cmp_ge x.toInt64 y.toInt64).trans (by rw [Int64.le_iff_toInt_le, Int32.le_iff_toInt_le, Int32.toInt_toInt64, Int32.toInt_toInt64]))
/-- an operator: what comes of it lies in the left slot -/
theorem c_operate {c : Nat} {K : Int32 → mj_G → Prop} (hn : n + 1 < 40) (h : hh ρ D I G) (hv : rv_in D v) (hw : rv_in D w) (ha : cv (sv ρ n) G (1509 + 2 * n) v) (hb : cv (sv ρ (n + 1)) G (1509 + 2 * (n + 1)) w) (hc : c = 43 ∨ c = 45 ∨ c = 42 ∨ c = 60 ∨ c = 61 ∨ c = 38)
    (hK : ∀ ρ' G', hh ρ' D I G' → ro_e ρ ρ' G → fw ρ (fW n) G G' → ((rv_op I c v w).1 = nI 0 → cv (sv ρ' n) G' (1509 + 2 * n) (rv_op I c v w).2) → K (rv_op I c v w).1 G') : Fi_operate (d + 2) (nI c) (1509 + 2 * n) (1509 + 2 * (n + 1)) G K := by
  have hn' : n < 40 := by omega
  have tv := hv.1.1
  have tw := hw.1.1
  have n3 : ¬ Int32.ofInt (-3) = nI 0 := by decide
  have n5 : ¬ Int32.ofInt (-5) = nI 0 := by decide
  have bad : rv_op I c v w = (Int32.ofInt (-3), rv_0) → K (Int32.ofInt (-3)) G := fun e => by
    rw [e] at hK
    exact hK ρ G h ro_r fw_r (fun q => absurd q n3)
  have num : ∀ x, rv_op I c v w = (nI 0, rv_N x) → ∀ d, Va_setNumber d (1509 + 2 * n) x G (fun G2 => K (nI 0) G2) := fun x e d => by
    rw [e] at hK
    exact c_setNumber (P := sv ρ n) h (sv_vm h hn') (fun G2 h2 F2 _ c2 => hK ρ G2 h2 ro_r (fw_m F2 (fun o ho => sv_fW hn' ho)) (fun _ => c2))
  have bool : ∀ (p : Prop) b, rv_op I c v w = (nI 0, rv_N (bI (rv_B p))) → rv_B p = b → ∀ d, mm_br (b = true) ((mj_k G (1509 + 2 * n) = 12) ∧ Va_setNumber d (1509 + 2 * n) (nI 1) G (fun G18 => K (nI 0) G18)) ((mj_k G (1509 + 2 * n) = 12) ∧ Va_setNumber d (1509 + 2 * n) (nI 0) G (fun G16 => K (nI 0) G16)) := fun p b e hb d => by
    rw [hb] at e
    cases b with
    | true => exact z_bt rfl ⟨cs_g1507 h.1 hn', num _ e d⟩
    | false => exact z_bf (by decide) ⟨cs_g1507 h.1 hn', num _ e d⟩
  have rest : ¬ c = 38 → ¬ c = 61 → ¬ (rv_t v = 1 ∧ rv_t w = 1) → Fi_operate_72 (d + 2) (nI c) (1509 + 2 * n) (1509 + 2 * (n + 1)) G K := fun a1 a2 a3 => by
    refine w_Fi_operate_72 h.1 ⟨cs_g1507 h.1 hn', ?_⟩
    rw [ha.2.2.1, hb.2.2.1, rv_kn tv (by omega), rv_kn tw (by omega), z_eq (by omega) (by decide), z_eq (by omega) (by decide)]
    refine z_br (fun q => ⟨cs_g1507 h.1 hn, z_br (fun q1 => ?_) (fun q1 => bad ?_)⟩) (fun q => bad ?_)
    · have tt : rv_t v = 2 ∧ rv_t w = 2 := by omega
      refine z_br (fun q2 => ?_) (fun q2 => z_br (fun q3 => ?_) (fun q3 => bad ?_))
      · have e : rv_op I c v w = (if rv_l v + rv_l w ≤ 300 then (nI 0, rv_T (rv_l v + rv_l w) (rv_ap (rv_l v) (rv_c v) (rv_c w)) (rv_s v && rv_s w)) else (Int32.ofInt (-10), rv_0)) := by unfold rv_op; rw [if_neg a1, if_neg a2, if_neg a3, if_pos tt, if_pos q2]
        refine c_joinTexts hn h hv.1 hw.1 tt.1 tt.2 ha hb (fun ρ' G1 h1 e1 F1 c1 => ?_)
        by_cases b : rv_l v + rv_l w ≤ 300
        · rw [if_pos b] at e ⊢
          rw [e] at hK
          exact hK ρ' G1 h1 e1 F1 (fun _ => c1 b)
        · rw [if_neg b] at e ⊢
          rw [e] at hK
          exact hK ρ' G1 h1 e1 F1 (fun r => absurd r (by decide))
      · have e : rv_op I c v w = (nI 0, rv_N (bI (rv_B (rv_bf v w)))) := by unfold rv_op; rw [if_neg a1, if_neg a2, if_neg a3, if_pos tt, if_neg q2, if_pos q3]
        exact c_isTextBefore h hv.1 hw.1 ha hb tt.1 tt.2 (fun r => bool _ true e (rv_Bt r) _) (fun r => bool _ false e (rv_Bf r) _)
      · unfold rv_op; rw [if_neg a1, if_neg a2, if_neg a3, if_pos tt, if_neg q2, if_neg q3]
    · unfold rv_op; rw [if_neg a1, if_neg a2, if_neg a3, if_neg (by omega)]
    · unfold rv_op; rw [if_neg a1, if_neg a2, if_neg a3, if_neg (by omega)]
  refine w_Fi_operate h.1 ?_
  rw [z_eq (by omega) (by decide), z_eq (by omega) (by decide)]
  refine z_br (fun q => ⟨cs_g1507 h.1 hn, ?_⟩) (fun q => z_br (fun q1 => ⟨cs_g1507 h.1 hn', ?_⟩) (fun q1 => ⟨cs_g1507 h.1 hn', ?_⟩))
  · have e : rv_op I c v w = (nI 0, rv_N (bI (rv_B (rv_tr w)))) := by unfold rv_op; rw [if_pos q]
    exact c_isTrue h hw hb (fun r => bool _ true e (rv_Bt r) _) (fun r => bool _ false e (rv_Bf r) _)
  · have e : rv_op I c v w = (nI 0, rv_N (bI (rv_B (rv_lk I v w)))) := by unfold rv_op; rw [if_neg q, if_pos q1]
    exact c_isLike h hv hw ha hb (fun r => bool _ true e (rv_Bt r) _) (fun r => bool _ false e (rv_Bf r) _)
  · rw [ha.2.2.1, hb.2.2.1, rv_kn tv (by omega), rv_kn tw (by omega)]
    refine z_br (fun q2 => ⟨cs_g1507 h.1 hn, z_br (fun q3 => ?_) (fun q3 => rest q q1 (by omega))⟩) (fun q2 => rest q q1 (by omega))
    have tt : rv_t v = 1 ∧ rv_t w = 1 := by omega
    refine w_Fi_calculate h.1 ⟨cs_g1507 h.1 hn', cs_g1507 h.1 hn, ?_⟩
    rw [ha.2.2.2.1 tt.1, hb.2.2.2.1 tt.2, z_eq (by omega) (by decide), z_eq (by omega) (by decide), z_eq (by omega) (by decide)]
    have go : ∀ y, c ≠ 60 → y = rv_ar c (rv_n v) (rv_n w) → mm_br (lg_cmp y y.toInt32.toInt64 = nI 0) (Va_setNumber d (1509 + 2 * n) y.toInt32 G (fun G7 => K (nI 0) G7)) (K (Int32.ofInt (-5)) G) := fun y hc6 hy => by
      have e : rv_op I c v w = (if lg_cmp (rv_ar c (rv_n v) (rv_n w)) (rv_ar c (rv_n v) (rv_n w)).toInt32.toInt64 = nI 0 then (nI 0, rv_N (rv_ar c (rv_n v) (rv_n w)).toInt32) else (Int32.ofInt (-5), rv_0)) := by unfold rv_op; rw [if_neg q, if_neg q1, if_pos tt, if_neg hc6]
      rw [← hy] at e
      refine z_br (fun g => ?_) (fun g => ?_)
      · rw [if_pos g] at e
        exact num _ e d
      · rw [if_neg g] at e
        rw [e] at hK
        exact hK ρ G h ro_r fw_r (fun r => absurd r n5)
    refine z_br (fun r => go _ (by omega) ?_) (fun r => z_br (fun r1 => go _ (by omega) ?_) (fun r1 => z_br (fun r2 => go _ (by omega) ?_) (fun r2 => ?_)))
    · unfold rv_ar; rw [if_pos r]
    · unfold rv_ar; rw [if_neg r, if_pos r1]
    · unfold rv_ar; rw [if_neg r, if_neg r1]
    · have e : rv_op I c v w = (nI 0, rv_N (bI (rv_B (¬ rv_n w ≤ rv_n v)))) := by unfold rv_op; rw [if_neg q, if_neg q1, if_pos tt, if_pos (by omega)]
      rw [z_l64]
      refine z_br (fun g => z_bt (by decide) (num _ ?_ d)) (fun g => z_bt (by decide) (num _ ?_ d))
      · rw [e, rv_Bf (fun r => r g)]; rfl
      · rw [e, rv_Bt g]; rfl
end SP
