/-! RENDERING: the class's slots: filters of one value -/
/-- rows that a slot's characters may stand in -/
def sv (ρ : Nat → Nat) (n c : Nat) : Prop := imm ρ c ∨ (67 ≤ ow ρ c ∧ ow ρ c ≤ 706) ∨ ow ρ c = 1509 + 2 * n
/-- what slots from n on write -/
def fW (n o : Nat) : Prop := o = 1508 ∨ (1509 + 2 * n ≤ o ∧ o ≤ 1588)
theorem fW_im {n o : Nat} (h : fW n o) : ¬ im_o o := by
  unfold fW at h
  unfold im_o
  omega
theorem fW_m {n m o : Nat} (h : fW m o) (hn : n ≤ m) : fW n o := by
  unfold fW at h ⊢
  omega
theorem sv_e {ρ ρ' : Nat → Nat} {G : mj_G} {n c : Nat} (h : sv ρ n c) (he : ro_e ρ ρ' G) (hc : c < mj_n G) : sv ρ' n c := by
  unfold sv at h ⊢
  rw [imm_e he hc, ro_ow he hc]
  exact h
section SL
variable {ρ ρ' : Nat → Nat} {D : Nat → rv} {I : Nat → Nat → rv} {G G' : mj_G} {n d : Nat} {v w : rv}
theorem sv_vm (h : hh ρ D I G) (hn : n < 40) : vm ρ G (1509 + 2 * n) := vm_s h.1 (Or.inr (Or.inl ⟨by omega, by omega, by omega⟩)) (cs_g1507 h.1 hn)
theorem sv_o (hn : n < 40) : ow ρ (1509 + 2 * n) = 1509 + 2 * n := ow_s (by omega)
theorem sv_fW (hn : n < 40) {o : Nat} (h : o = ow ρ (1509 + 2 * n)) : fW n o := by
  rw [sv_o hn] at h
  unfold fW
  omega
/-- a slot's value stays while its row is made -/
theorem sv_st (h : hh ρ D I G) (hn : n < 40) (hv : rv_ok v) (ha : cv (sv ρ n) G (1509 + 2 * n) v) (F : fw ρ (fun q => q = ow ρ (1509 + 2 * n)) G G') (he : ro_e ρ ρ' G) (hr : ∀ j, j ≠ 7 → mj_r G' (1509 + 2 * n) j = mj_r G (1509 + 2 * n) j) (hi : ∀ q, q < mj_n G → ∀ j, mj_i G' q j = mj_i G q j) : cv (sv ρ' n) G' (1509 + 2 * n) v := by
  have hG := hh_n h
  have hna : ¬ im_o (ow ρ (1509 + 2 * n)) := by rw [sv_o hn]; unfold im_o; omega
  obtain ⟨h1, h2, h3, h4, h5, h6⟩ := ha
  have hlt : 1509 + 2 * n < mj_n G := by omega
  refine ⟨((F.2.2.2 _ hlt).1).trans h1, by rw [hi _ hlt]; exact h2, (hi _ hlt _).trans h3, fun q => (hi _ hlt _).trans (h4 q), fun q => ?_, fun q => ?_⟩
  · obtain ⟨b1, b2, b3, b4, b5, b6, b7, b8⟩ := h5 q
    rw [hr 3 (by decide)]
    refine ⟨(hi _ hlt _).trans b1, (hi _ hlt _).trans b2, sv_e b3 he b5, b4, Nat.lt_of_lt_of_le b5 F.1, ((F.2.2.2 _ b5).1).trans b6, by rw [(F.2.2.2 _ b5).2.1]; exact b7, fun j hj => (hi _ b5 _).trans (b8 j hj)⟩
  · rw [hr 5 (by decide)]
    exact (h6 q).trans (dcx_l h.2.2.2 F (wo_im hna) hG (hv.2.2.2.2 q).2).2.symm
theorem c_raise7 {c : Nat} {K : mj_G → Prop} (hn : n < 40) (hv : rv_ok v) (tv : rv_t v = 2) (hd : 15 ≤ d) (hc1 : 1768 ≤ c) (hco : ow ρ c = 1509 + 2 * n)
    (hK : ∀ G', hh ρ D I G' → fw ρ (fW n) G G' → cv (sv ρ n) G' (1509 + 2 * n) (rv_T (rv_l v) (fun j => rv_u (rv_c v j)) (rv_s v)) → K G') :
    ∀ {m i : Nat} {G1 : mj_G}, i + m = rv_l v → hh ρ D I G1 → fw ρ (fW n) G G1 → c < mj_n G1 → mj_k G1 c = 22 → mj_l G1 c = 300 → mj_i G1 (1509 + 2 * n) 4 = nI (rv_l v) → mj_i G1 (1509 + 2 * n) 2 = bI (rv_s v) → mj_k G1 (mj_r G1 (1509 + 2 * n) 3) = 22 → rv_l v ≤ mj_l G1 (mj_r G1 (1509 + 2 * n) 3) →
      (∀ j, i ≤ j → j < rv_l v → mj_i G1 (mj_r G1 (1509 + 2 * n) 3) j = nI (rv_c v j)) → (∀ j, j < i → mj_i G1 c j = nI (rv_u (rv_c v j))) → Fi_raise_7 (d + 1) (1509 + 2 * n) c (nI i) G1 K
  | 0, i, G1, hi, h1, F1, g1, g2, g3, e4, e2, k3, l3, s3, c3 => by
    have hl := (hv.2.2.2.1 tv).1
    refine w_Fi_raise_7 h1.1 (by omega) ⟨cs_g1507 h1.1 hn, ?_⟩
    rw [e4, e2, z_le (by omega) (by omega)]
    refine z_bt (by omega) (c_setText (P := sv ρ n) h1 (sv_vm h1 hn) (Or.inr (Or.inr hco)) (by omega) g1 g2 (by omega) (by omega) (ch := fun j => rv_u (rv_c v j)) (fun j hj => c3 j (by omega)) (fun G2 h2 F2 _ _ c2 => hK G2 h2 (fw_t F1 ro_r (fw_m F2 (fun o ho => sv_fW hn ho))) c2))
  | m + 1, i, G1, hi, h1, F1, g1, g2, g3, e4, e2, k3, l3, s3, c3 => by
    obtain ⟨hl, hb⟩ := hv.2.2.2.1 tv
    have x1 := hb i (by omega)
    have hca : c ≠ 1509 + 2 * n := by omega
    refine w_Fi_raise_7 h1.1 (by omega) ⟨cs_g1507 h1.1 hn, ?_⟩
    rw [e4, e2, z_le (by omega) (by omega), g3, z_le (by omega) (by omega)]
    refine z_bf (by omega) ⟨by rw [g2]; decide, z_bf (by omega) ⟨k3, z_ixg (by omega) (by omega) ?_⟩⟩
    rw [s3 i (Nat.le_refl _) (by omega), z_12029 (by omega)]
    have hnc : ¬ imm ρ c := by unfold imm; rw [hco]; unfold im_o; omega
    have nx : ∀ y, y = nI (rv_u (rv_c v i)) → Fi_raise_7 (d + 1) (1509 + 2 * n) c (nI i + nI 1) (mj_pI G1 c i y) K := fun y hy => by
      have hy2 : hh ρ D I (mj_pI G1 c i y) := hh_I h1 hnc (fun _ q => absurd (g2.symm.trans q) (by decide))
      rw [z_add]
      refine c_raise7 hn hv tv hd hc1 hco hK (m := m) (i := i + 1) (by omega) hy2 (fw_t F1 ro_r (fw_I (by rw [hco]; unfold fW; omega))) g1 g2 g3 ((z_iIn hca.symm).trans e4) ((z_iIn hca.symm).trans e2) k3 l3 (fun j a b => ?_) (fun j a => ?_)
      · show mj_i (mj_pI G1 c i y) (mj_r G1 (1509 + 2 * n) 3) j = nI (rv_c v j)
        by_cases q : mj_r G1 (1509 + 2 * n) 3 = c
        · rw [q, z_iIm (by omega), ← q]
          exact s3 j (by omega) b
        · rw [z_iIn q]
          exact s3 j (by omega) b
      · by_cases q : j = i
        · rw [q, z_iIs]; exact hy
        · rw [z_iIm q]; exact c3 j (by omega)
    refine z_br (fun g => ⟨g2, by omega, z_ixg (by omega) (by omega) ?_⟩) (fun g => ⟨g2, by omega, z_ixg (by omega) (by omega) ⟨z_cc (by omega), ?_⟩⟩)
    · rintro _ rfl
      refine nx _ ?_
      unfold tx_L at g
      unfold rv_u
      rw [if_pos g, z_sub (by omega), z_add, z_chn (by omega)]
      congr 1
      omega
    · rintro _ rfl
      refine nx _ ?_
      unfold tx_L at g
      unfold rv_u
      rw [if_neg g]
theorem c_raise {K : mj_G → Prop} (hn : n < 40) (h : hh ρ D I G) (hv : rv_ok v) (tv : rv_t v = 2) (ha : cv (sv ρ n) G (1509 + 2 * n) v) (hd : 15 ≤ d)
    (hK : ∀ ρ' G', hh ρ' D I G' → ro_e ρ ρ' G → fw ρ (fW n) G G' → cv (sv ρ' n) G' (1509 + 2 * n) (rv_T (rv_l v) (fun j => rv_u (rv_c v j)) (rv_s v)) → K G') : Fi_raise (d + 1) (1509 + 2 * n) G K := by
  have hG := hh_n h
  refine w_Fi_raise h.1 ⟨cs_g1507 h.1 hn, c_ownRow h (cs_g1507 h.1 hn) (by omega) (Or.inr (Or.inl ⟨n, hn, rfl, rfl⟩)) (fun ρ' G1 c h1 e1 F1 r1 i1 s1 g1 g2 g3 g4 g5 => ?_)⟩
  have c1 := sv_st h hn hv ha F1 e1 r1 i1
  obtain ⟨b1, b2, b3, b4, b5, b6, b7, b8⟩ := c1.2.2.2.2.1 tv
  have hco : ow ρ' c = 1509 + 2 * n := by rw [ow_d g1, g3]
  exact c_raise7 (G := G1) hn hv tv hd g1 hco (fun G2 h2 F2 c2 => hK ρ' G2 h2 e1 (fw_t (fw_m F1 (fun o ho => sv_fW hn ho)) e1 F2) c2) (m := rv_l v) (i := 0) (by omega) h1 fw_r g2 g4 g5 b1 b2 b6 b7 (fun j _ hj => b8 j hj) (fun j hj => absurd hj (Nat.not_lt_zero j))
/-- a text as a number -/
theorem c_num54 {fr : Nat} {K : mj_G → Prop} (hn : n < 40) (h : hh ρ D I G) (hv : rv_ok v) (tv : rv_t v = 2) (ha : cv (sv ρ n) G (1509 + 2 * n) v) (hd : 15 ≤ d) (hf : fr ≤ 1)
    (hK : ∀ b y, (b, y) = rv_rn v → ∀ G', hh ρ D I G' → fw ρ (fW n) G G' → cv (sv ρ n) G' (1509 + 2 * n) (if b = true then rv_N (if fr = 1 then -y else y) else rv_0) → K G') :
    ∀ {m i : Nat} {acc : Int32}, i + m = rv_l v → rn_f (rv_c v) m i acc = rv_rn v → Fi_toNumber_54 (d + 1) (1509 + 2 * n) (nI fr) acc (nI 1) (nI i) G K
  | m, i, acc, hi, he => by
    obtain ⟨hl, hb⟩ := hv.2.2.2.1 tv
    obtain ⟨b1, b2, b3, b4, b5, b6, b7, b8⟩ := ha.2.2.2.2.1 tv
    have yes : ∀ y, (true, y) = rv_rn v → mm_br (nI fr = nI 1) ((mj_k G (1509 + 2 * n) = 12) ∧ Va_setNumber d (1509 + 2 * n) (-y) G (fun G10 => K G10)) ((mj_k G (1509 + 2 * n) = 12) ∧ Va_setNumber d (1509 + 2 * n) y G (fun G8 => K G8)) := fun y hy => by
      rw [z_eq (by omega) (by decide)]
      refine z_br (fun q => ⟨cs_g1507 h.1 hn, c_setNumber (P := sv ρ n) h (sv_vm h hn) (fun G2 h2 F2 _ c2 => hK true y hy G2 h2 (fw_m F2 (fun o ho => sv_fW hn ho)) ?_)⟩) (fun q => ⟨cs_g1507 h.1 hn, c_setNumber (P := sv ρ n) h (sv_vm h hn) (fun G2 h2 F2 _ c2 => hK true y hy G2 h2 (fw_m F2 (fun o ho => sv_fW hn ho)) ?_)⟩)
      · rw [if_pos rfl, if_pos q]; exact c2
      · rw [if_pos rfl, if_neg q]; exact c2
    refine w_Fi_toNumber_54 h.1 (by omega) (z_bf (by decide) ⟨cs_g1507 h.1 hn, ?_⟩)
    rw [b1, z_le (by omega) (by omega)]
    match m, hi, he with
    | 0, hi, he =>
      have y := yes acc he
      refine z_bt (by omega) (z_bf (by decide) ?_)
      exact ⟨fun q => (y.1 q).2, fun q => (y.2 q).2⟩
    | m + 1, hi, he =>
      have x1 := hb i (by omega)
      have e : rn_f (rv_c v) (m + 1) i acc = if 48 ≤ rv_c v i ∧ rv_c v i ≤ 57 then rn_f (rv_c v) m (i + 1) (nI 10 * acc + nI (rv_c v i) - nI 48) else (false, nI 10 * acc + nI (rv_c v i) - nI 48) := rfl
      rw [e] at he
      refine z_bf (by omega) ⟨b6, z_ixg (by omega) (by omega) ?_⟩
      rw [b8 i (by omega), z_add]
      by_cases hD : 48 ≤ rv_c v i ∧ rv_c v i ≤ 57
      · rw [if_pos hD] at he
        have hb : qb (q_12030 (nI (rv_c v i))) = true := by rw [z_12030 (by omega)]; exact hD
        rw [hb]
        exact c_num54 hn h hv tv ha hd hf hK (m := m) (i := i + 1) (by omega) he
      · rw [if_neg hD] at he
        have hb : qb (q_12030 (nI (rv_c v i))) = false := Bool.eq_false_iff.mpr (fun g => hD (by rw [z_12030 (by omega)] at g; exact g))
        rw [hb]
        refine w_Fi_toNumber_54 h.1 (by omega) (z_bt rfl (z_bt rfl ⟨cs_g1507 h.1 hn, c_setNothing (P := sv ρ n) h (sv_vm h hn) (fun G2 h2 F2 _ c2 => hK false _ he G2 h2 (fw_m F2 (fun o ho => sv_fW hn ho)) ?_)⟩))
        rw [if_neg (by decide)]
        exact c2
theorem c_toNumber {K : mj_G → Prop} (hn : n < 40) (h : hh ρ D I G) (hv : rv_ok v) (tv : rv_t v = 2) (ha : cv (sv ρ n) G (1509 + 2 * n) v) (hd : 15 ≤ d)
    (hK : ∀ G', hh ρ D I G' → fw ρ (fW n) G G' → cv (sv ρ n) G' (1509 + 2 * n) (rv_rd v) → K G') : Fi_toNumber (d + 1) (1509 + 2 * n) G K := by
  obtain ⟨hl, hb⟩ := hv.2.2.2.1 tv
  obtain ⟨b1, b2, b3, b4, b5, b6, b7, b8⟩ := ha.2.2.2.2.1 tv
  have hfl := rv_frl (v := v)
  have fin : ∀ b y, (b, y) = rv_rn v → ∀ G', hh ρ D I G' → fw ρ (fW n) G G' → cv (sv ρ n) G' (1509 + 2 * n) (if b = true then rv_N (if rv_fr v = 1 then -y else y) else rv_0) → K G' := fun b y he G' h' F' c' => hK G' h' F' (by
    unfold rv_rd
    rw [← he]
    exact c')
  have go : ∀ fr, fr = rv_fr v → mm_br (nI (rv_l v - fr) < nI 1) (Fi_toNumber_54 (d + 1) (1509 + 2 * n) (nI fr) (nI 0) (nI 0) (nI fr) G K) (mm_br (nI 9 < nI (rv_l v - fr)) (Fi_toNumber_54 (d + 1) (1509 + 2 * n) (nI fr) (nI 0) (nI 0) (nI fr) G K) (Fi_toNumber_54 (d + 1) (1509 + 2 * n) (nI fr) (nI 0) (nI 1) (nI fr) G K)) := fun fr hfr => by
    rw [z_lt (by omega) (by decide), z_lt (by decide) (by omega)]
    have bad : ¬ (1 ≤ rv_l v - fr ∧ rv_l v - fr ≤ 9) → Fi_toNumber_54 (d + 1) (1509 + 2 * n) (nI fr) (nI 0) (nI 0) (nI fr) G K := fun q => by
      have he : (false, nI 0) = rv_rn v := by
        unfold rv_rn
        rw [← hfr, if_neg q]
      refine w_Fi_toNumber_54 h.1 (by omega) (z_bt rfl (z_bt rfl ⟨cs_g1507 h.1 hn, c_setNothing (P := sv ρ n) h (sv_vm h hn) (fun G2 h2 F2 _ c2 => fin false _ he G2 h2 (fw_m F2 (fun o ho => sv_fW hn ho)) ?_)⟩))
      rw [if_neg (by decide)]
      exact c2
    refine z_br (fun q => bad (by omega)) (fun q => z_br (fun q1 => bad (by omega)) (fun q1 => ?_))
    refine c_num54 (fr := fr) hn h hv tv ha hd (by omega) (fun b y he G' h' F' c' => fin b y he G' h' F' (by rw [← hfr]; exact c')) (m := rv_l v - fr) (i := fr) (by omega) ?_
    unfold rv_rn
    rw [← hfr, if_pos (by omega)]
  refine w_Fi_toNumber h.1 ⟨cs_g1507 h.1 hn, ?_⟩
  rw [b1, z_le (by omega) (by decide)]
  refine z_br (fun q => ?_) (fun q => ⟨b6, z_ixg (by omega) (by decide) ?_⟩)
  · have hf0 : rv_fr v = 0 := by unfold rv_fr; rw [if_neg (fun q => q.1 (by omega))]
    have g := go 0 hf0.symm
    rw [z_sub (by omega)]
    exact g
  · have x1 := hb 0 (by omega)
    rw [b8 0 (by omega), z_eq (by omega) (by decide)]
    refine z_br (fun g => ?_) (fun g => ?_)
    · have hf1 : rv_fr v = 1 := by unfold rv_fr; rw [if_pos ⟨by omega, g⟩]
      have g := go 1 hf1.symm
      rw [z_sub (by omega)]
      exact g
    · have hf0 : rv_fr v = 0 := by unfold rv_fr; rw [if_neg (fun q => g q.2)]
      have g := go 0 hf0.symm
      rw [z_sub (by omega)]
      exact g
/-- a filter of one value, but for joining -/
theorem c_filter {c : Nat} {K : Int32 → mj_G → Prop} (hn : n < 40) (h : hh ρ D I G) (hv : rv_in D v) (ha : cv (sv ρ n) G (1509 + 2 * n) v) (hd : 15 ≤ d) (hc : c = 117 ∨ c = 108 ∨ c = 114 ∨ c = 110)
    (hK : ∀ ρ' G', hh ρ' D I G' → ro_e ρ ρ' G → fw ρ (fW n) G G' → ((rv_fi I c v).1 = nI 0 → cv (sv ρ' n) G' (1509 + 2 * n) (rv_fi I c v).2) → K (rv_fi I c v).1 G') : Fi_filter (d + 2) (nI c) (1509 + 2 * n) G K := by
  have tv := hv.1.1
  have n3 : ¬ Int32.ofInt (-3) = nI 0 := by decide
  have bad : rv_fi I c v = (Int32.ofInt (-3), rv_0) → K (Int32.ofInt (-3)) G := fun e => by
    rw [e] at hK
    exact hK ρ G h ro_r fw_r (fun q => absurd q n3)
  have rest : ¬ (c = 108 ∧ rv_t v = 3) → Fi_filter_26 (d + 2) (nI c) (1509 + 2 * n) G K := fun hno => by
    refine w_Fi_filter_26 h.1 ⟨cs_g1507 h.1 hn, ?_⟩
    rw [ha.2.2.1, rv_kn tv (by omega), z_eq (by omega) (by decide), z_eq (by omega) (by decide), z_eq (by omega) (by decide)]
    refine z_br (fun q => ?_) (fun q => bad ?_)
    · have t2 : rv_t v = 2 := by omega
      obtain ⟨hl, hb⟩ := hv.1.2.2.2.1 t2
      obtain ⟨b1, b2, b3, b4, b5, b6, b7, b8⟩ := ha.2.2.2.2.1 t2
      refine z_br (fun q1 => ?_) (fun q1 => z_br (fun q2 => ?_) (fun q2 => z_br (fun q3 => ?_) (fun q3 => ?_)))
      · have e : rv_fi I c v = (nI 0, rv_N (nI (rv_l v))) := by unfold rv_fi; rw [if_neg (by omega), if_pos q1, if_pos (by omega)]
        rw [e] at hK
        rw [b1]
        exact c_setNumber (P := sv ρ n) h (sv_vm h hn) (fun G2 h2 F2 _ c2 => hK ρ G2 h2 ro_r (fw_m F2 (fun o ho => sv_fW hn ho)) (fun _ => c2))
      · have e : rv_fi I c v = (nI 0, rv_T (rv_l v) (rv_c v) true) := by unfold rv_fi; rw [if_neg (by omega), if_neg (by omega), if_pos t2, if_neg (by omega), if_pos q2]
        rw [e] at hK
        rintro _ rfl
        obtain ⟨h2, F2⟩ := hh_rI (z := nI 1) (j := 2) h (sv_vm h hn) (fun _ => bI_b true)
        have ha' := ha
        rw [← cv_T t2] at ha'
        have hca : mj_r G (1509 + 2 * n) 3 ≠ 1509 + 2 * n := z_kne b6 (cs_g1507 h.1 hn) (by decide)
        refine hK ρ _ h2 ro_r (fw_m F2 (fun o ho => sv_fW hn ho)) (fun _ => ⟨ha.1, h2.2.2.1.1 _ ha.1, (z_iIm (by decide)).trans ha'.2.2.1, fun r => absurd r (by show ¬ 2 = 1; omega), fun _ => ⟨(z_iIm (by decide)).trans b1, z_iIs, b3, b4, b5, b6, b7, fun j hj => (z_iIn hca).trans (b8 j hj)⟩, fun r => absurd r (by show ¬ 2 = 3; omega)⟩)
      · have e : rv_fi I c v = (nI 0, rv_T (rv_l v) (fun j => rv_u (rv_c v j)) (rv_s v)) := by unfold rv_fi; rw [if_neg (by omega), if_neg (by omega), if_pos t2, if_pos q3]
        rw [e] at hK
        exact c_raise hn h hv.1 t2 ha hd (fun ρ' G2 h2 e2 F2 c2 => hK ρ' G2 h2 e2 F2 (fun _ => c2))
      · have e : rv_fi I c v = (nI 0, rv_rd v) := by unfold rv_fi; rw [if_neg (by omega), if_neg (by omega), if_pos t2, if_neg (by omega), if_neg (by omega)]
        rw [e] at hK
        exact c_toNumber hn h hv.1 t2 ha hd (fun G2 h2 F2 c2 => hK ρ G2 h2 ro_r F2 (fun _ => c2))
    · unfold rv_fi
      by_cases q1 : c = 108
      · rw [if_neg (by omega), if_pos q1, if_neg (by omega)]
      · rw [if_neg (by omega), if_neg q1, if_neg (by omega)]
  refine w_Fi_filter h.1 ?_
  rw [z_eq (by omega) (by decide)]
  refine z_br (fun q => ⟨cs_g1507 h.1 hn, ?_⟩) (fun q => rest (fun r => q r.1))
  rw [ha.2.2.1, rv_kn tv (by omega)]
  refine z_br (fun q1 => ?_) (fun q1 => rest (fun r => by omega))
  have t3 : rv_t v = 3 := by omega
  obtain ⟨hl, hdl⟩ := hv.1.2.2.2.2 t3
  obtain ⟨e1, e2⟩ := hv.2 t3
  obtain ⟨-, -, -, -, g⟩ := h.2.2.2 _ hdl
  obtain ⟨-, -, -, g4, g5, -⟩ := g e1
  have e : rv_fi I c v = (nI 0, rv_N (nI (rv_l v))) := by unfold rv_fi; rw [if_neg (by omega), if_pos q, if_pos (by omega)]
  rw [e] at hK
  unfold ir at g4 g5
  rw [ha.2.2.2.2.2 t3, g4, g5, e2]
  exact ⟨by decide, c_setNumber (P := sv ρ n) h (sv_vm h hn) (fun G2 h2 F2 _ c2 => hK ρ G2 h2 ro_r (fw_m F2 (fun o ho => sv_fW hn ho)) (fun _ => c2))⟩
/-- whether the left one is enough -/
theorem c_isEnough {c : Nat} {K : Bool → mj_G → Prop} (hn : n < 40) (h : hh ρ D I G) (hv : rv_in D v) (ha : cv (sv ρ n) G (1509 + 2 * n) v) (hc : c ≤ 126)
    (h1 : c = 38 → ¬ rv_tr v → ∀ G', hh ρ D I G' → fw ρ (fW n) G G' → cv (sv ρ n) G' (1509 + 2 * n) (rv_N (nI 0)) → K true G') (h2 : (c = 63 ∧ rv_tr v) ∨ (c = 100 ∧ rv_t v ≠ 0) → K true G) (h3 : (c = 38 → rv_tr v) → (c = 63 → ¬ rv_tr v) → (c = 100 → rv_t v = 0) → K false G) : Fi_isEnough (d + 1) (nI c) (1509 + 2 * n) G K := by
  have tv := hv.1.1
  refine w_Fi_isEnough h.1 ?_
  rw [z_eq (by omega) (by decide), z_eq (by omega) (by decide), z_eq (by omega) (by decide)]
  refine z_br (fun q => ⟨cs_g1507 h.1 hn, c_isTrue h hv ha (fun g => z_bt rfl (h3 (fun _ => g) (fun r => by omega) (fun r => by omega))) (fun g => z_bf (by decide) ⟨cs_g1507 h.1 hn, c_setNumber (P := sv ρ n) h (sv_vm h hn) (fun G2 h2' F2 _ c2 => h1 q g G2 h2' (fw_m F2 (fun o ho => sv_fW hn ho)) c2)⟩)⟩) (fun q => z_br (fun q1 => ⟨cs_g1507 h.1 hn, c_isTrue h hv ha (fun g => h2 (Or.inl ⟨q1, g⟩)) (fun g => h3 (fun r => absurd r q) (fun _ => g) (fun r => by omega))⟩) (fun q1 => z_br (fun q2 => ⟨cs_g1507 h.1 hn, ?_⟩) (fun q2 => h3 (fun r => absurd r q) (fun r => absurd r q1) (fun r => absurd r q2))))
  rw [ha.2.2.1, rv_kn tv (by omega)]
  exact z_br (fun g => h3 (fun r => absurd r q) (fun r => absurd r q1) (fun _ => by omega)) (fun g => h2 (Or.inr ⟨q2, fun r => g (Or.inl ⟨r, rfl⟩)⟩))
/-- an item of a list -/
def rv_it (I : Nat → Nat → rv) (v : rv) (k : Nat) : Int32 × rv := if rv_t v = 3 then (if k < rv_l v then (nI 0, I (rv_d v) k) else (Int32.ofInt (-4), rv_0)) else (Int32.ofInt (-3), rv_0)
theorem c_findItem {P : Nat → Prop} {b k : Nat} {K : Int32 → mj_G → Prop} (hn : n < 40) (h : hh ρ D I G) (hv : rv_in D v) (hb : cv P G b v) (hk : k ≤ 9)
    (hK : ∀ G', hh ρ D I G' → fw ρ (fW n) G G' → ((rv_it I v k).1 = nI 0 → cv (sv ρ n) G' (1509 + 2 * n) (rv_it I v k).2 ∧ rv_ok (rv_it I v k).2) → K (rv_it I v k).1 G') : Fi_findItem (d + 1) (1509 + 2 * n) b (nI k) G K := by
  have tv := hv.1.1
  have n3 : ¬ Int32.ofInt (-3) = nI 0 := by decide
  have n4 : ¬ Int32.ofInt (-4) = nI 0 := by decide
  refine w_Fi_findItem h.1 ⟨hb.1, ?_⟩
  rw [hb.2.2.1, rv_kn tv (by omega)]
  refine z_br (fun q => ?_) (fun q => ?_)
  · have t3 : rv_t v = 3 := by omega
    obtain ⟨hl, hdl⟩ := hv.1.2.2.2.2 t3
    obtain ⟨e1, e2⟩ := hv.2 t3
    obtain ⟨-, -, -, -, g⟩ := h.2.2.2 _ hdl
    obtain ⟨-, -, -, g4, g5, g6⟩ := g e1
    unfold ir at g4 g5 g6
    unfold rv_it at hK
    rw [if_pos t3] at hK
    rw [hb.2.2.2.2.2 t3, g4, g5, e2, z_lt (by omega) (by decide), z_lt (by omega) (by omega)]
    refine z_bf (by omega) ⟨by decide, z_br (fun q1 => ⟨by decide, z_ixg (by omega) (by omega) ⟨cs_g1507 h.1 hn, ?_⟩⟩) (fun q1 => ?_)⟩
    · obtain ⟨p1, p2, p3, p4, p5⟩ := g6 k (by omega)
      rw [if_pos q1] at hK
      have hne : mj_r G (mj_r G (mj_r G 12 (rv_d v)) 5) k ≠ 1509 + 2 * n := fun q => by
        unfold imm at p1
        rw [q, sv_o hn] at p1
        unfold im_o at p1
        omega
      exact c_refer h (sv_vm h hn) p4 hne p3 (fun G2 h2 F2 _ _ c2 _ _ => hK G2 h2 (fw_m F2 (fun o ho => sv_fW hn ho)) (fun _ => ⟨cv_m c2 (fun c hc => Or.inl hc), p4⟩))
    · rw [if_neg q1] at hK
      exact hK G h fw_r (fun r => absurd r n4)
  · unfold rv_it at hK
    rw [if_neg (by omega)] at hK
    exact hK G h fw_r (fun r => absurd r n3)
end SL
