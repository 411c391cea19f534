/-! RENDERING: the output ahead of a try, put back -/
theorem o_dr_c {C E : Nat → Nat} : ∀ {n : Nat}, (∀ i, i < n → C i = E i) → o_dr C n = o_dr E n
  | 0, _ => rfl
  | n + 1, h => by
    unfold o_dr
    rw [h n (Nat.lt_succ_self n), o_dr_c (n := n) (fun i hi => h i (by omega))]
/-- what stands ahead of the blanks at the end stays -/
def o_le (o o' : ost) : Prop := o_dr (o_c o) (o_n o) ≤ o_dr (o_c o') (o_n o') ∧ ∀ i, i < o_dr (o_c o) (o_n o) → o_c o' i = o_c o i
theorem o_le_r {o : ost} : o_le o o := ⟨Nat.le_refl _, fun _ _ => rfl⟩
theorem o_le_t {o o1 o2 : ost} (h1 : o_le o o1) (h2 : o_le o1 o2) : o_le o o2 := ⟨Nat.le_trans h1.1 h2.1, fun i hi => (h2.2 i (Nat.lt_of_lt_of_le hi h1.1)).trans (h1.2 i hi)⟩
theorem o_le_p {o : ost} {z : Nat} : o_le o (o_p o z) := by
  have hl := o_drl (C := o_c o) (n := o_n o)
  have e : o_dr (o_c (o_p o z)) (o_n o) = o_dr (o_c o) (o_n o) := o_dr_c (fun i hi => by
    show (if i = o_n o then z else o_c o i) = _
    rw [if_neg (by omega)])
  refine ⟨?_, fun i hi => ?_⟩
  · show _ ≤ (if oc_b (o_c (o_p o z) (o_n o)) = true then o_dr (o_c (o_p o z)) (o_n o) else o_n o + 1)
    by_cases q : oc_b (o_c (o_p o z) (o_n o)) = true
    · rw [if_pos q, e]; exact Nat.le_refl _
    · rw [if_neg q]; omega
  · show (if i = o_n o then z else o_c o i) = _
    rw [if_neg (by omega)]
theorem o_dr_i {C : Nat → Nat} : ∀ {n : Nat}, o_dr C (o_dr C n) = o_dr C n
  | 0 => rfl
  | n + 1 => by
    by_cases q : oc_b (C n) = true
    · have e : o_dr C (n + 1) = o_dr C n := by show (if _ then _ else _) = _; rw [if_pos q]
      rw [e]
      exact o_dr_i
    · have e : o_dr C (n + 1) = n + 1 := by show (if _ then _ else _) = _; rw [if_neg q]
      rw [e, e]
theorem o_le_m {o : ost} : o_le o (o_tm o) := ⟨by show _ ≤ o_dr (o_c o) (o_dr (o_c o) (o_n o)); rw [o_dr_i]; exact Nat.le_refl _, fun _ _ => rfl⟩
theorem o_sf_le {s : Nat} {c : Nat → Nat} : ∀ {m i : Nat} {o : ost}, o_le o (o_sf s c m i o).2
  | 0, _, _ => o_le_r
  | m + 1, i, o => by
    unfold o_sf
    by_cases q : o_n o = 300
    · rw [if_pos q]; exact o_le_r
    · rw [if_neg q]; exact o_le_t o_le_p o_sf_le
theorem o_e1_le {s c x : Nat} : ∀ {m j : Nat} {o : ost}, o_le o (o_e1 s c x m j o).2
  | 0, _, _ => o_le_r
  | m + 1, j, o => by
    unfold o_e1
    by_cases q : o_n o = 300
    · rw [if_pos q]; exact o_le_r
    · rw [if_neg q]; exact o_le_t o_le_p o_e1_le
theorem o_es_le {s : Nat} {c : Nat → Nat} : ∀ {m i : Nat} {o : ost}, o_le o (o_es s c m i o).2
  | 0, _, _ => o_le_r
  | m + 1, i, o => by
    unfold o_es
    by_cases q : (o_e1 s (c i) (o_x o (o_n o)) (es_k (o_x o (o_n o)) (c i)) 0 o).1 = nI 0
    · rw [if_pos q]; exact o_le_t o_e1_le o_es_le
    · rw [if_neg q]; exact o_e1_le
theorem o_v_le {s : Nat} {v : rv} {o : ost} : o_le o (o_v s v o).2 := by
  unfold o_v
  by_cases h1 : rv_t v = 0
  · rw [if_pos h1]; exact o_le_r
  · rw [if_neg h1]
    by_cases h2 : rv_t v = 3
    · rw [if_pos h2]; exact o_le_r
    · rw [if_neg h2]
      by_cases h3 : rv_t v = 1
      · rw [if_pos h3]; exact o_sf_le
      · rw [if_neg h3]
        by_cases h4 : rv_s v = true
        · rw [if_pos h4]; exact o_sf_le
        · rw [if_neg h4]; exact o_es_le
theorem o_fm_le {s : Nat} {c : Nat → Nat} {x : Int32} : ∀ {m i : Nat} {o : ost}, o_le o (o_fm s c x m i o).2
  | 0, _, _ => o_le_r
  | m + 1, i, o => by
    unfold o_fm
    by_cases h1 : c i = 35
    · rw [if_pos h1]
      by_cases h2 : (o_sf s (dg_c x) (dg_l x) 0 o).1 = nI 0
      · rw [if_pos h2]; exact o_le_t o_sf_le o_fm_le
      · rw [if_neg h2]; exact o_sf_le
    · rw [if_neg h1]
      by_cases h2 : o_n o = 300
      · rw [if_pos h2]; exact o_le_r
      · rw [if_neg h2]; exact o_le_t o_le_p o_fm_le
theorem o_mg_le {F : Nat → rv} {s g : Nat} {v : rv} {o : ost} : o_le o (o_mg F s g v o).2 := by
  unfold o_mg
  by_cases h1 : rv_t v = 1
  · rw [if_pos h1]; exact o_fm_le
  · rw [if_neg h1]; exact o_le_r
/-- contexts are told by the characters ahead -/
theorem o_x_eq {o o' : ost} (h : o_ok o) (h' : o_ok o') : ∀ {m : Nat}, m ≤ o_n o → m ≤ o_n o' → (∀ i, i < m → o_c o' i = o_c o i) → ∀ i, i ≤ m → o_x o' i = o_x o i
  | 0, _, _, _, i, hi => by
    have : i = 0 := by omega
    rw [this, h.2.1, h'.2.1]
  | m + 1, h1, h2, hc, i, hi => by
    have ih := o_x_eq h h' (m := m) (by omega) (by omega) (fun i hi => hc i (by omega))
    by_cases q : i = m + 1
    · obtain ⟨-, -, -, e1, -⟩ := h.2.2 m (by omega)
      obtain ⟨-, -, -, e2, -⟩ := h'.2.2 m (by omega)
      rw [q, e1, e2, ih m (Nat.le_refl _), hc m (by omega)]
    · exact ih i (by omega)
section TI
variable {ρ : Nat → Nat} {D : Nat → rv} {I : Nat → Nat → rv} {G Gm : mj_G} {f : mm_F} {d i : Nat} {o o' : ost}
/-- a frame's row of blanks, as it is or made now -/
theorem c_rowOfBlanks {K : Nat → mj_G → Prop} (h : hh ρ D I G) (hi : i < 200)
    (hK : ∀ ρ' G' c, hh ρ' D I G' → ro_e ρ ρ' G → fw ρ (fun q => q = 707 + 4 * i) G G' → (∀ q j, q < mj_n G → ¬ (q = 707 + 4 * i ∧ j = 18) → mj_r G' q j = mj_r G q j) → (∀ q, q < mj_n G → ∀ j, mj_i G' q j = mj_i G q j) → mj_r G' (707 + 4 * i) 18 = c → 1768 ≤ c → c < mj_n G' → ρ' c = 707 + 4 * i → mj_k G' c = 20 → mj_l G' c = 300 → (mj_r G (707 + 4 * i) 18 ≠ 0 → c = mj_r G (707 + 4 * i) 18) → K c G') : Fm_rowOfBlanks d (707 + 4 * i) G K := by
  have hG := hh_n h
  have hk := cs_g14 h.1 hi
  refine w_Fm_rowOfBlanks h.1 ⟨hk, ?_⟩
  rcases h.2.1.2.2.1 i hi with g | ⟨g1, g2, g3, g4, g5⟩
  · refine z_bt g ?_
    rintro _ rfl
    have hne : 707 + 4 * i ≠ mj_n G := by omega
    refine ⟨(z_kAn hne).trans hk, ?_⟩
    rintro _ rfl
    have kk : ∀ c, c < mj_n G → mj_k (mj_pR (mj_al G 20 300 (fun _ => 0)) (707 + 4 * i) 18 (mj_n G)) c = mj_k G c ∧ mj_l (mj_pR (mj_al G 20 300 (fun _ => 0)) (707 + 4 * i) 18 (mj_n G)) c = mj_l G c := fun c hc => ⟨z_kRa.trans (z_kAn (by omega)), (show mj_l (mj_al G 20 300 (fun _ => 0)) c = mj_l G c from z_lAn (by omega))⟩
    have rr : ∀ c j, c < mj_n G → ¬ (c = 707 + 4 * i ∧ j = 18) → mj_r (mj_pR (mj_al G 20 300 (fun _ => 0)) (707 + 4 * i) 18 (mj_n G)) c j = mj_r G c j := fun c j hc hq => (show mj_u2 (mj_r (mj_al G 20 300 (fun _ => 0))) (707 + 4 * i) 18 (mj_n G) c j = _ from (if_neg hq).trans (z_rAn (by omega)))
    have ii : ∀ c j, c < mj_n G → mj_i (mj_pR (mj_al G 20 300 (fun _ => 0)) (707 + 4 * i) 18 (mj_n G)) c j = mj_i G c j := fun c j hc => z_iRa.trans (z_iAn (by omega))
    have ra : mj_r (mj_pR (mj_al G 20 300 (fun _ => 0)) (707 + 4 * i) 18 (mj_n G)) (707 + 4 * i) 18 = mj_n G := z_rRs
    have kn : mj_k (mj_pR (mj_al G 20 300 (fun _ => 0)) (707 + 4 * i) 18 (mj_n G)) (mj_n G) = 20 := z_kRa.trans z_kAs
    have ln : mj_l (mj_pR (mj_al G 20 300 (fun _ => 0)) (707 + 4 * i) 18 (mj_n G)) (mj_n G) = 300 := (show mj_l (mj_al G 20 300 (fun _ => 0)) (mj_n G) = 300 from z_lAs)
    have nn : mj_n (mj_pR (mj_al G 20 300 (fun _ => 0)) (707 + 4 * i) 18 (mj_n G)) = mj_n G + 1 := rfl
    have uu : mj_u (mj_pR (mj_al G 20 300 (fun _ => 0)) (707 + 4 * i) 18 (mj_n G)) = mj_u G + 300 := rfl
    have i2 : ∀ c, mj_k (mj_pR (mj_al G 20 300 (fun _ => 0)) (707 + 4 * i) 18 (mj_n G)) c = 12 → mj_b (mj_i (mj_pR (mj_al G 20 300 (fun _ => 0)) (707 + 4 * i) 18 (mj_n G)) c 2) := fun c hc => by
      by_cases hcn : c = mj_n G
      · rw [hcn, kn] at hc
        exact absurd hc (by decide)
      · rw [show mj_i (mj_pR (mj_al G 20 300 (fun _ => 0)) (707 + 4 * i) 18 (mj_n G)) c 2 = mj_i G c 2 from z_iRa.trans (z_iAn hcn)]
        exact h.2.2.1.1 c ((z_kRa.trans (z_kAn hcn)).symm.trans hc)
    have l22 : ∀ c, mj_k (mj_pR (mj_al G 20 300 (fun _ => 0)) (707 + 4 * i) 18 (mj_n G)) c = 22 → mj_l (mj_pR (mj_al G 20 300 (fun _ => 0)) (707 + 4 * i) 18 (mj_n G)) c ≤ 10000 := fun c hc => by
      by_cases hcn : c = mj_n G
      · rw [hcn, ln]; decide
      · rw [show mj_l (mj_pR (mj_al G 20 300 (fun _ => 0)) (707 + 4 * i) 18 (mj_n G)) c = mj_l G c from (show mj_l (mj_al G 20 300 (fun _ => 0)) c = mj_l G c from z_lAn hcn)]
        exact h.2.2.1.2 c ((z_kRa.trans (z_kAn hcn)).symm.trans hc)
    have hSn : cs_S (mj_pR (mj_al G 20 300 (fun _ => 0)) (707 + 4 * i) 18 (mj_n G)) := cs_pR (K := 5) (cs_al h.1) ((z_kAn hne).trans hk) rfl
    rw [ra]
    generalize mj_pR (mj_al G 20 300 (fun _ => 0)) (707 + 4 * i) 18 (mj_n G) = G' at kk rr ii ra kn ln nn uu i2 l22 hSn ⊢
    have haz : ∀ i, i < 520 → mj_r G (fg_a i) (i % 26) ≠ 0 → 1768 ≤ mj_r G (fg_a i) (i % 26) ∧ mj_r G (fg_a i) (i % 26) < mj_n G := fun i hi h0 => by
      rcases h.2.1.2.2.2.1 i hi with q | q
      · exact absurd q h0
      · exact ⟨q.1, q.2.1⟩
    have hp : ∀ x y, pw x y G' + x ≤ pw x y G := fun x y => by
      unfold pw
      have e1 : sm 320 (fun i => if mj_r G' (67 + 2 * i) 7 = 2 then x else 0) = sm 320 (fun i => if mj_r G (67 + 2 * i) 7 = 2 then x else 0) := sm_c (fun k hk => by show (if _ then _ else _) = (if _ then _ else _); rw [rr _ _ (by omega) (fun q => by omega)])
      have e2 : sm 40 (fun i => if mj_r G' (1509 + 2 * i) 7 = 2 then x else 0) = sm 40 (fun i => if mj_r G (1509 + 2 * i) 7 = 2 then x else 0) := sm_c (fun k hk => by show (if _ then _ else _) = (if _ then _ else _); rw [rr _ _ (by omega) (fun q => by omega)])
      have e3 := sm_u (g := fun i => if mj_r G (707 + 4 * i) 18 = 0 then x else 0) (h := fun i => if mj_r G' (707 + 4 * i) 18 = 0 then x else 0) (i := i) (w := x) (n := 200) hi (fun k hk hne => by show (if _ then _ else _) = (if _ then _ else _); rw [rr _ _ (by omega) (fun q => by omega)]) (by show (if _ then _ else _) + x ≤ (if _ then _ else _); rw [ra, if_neg (by omega), if_pos g]; omega)
      have e4 : sm 520 (fun i => if mj_r G' (fg_a i) (i % 26) = 0 then y + x else if mj_r G' (mj_r G' (fg_a i) (i % 26)) 7 = 2 then x else 0) = sm 520 (fun i => if mj_r G (fg_a i) (i % 26) = 0 then y + x else if mj_r G (mj_r G (fg_a i) (i % 26)) 7 = 2 then x else 0) := sm_c (fun k hk => by
        have hfa := fg_al hk
        show (if _ then _ else _) = (if _ then _ else _)
        rw [rr (fg_a k) _ (by omega) (fun q => by omega)]
        by_cases h0 : mj_r G (fg_a k) (k % 26) = 0
        · rw [if_pos h0, if_pos h0]
        · rw [if_neg h0, if_neg h0, rr _ _ (haz k hk h0).2 (fun q => by have := (haz k hk h0).1; omega)])
      omega
    have hp1 := hp 1 2
    have hp2 := hp 300 8
    have howi : ow ρ (707 + 4 * i) = 707 + 4 * i := ow_s (by omega)
    have hF : fw ρ (fun q => q = 707 + 4 * i) G G' := ⟨by omega, by omega, by omega, fun c hc => ⟨(kk c hc).1, (kk c hc).2, fun hq => ⟨fun j => rr c j hc (fun q => hq (by show ow ρ c = _; rw [q.1, howi])), fun j => ii c j hc⟩⟩⟩
    have he : ro_e ρ (ro_u ρ (mj_n G) (707 + 4 * i)) G := ro_ue
    have hho : ho (ro_u ρ (mj_n G) (707 + 4 * i)) G' := by
      obtain ⟨t1, t2, t3, t4, t5⟩ := h.2.1
      refine ⟨fun k hk2 => ho_vt (t1 k hk2) (by omega) he (rr _ _ (by omega) (fun q => by omega)) kk, fun k hk2 => ho_vt (t2 k hk2) (by omega) he (rr _ _ (by omega) (fun q => by omega)) kk, fun k hk2 => ?_, fun k hk2 => ?_, fun k hk2 => ?_⟩
      · by_cases hq : k = i
        · rw [hq]
          exact Or.inr ⟨by rw [ra]; exact hG, by rw [ra]; omega, by rw [ra]; exact ro_us, by rw [ra]; exact kn, by rw [ra]; exact ln⟩
        · exact ho_ft (t3 k hk2) (by omega) he (rr _ _ (by omega) (fun q => by omega)) kk
      · have hfa := fg_al hk2
        exact ho_kt (t4 k hk2) (by omega) he (rr _ _ (by omega) (fun q => by omega)) (fun h0 => rr _ _ (haz k hk2 h0).2 (fun q => by have := (haz k hk2 h0).1; omega)) kk
      · have hfa := fg_al hk2
        obtain ⟨k1, k2⟩ := kk (fg_a k) (by omega)
        exact ⟨k1.trans (t5 k hk2).1, k2.trans (t5 k hk2).2⟩
    exact hK _ G' (mj_n G) ⟨hSn, hho, ⟨i2, l22⟩, dcx_f h.2.2.2 hF he (wo_im (by unfold im_o; omega)) hG⟩ he hF (fun q j hq hn => rr q j hq hn) (fun q hq j => ii q j hq) ra hG (by omega) ro_us kn ln (fun q => absurd g q)
  · refine z_bf (by omega) ?_
    exact hK ρ G _ h ro_r fw_r (fun _ _ _ _ => rfl) (fun _ _ _ => rfl) rfl g1 g2 g3 g4 g5 (fun _ => rfl)
/-- a frame tells of the output ahead of it -/
def bk (ρ : Nat → Nat) (G : mj_G) (i : Nat) (o : ost) : Prop := mj_i G (707 + 4 * i) 15 = nI (o_n o) ∧ mj_i G (707 + 4 * i) 16 = bI (o_w o) ∧ mj_i G (707 + 4 * i) 17 = nI (o_n o - o_dr (o_c o) (o_n o)) ∧ mj_r G (707 + 4 * i) 18 ≠ 0 ∧ ∀ j, j < o_n o - o_dr (o_c o) (o_n o) → mj_i G (mj_r G (707 + 4 * i) 18) j = nI (o_c o (o_dr (o_c o) (o_n o) + j))
theorem o_fI {j : Nat} {y : Int32} (h : hh ρ D I G) (hi : i < 200) : hh ρ D I (mj_pI G (707 + 4 * i) j y) ∧ fw ρ (fun q => q = 707 + 4 * i) G (mj_pI G (707 + 4 * i) j y) := by
  have ho : ow ρ (707 + 4 * i) = 707 + 4 * i := ow_s (by omega)
  exact ⟨hh_I h (by unfold imm; rw [ho]; unfold im_o; omega) (fun _ q => absurd ((cs_g14 h.1 hi).symm.trans q) (by decide)), fw_I ho⟩
theorem c_mark {K : mj_G → Prop} (h : hh ρ D I G) (ho : oC G o) (hi : i < 200) (hK : hh ρ D I (mj_pI (mj_pI G (707 + 4 * i) 15 (nI (o_n o))) (707 + 4 * i) 16 (bI (o_w o))) → fw ρ (fun q => q = 707 + 4 * i) G (mj_pI (mj_pI G (707 + 4 * i) 15 (nI (o_n o))) (707 + 4 * i) 16 (bI (o_w o))) → K (mj_pI (mj_pI G (707 + 4 * i) 15 (nI (o_n o))) (707 + 4 * i) 16 (bI (o_w o)))) : Ou_mark d (707 + 4 * i) G K := by
  refine w_Ou_mark h.1 ⟨cs_g14 h.1 hi, ?_⟩
  rintro _ rfl
  have e5 : mj_i (mj_pI G (707 + 4 * i) 15 (mj_i G 1589 1)) 1589 5 = bI (o_w o) := (z_iIn (by omega)).trans ho.2.2.2.1
  rw [e5]
  refine ⟨bI_b _, ?_⟩
  rintro _ rfl
  rw [ho.2.2.1]
  obtain ⟨h2, F2⟩ := o_fI (j := 15) (y := nI (o_n o)) h hi
  obtain ⟨h3, F3⟩ := o_fI (j := 16) (y := bI (o_w o)) h2 hi
  exact hK h3 (fw_t F2 ro_r F3)
/-- the output is told by its object and rows -/
theorem oC_f {ρ : Nat → Nat} {W : Nat → Prop} {G' : mj_G} (h : hh ρ D I G) (ho : oC G o) (F : fw ρ W G G') (hW : ∀ a, W a → ¬ oW a) : oC G' o ∧ oX G G' := by
  have hG := hh_n h
  have e : ∀ a, oW a → (∀ j, mj_r G' a j = mj_r G a j) ∧ ∀ j, mj_i G' a j = mj_i G a j := fun a ha => (F.2.2.2 a (by unfold oW at ha; omega)).2.2 (fun q => hW _ q (by rw [ow_s (by unfold oW at ha; omega)]; exact ha))
  have e9 := e 1589 (by unfold oW; decide)
  obtain ⟨k1, k2, k3, k4, k5, k6⟩ := ho
  refine ⟨⟨k1, by rw [e9.1 0]; exact k2, (e9.2 1).trans k3, (e9.2 5).trans k4, fun i hi => ?_, fun i hi => ((e 1592 (by unfold oW; decide)).2 i).trans (k6 i hi)⟩, e9.1, e9.2 3, fun a j q _ => (e a (by unfold oW; omega)).2 j⟩
  rw [e9.1 0]
  exact ((e _ (by unfold oW; omega)).2 i).trans (k5 i hi)
/-- cells put out again -/
theorem c_cells {a n b x0 : Nat} {K : Int32 → mj_G → Prop} (hd : 16 ≤ d) (hn : n ≤ 300) (hob : ∀ a, ow ρ a = b → ¬ oW (ow ρ a)) : ∀ {m j : Nat} {G : mj_G} {o' : ost} {C : Nat → Nat}, j + m = n → hh ρ D I G → oC G o' → a < mj_n G → ow ρ a = b → mj_k G a = 20 → mj_l G a = 300 → (∀ j, j < n → mj_i G a j = nI (C j)) → (∀ j, j < n → C j < 2 ^ 31 ∧ 32 ≤ C j % 128 ∧ C j % 128 ≤ 126 ∧ gz (kcx x0 C j) (C j)) → o_x o' (o_n o') = kcx x0 C j → o_n o' + m ≤ 300 →
    (∀ G' o2, hh ρ D I G' → fw ρ oW G G' → oX G G' → oC G' o2 → o_n o2 = o_n o' + m → (∀ i, i < o_n o' → o_c o2 i = o_c o' i) → (∀ i, i < m → o_c o2 (o_n o' + i) = C (j + i)) → (m ≠ 0 → o_w o2 = false) → (m = 0 → o_w o2 = o_w o') → K (nI 0) G') → Ou_putCells_2 (d + 2) a (nI n) (nI j) G K
  | 0, j, G, o', C, hj, h, ho, ha, hoa, hk, hl, hc, hC, hX, hr, hK => by
    refine w_Ou_putCells_2 h.1 ?_
    rw [z_le (by omega) (by omega)]
    exact z_bt (by omega) (hK G o' h fw_r oX_r ho rfl (fun _ _ => rfl) (fun i hi => absurd hi (Nat.not_lt_zero i)) (fun q => absurd rfl q) (fun _ => rfl))
  | m + 1, j, G, o', C, hj, h, ho, ha, hoa, hk, hl, hc, hC, hX, hr, hK => by
    obtain ⟨e1, e2, e3, e4⟩ := hC j (by omega)
    refine w_Ou_putCells_2 h.1 ?_
    rw [z_le (by omega) (by omega), hl, z_le (by decide) (by omega)]
    refine z_bf (by omega) ⟨by rw [hk]; decide, z_bf (by omega) ⟨hk, z_ixi (by omega) (by decide) ?_⟩⟩
    rw [hc j (by omega)]
    refine c_put (d := d) h ho (by omega) e1 ⟨e2, e3⟩ (by rw [hX]; exact e4) (fun G1 h1 F1 x1 y1 o1 => ?_)
    have e : o_t o' (C j) = (nI 0, o_p o' (C j)) := by unfold o_t; rw [if_neg (by omega)]
    rw [e] at o1 ⊢
    rw [z_add]
    obtain ⟨k1, k2, k3⟩ := F1.2.2.2 a ha
    have k4 := (k3 (hob a hoa)).2
    refine z_bt rfl (c_cells hd hn hob (m := m) (j := j + 1) (C := C) (by omega) h1 o1 (Nat.lt_of_lt_of_le ha F1.1) hoa (k1.trans hk) (k2.trans hl) (fun i hi => (k4 i).trans (hc i hi)) hC (by rw [o_px, hX]; rfl) (by show o_n o' + 1 + m ≤ 300; omega) (fun G2 o2 h2 F2 x2 c2 n2 p2 q2 w2 w3 => hK G2 o2 h2 (fw_t F1 ro_r F2) (oX_t x1 x2) c2 ?_ (fun i hi => ?_) (fun i hi => ?_) (fun _ => ?_) (fun q => absurd q (by omega))))
    · rw [n2]; show o_n o' + 1 + m = _; omega
    · rw [p2 i (by show i < o_n o' + 1; omega)]
      show (if i = o_n o' then C j else o_c o' i) = _
      rw [if_neg (by omega)]
    · by_cases q : i = 0
      · rw [q, Nat.add_zero, Nat.add_zero, p2 (o_n o') (by show o_n o' < o_n o' + 1; omega)]
        exact if_pos rfl
      · have r := q2 (i - 1) (by omega)
        rw [show o_n (o_p o' (C j)) + (i - 1) = o_n o' + i by show o_n o' + 1 + (i - 1) = _; omega, show j + 1 + (i - 1) = j + i by omega] at r
        exact r
    · by_cases q : m = 0
      · rw [w3 q]; rfl
      · exact w2 q
end TI
