/-! RENDERING: kept cells put out again; a literal put out -/
def o_pc (C : Nat → Nat) : Nat → Nat → ost → Int32 × ost
  | 0, _, o => (nI 0, o)
  | m + 1, i, o => if o_n o = 300 then (Int32.ofInt (-10), o) else o_pc C m (i + 1) (o_p o (C i))
theorem o_pc_le {C : Nat → Nat} : ∀ {m i : Nat} {o : ost}, o_le o (o_pc C m i o).2
  | 0, _, _ => o_le_r
  | m + 1, i, o => by
    unfold o_pc
    by_cases q : o_n o = 300
    · rw [if_pos q]; exact o_le_r
    · rw [if_neg q]; exact o_le_t o_le_p o_pc_le
/-- a literal: a blank is left out while the output waits -/
def o_lt (c s : Nat) (o : ost) : Int32 × ost := if o_w o = true ∧ c = 32 then (nI 0, o) else o_t o (oc_L c s)
theorem o_t_le {o : ost} {z : Nat} : o_le o (o_t o z).2 := by
  unfold o_t
  by_cases q : o_n o = 300
  · rw [if_pos q]; exact o_le_r
  · rw [if_neg q]; exact o_le_p
theorem o_lt_le {c s : Nat} {o : ost} : o_le o (o_lt c s o).2 := by
  unfold o_lt
  by_cases q : o_w o = true ∧ c = 32
  · rw [if_pos q]; exact o_le_r
  · rw [if_neg q]; exact o_t_le
theorem oc_L31 {c s : Nat} (hc : 32 ≤ c ∧ c ≤ 126) (hs : s < 8000) : oc_L c s < 2 ^ 31 ∧ 32 ≤ oc_L c s % 128 ∧ oc_L c s % 128 ≤ 126 := by
  have := (oc_Lc (c := c) (s := s) (by omega)).1
  refine ⟨?_, by omega, by omega⟩
  unfold oc_L
  omega
theorem om_s {z : Nat} (hz : z < 2 ^ 31) : mm_shr (om z) (nI 8) = nI (z / 262144) := by
  unfold om
  show nI _ >>> (nI 8 &&& 31) = _
  by_cases q : oc_b z = true
  · rw [if_pos q, z_shr (k := 8) (by omega) (by decide)]
    congr 1
    omega
  · rw [if_neg q, z_shr (k := 8) (by omega) (by decide)]
    congr 1
    omega
section KC
variable {ρ : Nat → Nat} {D : Nat → rv} {I : Nat → Nat → rv} {G Gm : mj_G} {f : mm_F} {d s : Nat} {o : ost}
theorem c_putLiteral {c : Nat} {K : Int32 → mj_G → Prop} (hd : 16 ≤ d) (hs : s < 8000) (hc : 32 ≤ c ∧ c ≤ 126) (h : hh ρ D I G) (ho : oC G o) (hK : ∀ G', hh ρ D I G' → fw ρ oW G G' → oX G G' → oC G' (o_lt c s o).2 → K (o_lt c s o).1 G') : Ou_putLiteral (d + 2) (nI c) (nI s) G K := by
  obtain ⟨e1, e2⟩ := oc_L31 hc hs
  have put : ¬ (o_w o = true ∧ c = 32) → Ou_put (d + 1) (nI (oc_L c s)) G (fun v2 G1 => K v2 G1) := fun q => by
    unfold o_lt at hK
    rw [if_neg q] at hK
    exact c_put h ho (by omega) e1 e2 (gz_L (by omega)) (fun G1 h1 F1 x1 _ o1 => hK G1 h1 F1 x1 o1)
  refine w_Ou_putLiteral h.1 (by omega) ?_
  rw [ho.2.2.2.1, q_37 (by omega) hs, z_eq (by omega) (by decide)]
  cases hw : o_w o with
  | false => exact z_bt rfl (put (fun q => by rw [hw] at q; exact absurd q.1 (by decide)))
  | true =>
    refine z_bf (by decide) (z_br (fun q => ?_) (fun q => put (fun r => q r.2)))
    have e : o_lt c s o = (nI 0, o) := by unfold o_lt; rw [if_pos ⟨hw, q⟩]
    rw [e] at hK
    exact hK G h fw_r oX_r ho
/-- cells of a row that putting out leaves -/
theorem c_kept {a n x0 : Nat} {C : Nat → Nat} {K : Int32 → mj_G → Prop} (hd : 16 ≤ d) (hn : n ≤ 300) (hC : ∀ j, j < n → C j < 2 ^ 31 ∧ 32 ≤ C j % 128 ∧ C j % 128 ≤ 126 ∧ gz (kcx x0 C j) (C j)) : ∀ {m j : Nat} {G : mj_G} {o : ost}, j + m = n → hh ρ D I G → oC G o → a < mj_n G → ¬ oW (ow ρ a) → mj_k G a = 20 → mj_l G a = 300 → (∀ j, j < n → mj_i G a j = nI (C j)) → o_x o (o_n o) = kcx x0 C j → (∀ G', hh ρ D I G' → fw ρ oW G G' → oX G G' → oC G' (o_pc C m j o).2 → K (o_pc C m j o).1 G') → Ou_putCells_2 (d + 2) a (nI n) (nI j) G K
  | 0, j, G, o, hj, h, ho, ha, hoa, hk, hl, hc, hX, hK => by
    refine w_Ou_putCells_2 h.1 ?_
    rw [z_le (by omega) (by omega)]
    exact z_bt (by omega) (hK G h fw_r oX_r ho)
  | m + 1, j, G, o, hj, h, ho, ha, hoa, hk, hl, hc, hX, hK => by
    obtain ⟨e1, e2, e3', e4'⟩ := hC j (by omega)
    refine w_Ou_putCells_2 h.1 ?_
    rw [z_le (by omega) (by omega), hl, z_le (by decide) (by omega)]
    refine z_bf (by omega) ⟨by rw [hk]; decide, z_bf (by omega) ⟨hk, z_ixi (by omega) (by decide) ?_⟩⟩
    rw [hc j (by omega)]
    refine c_put (d := d) h ho (by omega) e1 ⟨e2, e3'⟩ (by rw [hX]; exact e4') (fun G1 h1 F1 x1 y1 o1 => ?_)
    by_cases q : o_n o = 300
    · have e : o_t o (C j) = (Int32.ofInt (-10), o) := by unfold o_t; rw [if_pos q]
      have e3 : o_pc C (m + 1) j o = (Int32.ofInt (-10), o) := by show (if o_n o = 300 then _ else _) = _; rw [if_pos q]
      rw [e] at o1 ⊢
      rw [e3] at hK
      exact z_bf (show ¬ Int32.ofInt (-10) = nI 0 by decide) (hK G1 h1 F1 x1 o1)
    · have e : o_t o (C j) = (nI 0, o_p o (C j)) := by unfold o_t; rw [if_neg q]
      have e3 : o_pc C (m + 1) j o = o_pc C m (j + 1) (o_p o (C j)) := by show (if o_n o = 300 then _ else _) = _; rw [if_neg q]
      rw [e] at o1 ⊢
      rw [e3] at hK
      rw [z_add]
      obtain ⟨k1, k2, k3⟩ := F1.2.2.2 a ha
      exact z_bt rfl (c_kept hd hn hC (m := m) (j := j + 1) (by omega) h1 o1 (Nat.lt_of_lt_of_le ha F1.1) hoa (k1.trans hk) (k2.trans hl) (fun i hi => ((k3 hoa).2 i).trans (hc i hi)) (by rw [o_px, hX]; rfl) (fun G2 h2 F2 x2 o2 => hK G2 h2 (fw_t F1 ro_r F2) (oX_t x1 x2) o2))
/-- the same cells of the model -/
theorem p_kept93 {fg n x0 : Nat} {C : Nat → Nat} {K : mm_F → Prop} (hM : mm_S Gm) (hd : 16 ≤ d) (hfg : fg < 10) (hn : n ≤ 300) (hC : ∀ j, j < n → C j < 2 ^ 31 ∧ 32 ≤ C j % 128 ∧ C j % 128 ≤ 126 ∧ gz (kcx x0 C j) (C j)) : ∀ {m j : Nat} {f : mm_F} {o : ost}, j + m = n → f 1758 fg = nI n → (∀ i, i < n → f 1757 (300 * fg + i) = om (C i)) → oM f o → f 1714 70 = nI 0 → o_x o (o_n o) = kcx x0 C j → jQ no_R f (o_pc C m j o) K → m_putsKept_93 Gm (d + 2) (nI fg) (nI j) f K
  | 0, j, f, o, hj, h58, h57, ho, h70, hX, hK => by
    refine w_m_putsKept_93 hM (z_ixi hfg (by decide) ?_)
    rw [h58, z_le (by omega) (by omega)]
    exact z_bt (by omega) (hK f mw_r ho h70)
  | m + 1, j, f, o, hj, h58, h57, ho, h70, hX, hK => by
    obtain ⟨e1, e2, e3, e4'⟩ := hC j (by omega)
    have hg : gz (o_x o (o_n o)) (C j) := by rw [hX]; exact e4'
    refine w_m_putsKept_93 hM (z_ixi hfg (by decide) ?_)
    rw [h58, z_le (by omega) (by omega)]
    refine z_bf (by omega) (z_bt h70 ?_)
    rw [z_mul, z_add]
    refine z_ixi (by omega) (by decide) ?_
    rw [h57 j (by omega), om_b e1, om_m e1, om_s e1]
    have nx : ∀ f1, mw no_R oS oR f f1 → oM f1 (o_t o (C j)).2 → f1 1714 70 = (o_t o (C j)).1 → m_putsKept_93 Gm (d + 2) (nI fg) (nI j + nI 1) f1 K := fun f1 F1 o1 y1 => by
      by_cases q : o_n o = 300
      · have e : o_t o (C j) = (Int32.ofInt (-10), o) := by unfold o_t; rw [if_pos q]
        have e4 : o_pc C (m + 1) j o = (Int32.ofInt (-10), o) := by show (if o_n o = 300 then _ else _) = _; rw [if_pos q]
        rw [e] at o1 y1
        rw [e4] at hK
        have hk1 := hK f1 F1 o1 y1
        refine w_m_putsKept_93 hM (z_ixi hfg (by decide) (z_br (fun _ => hk1) (fun _ => ?_)))
        rw [y1]
        exact z_bf (show ¬ Int32.ofInt (-10) = nI 0 by decide) hk1
      · have e : o_t o (C j) = (nI 0, o_p o (C j)) := by unfold o_t; rw [if_neg q]
        have e4 : o_pc C (m + 1) j o = o_pc C m (j + 1) (o_p o (C j)) := by show (if o_n o = 300 then _ else _) = _; rw [if_neg q]
        rw [e] at o1 y1
        rw [e4] at hK
        rw [z_add]
        exact p_kept93 hM hd hfg hn hC (m := m) (j := j + 1) (by omega) ((F1.1 1758 fg (by decide) (by decide) (by unfold oR; decide)).trans h58) (fun i hi => (F1.1 1757 _ (by decide) (by decide) (by unfold oR; decide)).trans (h57 i hi)) o1 y1 (by rw [o_px, hX]; rfl) (jQ_t hK F1)
    refine z_br (fun q => ?_) (fun q => ?_)
    · exact p_put (b := false) (z := C j) (d := d) hM ho h70 (by omega) e1 ⟨e2, e3⟩ rfl rfl q hg nx
    · exact p_put (b := true) (z := C j) (d := d) hM ho h70 (by omega) e1 ⟨e2, e3⟩ rfl rfl (by cases hb : oc_b (C j) with | true => rfl | false => exact absurd hb q) hg nx
end KC
