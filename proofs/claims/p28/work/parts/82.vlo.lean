/-! RENDERING: the class's Values, step by step -/
theorem z_mn {a b : Nat} (ha : a < 2 ^ 31) (hb : b < 2 ^ 31) : mj_mn (nI a) (nI b) = nI (min a b) := by
  unfold mj_mn
  by_cases h : b < a
  · rw [if_pos (by rw [z_lt hb ha]; exact h), Nat.min_eq_right (by omega)]
  · rw [if_neg (by rw [z_lt hb ha]; exact h), Nat.min_eq_left (by omega)]
theorem z_mx0 {a : Nat} (ha : a < 2 ^ 31) : mj_mx (nI 0) (nI a) = nI a := by
  unfold mj_mx
  by_cases h : 0 < a
  · rw [if_pos (by rw [z_lt (by decide) ha]; exact h)]
  · rw [if_neg (by rw [z_lt (by decide) ha]; exact h), show a = 0 by omega]
/-- a Value that may be written -/
def vm (ρ : Nat → Nat) (G : mj_G) (a : Nat) : Prop := mj_k G a = 12 ∧ a < mj_n G ∧ ¬ imm ρ a ∧ ¬ lz a 3 ∧ ¬ lz a 5
section VL
variable {ρ ρ' : Nat → Nat} {D : Nat → rv} {I : Nat → Nat → rv} {W : Nat → Prop} {G G' : mj_G} {a b d : Nat} {x z : Int32} {v : rv} {P : Nat → Prop}
theorem vm_s (hS : cs_S G) (h : (67 ≤ a ∧ a ≤ 706 ∧ a % 2 = 1) ∨ (1509 ≤ a ∧ a ≤ 1588 ∧ a % 2 = 1) ∨ (707 ≤ a ∧ a ≤ 1506 ∧ (a - 707) % 4 = 2)) (hk : mj_k G a = 12) : vm ρ G a := by
  have := hS.1
  refine ⟨hk, by omega, ?_, ?_, ?_⟩
  · unfold imm; rw [ow_s (by omega)]; unfold im_o; omega
  · unfold lz; omega
  · unfold lz; omega
theorem vm_f (h : vm ρ G a) (hF : fw ρ W G G') (he : ro_e ρ ρ' G) : vm ρ' G' a := ⟨((hF.2.2.2 a h.2.1).1).trans h.1, Nat.lt_of_lt_of_le h.2.1 hF.1, by rw [imm_e he h.2.1]; exact h.2.2.1, h.2.2.2.1, h.2.2.2.2⟩
theorem hh_rI (h : hh ρ D I G) (ha : vm ρ G a) {j : Nat} (hz : j = 2 → mj_b z) : hh ρ D I (mj_pI G a j z) ∧ fw ρ (fun o => o = ow ρ a) G (mj_pI G a j z) := ⟨hh_I h ha.2.2.1 (fun q _ => hz q), fw_I rfl⟩
theorem hh_rR (h : hh ρ D I G) (ha : vm ρ G a) {j y : Nat} (hj : j = 3 ∨ j = 5) : hh ρ D I (mj_pR G a j y) ∧ fw ρ (fun o => o = ow ρ a) G (mj_pR G a j y) := by
  have hl : ¬ lz a j := by
    rcases hj with rfl | rfl
    · exact ha.2.2.2.1
    · exact ha.2.2.2.2
  have hc : cs_fk 12 j = true := by
    rcases hj with rfl | rfl <;> rfl
  exact ⟨hh_R h ha.2.2.1 hl (cs_pR h.1 ha.1 hc), fw_R rfl hl h.2.1⟩
theorem vm_I {j : Nat} (h : vm ρ G a) : vm ρ (mj_pI G b j z) a := h
theorem vm_R {j y : Nat} (h : vm ρ G a) : vm ρ (mj_pR G b j y) a := h
/-- what a step on a Value leaves: its letter and its row -/
def vk (G G' : mj_G) (a : Nat) : Prop := mj_r G' a 7 = mj_r G a 7 ∧ mj_i G' a 6 = mj_i G a 6
theorem c_setNothing {K : mj_G → Prop} (h : hh ρ D I G) (ha : vm ρ G a) (hK : ∀ G', hh ρ D I G' → fw ρ (fun o => o = ow ρ a) G G' → vk G G' a → cv P G' a rv_0 → K G') : Va_setNothing d a G K := by
  refine w_Va_setNothing h.1 ⟨ha.1, ?_⟩
  rintro _ rfl
  obtain ⟨h1, f1⟩ := hh_rI (z := nI 1) (j := 0) h ha (fun q => absurd q (by decide))
  exact hK _ h1 f1 ⟨rfl, z_iIm (by decide)⟩ ⟨ha.1, h1.2.2.1.1 a ha.1, z_iIs, fun q => absurd q (by show ¬ 0 = 1; omega), fun q => absurd q (by show ¬ 0 = 2; omega), fun q => absurd q (by show ¬ 0 = 3; omega)⟩
theorem c_setNumber {K : mj_G → Prop} (h : hh ρ D I G) (ha : vm ρ G a) (hK : ∀ G', hh ρ D I G' → fw ρ (fun o => o = ow ρ a) G G' → vk G G' a → cv P G' a (rv_N x) → K G') : Va_setNumber d a x G K := by
  refine w_Va_setNumber h.1 ⟨ha.1, ?_⟩
  rintro _ rfl
  rintro _ rfl
  obtain ⟨h1, f1⟩ := hh_rI (z := nI 2) (j := 0) h ha (fun q => absurd q (by decide))
  obtain ⟨h2, f2⟩ := hh_rI (z := x) (j := 1) h1 (vm_I ha) (fun q => absurd q (by decide))
  exact hK _ h2 (fw_t f1 ro_r f2) ⟨rfl, (z_iIm (by decide)).trans (z_iIm (by decide))⟩ ⟨ha.1, h2.2.2.1.1 a ha.1, (z_iIm (by decide)).trans z_iIs, fun _ => z_iIs, fun q => absurd q (by show ¬ 1 = 2; omega), fun q => absurd q (by show ¬ 1 = 3; omega)⟩
theorem c_setText {c n : Nat} {ch : Nat → Nat} {s : Bool} {K : mj_G → Prop} (h : hh ρ D I G) (ha : vm ρ G a) (hP : P c) (hc2 : 2 ≤ c) (hcn : c < mj_n G) (hck : mj_k G c = 22) (hl : n ≤ mj_l G c) (hl3 : mj_l G c ≤ 1000) (hch : ∀ j, j < n → mj_i G c j = nI (ch j))
    (hK : ∀ G', hh ρ D I G' → fw ρ (fun o => o = ow ρ a) G G' → vk G G' a → (∀ q, q ≠ a → (∀ j, mj_i G' q j = mj_i G q j) ∧ ∀ j, mj_r G' q j = mj_r G q j) → cv P G' a (rv_T n ch s) → K G') : Va_setText d a c (nI n) (bI s) G K := by
  have hca : c ≠ a := z_kne hck ha.1 (by decide)
  refine w_Va_setText h.1 ⟨ha.1, ?_⟩
  rintro _ rfl
  rintro _ rfl
  refine ⟨by show 20 ≤ mj_k G c; omega, ?_⟩
  rintro _ rfl
  refine ⟨bI_b s, ?_⟩
  rintro _ rfl
  have e4 : mj_mx (nI 0) (mj_mn (nI n) (nI (mj_l (mj_pR (mj_pI G a 0 (nI 4)) a 3 c) c))) = nI n := by
    show mj_mx (nI 0) (mj_mn (nI n) (nI (mj_l G c))) = nI n
    rw [z_mn (by omega) (by omega), Nat.min_eq_left hl, z_mx0 (by omega)]
  rw [e4]
  obtain ⟨h1, f1⟩ := hh_rI (z := nI 4) (j := 0) h ha (fun q => absurd q (by decide))
  obtain ⟨h2, f2⟩ := hh_rR (y := c) h1 (vm_I ha) (Or.inl rfl)
  obtain ⟨h3, f3⟩ := hh_rI (z := nI n) (j := 4) h2 (vm_R (vm_I ha)) (fun q => absurd q (by decide))
  obtain ⟨h4, f4⟩ := hh_rI (z := bI s) (j := 2) h3 (vm_I (vm_R (vm_I ha))) (fun _ => bI_b s)
  refine hK _ h4 (fw_t f1 ro_r (fw_t f2 ro_r (fw_t f3 ro_r f4))) ⟨?_, ?_⟩ (fun q hq => ⟨fun j => ?_, fun j => ?_⟩) ⟨ha.1, h4.2.2.1.1 a ha.1, ?_, fun q => absurd q (by show ¬ 2 = 1; omega), fun _ => ⟨?_, z_iIs, ?_⟩, fun q => absurd q (by show ¬ 2 = 3; omega)⟩
  · exact z_rIa.trans (z_rIa.trans ((z_rRm (by decide)).trans z_rIa))
  · exact (z_iIm (by decide)).trans ((z_iIm (by decide)).trans (z_iRa.trans (z_iIm (by decide))))
  · exact (z_iIn hq).trans ((z_iIn hq).trans (z_iRa.trans (z_iIn hq)))
  · exact z_rIa.trans (z_rIa.trans ((z_rRn hq).trans z_rIa))
  · exact (z_iIm (by decide)).trans ((z_iIm (by decide)).trans (z_iRa.trans z_iIs))
  · exact (z_iIm (by decide)).trans z_iIs
  · rw [show mj_r (mj_pI (mj_pI (mj_pR (mj_pI G a 0 (nI 4)) a 3 c) a 4 (nI n)) a 2 (bI s)) a 3 = c from z_rIa.trans (z_rIa.trans z_rRs)]
    refine ⟨hP, hc2, hcn, hck, hl, fun j hj => ?_⟩
    exact (z_iIn hca).trans ((z_iIn hca).trans (z_iRa.trans ((z_iIn hca).trans (hch j hj))))
/-- the data's references, where a Value is written that is none of them -/
theorem ir_w (h : hh ρ D I G) (h' : hh ρ D I G') (hF : fw ρ W G G') (hW : ∀ o, W o → ¬ im_o o) {l : Nat} (hl : l < 26) : ir G' l = ir G l := (dcx_l h.2.2.2 hF hW (hh_n h) hl).2
theorem c_refer {K : mj_G → Prop} (h : hh ρ D I G) (ha : vm ρ G a) (hv : rv_ok v) (hab : b ≠ a) (hb : cv P G b v) (hK : ∀ G', hh ρ D I G' → fw ρ (fun o => o = ow ρ a) G G' → vk G G' a → (∀ q, q ≠ a → (∀ j, mj_i G' q j = mj_i G q j) ∧ ∀ j, mj_r G' q j = mj_r G q j) → cv P G' a v → mj_r G' a 3 = mj_r G b 3 → mj_r G' a 5 = mj_r G b 5 → K G') : Va_refer d a b G K := by
  have hb12 := hb.1
  refine w_Va_refer h.1 ⟨hb12, ha.1, ?_⟩
  rintro _ rfl
  rintro _ rfl
  rw [z_iIn hab, z_iIn hab, z_iIn hab]
  refine ⟨hb.2.1, ?_⟩
  rintro _ rfl
  rintro _ rfl
  rintro _ rfl
  rintro _ rfl
  obtain ⟨h1, f1⟩ := hh_rI (z := mj_i G b 0) (j := 0) h ha (fun q => absurd q (by decide))
  obtain ⟨h2, f2⟩ := hh_rI (z := mj_i G b 1) (j := 1) h1 (vm_I ha) (fun q => absurd q (by decide))
  obtain ⟨h3, f3⟩ := hh_rI (z := mj_i G b 2) (j := 2) h2 (vm_I (vm_I ha)) (fun _ => hb.2.1)
  have e3 : mj_r (mj_pI (mj_pI (mj_pI G a 0 (mj_i G b 0)) a 1 (mj_i G b 1)) a 2 (mj_i G b 2)) b 3 = mj_r G b 3 := rfl
  rw [e3]
  obtain ⟨h4, f4⟩ := hh_rR (y := mj_r G b 3) h3 (vm_I (vm_I (vm_I ha))) (Or.inl rfl)
  have e4 : mj_i (mj_pR (mj_pI (mj_pI (mj_pI G a 0 (mj_i G b 0)) a 1 (mj_i G b 1)) a 2 (mj_i G b 2)) a 3 (mj_r G b 3)) b 4 = mj_i G b 4 := z_iRa.trans ((z_iIn hab).trans ((z_iIn hab).trans (z_iIn hab)))
  rw [e4]
  obtain ⟨h5, f5⟩ := hh_rI (z := mj_i G b 4) (j := 4) h4 (vm_R (vm_I (vm_I (vm_I ha)))) (fun q => absurd q (by decide))
  have e5 : mj_r (mj_pI (mj_pR (mj_pI (mj_pI (mj_pI G a 0 (mj_i G b 0)) a 1 (mj_i G b 1)) a 2 (mj_i G b 2)) a 3 (mj_r G b 3)) a 4 (mj_i G b 4)) b 5 = mj_r G b 5 := z_rIa.trans ((z_rRn hab).trans rfl)
  rw [e5]
  obtain ⟨h6, f6⟩ := hh_rR (y := mj_r G b 5) h5 (vm_I (vm_R (vm_I (vm_I (vm_I ha))))) (Or.inr rfl)
  have i0 : ∀ q j, q ≠ a → mj_i (mj_pR (mj_pI (mj_pR (mj_pI (mj_pI (mj_pI G a 0 (mj_i G b 0)) a 1 (mj_i G b 1)) a 2 (mj_i G b 2)) a 3 (mj_r G b 3)) a 4 (mj_i G b 4)) a 5 (mj_r G b 5)) q j = mj_i G q j := fun q j hq => z_iRa.trans ((z_iIn hq).trans (z_iRa.trans ((z_iIn hq).trans ((z_iIn hq).trans (z_iIn hq)))))
  have r0 : ∀ q j, q ≠ a → mj_r (mj_pR (mj_pI (mj_pR (mj_pI (mj_pI (mj_pI G a 0 (mj_i G b 0)) a 1 (mj_i G b 1)) a 2 (mj_i G b 2)) a 3 (mj_r G b 3)) a 4 (mj_i G b 4)) a 5 (mj_r G b 5)) q j = mj_r G q j := fun q j hq => (z_rRn hq).trans (z_rIa.trans ((z_rRn hq).trans rfl))
  have j0 : mj_i (mj_pR (mj_pI (mj_pR (mj_pI (mj_pI (mj_pI G a 0 (mj_i G b 0)) a 1 (mj_i G b 1)) a 2 (mj_i G b 2)) a 3 (mj_r G b 3)) a 4 (mj_i G b 4)) a 5 (mj_r G b 5)) a 0 = mj_i G b 0 := z_iRa.trans ((z_iIm (by decide)).trans (z_iRa.trans ((z_iIm (by decide)).trans ((z_iIm (by decide)).trans z_iIs))))
  have j1 : mj_i (mj_pR (mj_pI (mj_pR (mj_pI (mj_pI (mj_pI G a 0 (mj_i G b 0)) a 1 (mj_i G b 1)) a 2 (mj_i G b 2)) a 3 (mj_r G b 3)) a 4 (mj_i G b 4)) a 5 (mj_r G b 5)) a 1 = mj_i G b 1 := z_iRa.trans ((z_iIm (by decide)).trans (z_iRa.trans ((z_iIm (by decide)).trans z_iIs)))
  have j2 : mj_i (mj_pR (mj_pI (mj_pR (mj_pI (mj_pI (mj_pI G a 0 (mj_i G b 0)) a 1 (mj_i G b 1)) a 2 (mj_i G b 2)) a 3 (mj_r G b 3)) a 4 (mj_i G b 4)) a 5 (mj_r G b 5)) a 2 = mj_i G b 2 := z_iRa.trans ((z_iIm (by decide)).trans (z_iRa.trans z_iIs))
  have j4 : mj_i (mj_pR (mj_pI (mj_pR (mj_pI (mj_pI (mj_pI G a 0 (mj_i G b 0)) a 1 (mj_i G b 1)) a 2 (mj_i G b 2)) a 3 (mj_r G b 3)) a 4 (mj_i G b 4)) a 5 (mj_r G b 5)) a 4 = mj_i G b 4 := z_iRa.trans z_iIs
  have j6 : mj_i (mj_pR (mj_pI (mj_pR (mj_pI (mj_pI (mj_pI G a 0 (mj_i G b 0)) a 1 (mj_i G b 1)) a 2 (mj_i G b 2)) a 3 (mj_r G b 3)) a 4 (mj_i G b 4)) a 5 (mj_r G b 5)) a 6 = mj_i G a 6 := z_iRa.trans ((z_iIm (by decide)).trans (z_iRa.trans ((z_iIm (by decide)).trans ((z_iIm (by decide)).trans (z_iIm (by decide))))))
  have r3 : mj_r (mj_pR (mj_pI (mj_pR (mj_pI (mj_pI (mj_pI G a 0 (mj_i G b 0)) a 1 (mj_i G b 1)) a 2 (mj_i G b 2)) a 3 (mj_r G b 3)) a 4 (mj_i G b 4)) a 5 (mj_r G b 5)) a 3 = mj_r G b 3 := (z_rRm (by decide)).trans (z_rIa.trans z_rRs)
  have r5 : mj_r (mj_pR (mj_pI (mj_pR (mj_pI (mj_pI (mj_pI G a 0 (mj_i G b 0)) a 1 (mj_i G b 1)) a 2 (mj_i G b 2)) a 3 (mj_r G b 3)) a 4 (mj_i G b 4)) a 5 (mj_r G b 5)) a 5 = mj_r G b 5 := z_rRs
  have r7 : mj_r (mj_pR (mj_pI (mj_pR (mj_pI (mj_pI (mj_pI G a 0 (mj_i G b 0)) a 1 (mj_i G b 1)) a 2 (mj_i G b 2)) a 3 (mj_r G b 3)) a 4 (mj_i G b 4)) a 5 (mj_r G b 5)) a 7 = mj_r G a 7 := (z_rRm (by decide)).trans (z_rIa.trans ((z_rRm (by decide)).trans rfl))
  have kk : ∀ q, mj_k (mj_pR (mj_pI (mj_pR (mj_pI (mj_pI (mj_pI G a 0 (mj_i G b 0)) a 1 (mj_i G b 1)) a 2 (mj_i G b 2)) a 3 (mj_r G b 3)) a 4 (mj_i G b 4)) a 5 (mj_r G b 5)) q = mj_k G q := fun _ => rfl
  have ll : ∀ q, mj_l (mj_pR (mj_pI (mj_pR (mj_pI (mj_pI (mj_pI G a 0 (mj_i G b 0)) a 1 (mj_i G b 1)) a 2 (mj_i G b 2)) a 3 (mj_r G b 3)) a 4 (mj_i G b 4)) a 5 (mj_r G b 5)) q = mj_l G q := fun _ => rfl
  have nn : mj_n (mj_pR (mj_pI (mj_pR (mj_pI (mj_pI (mj_pI G a 0 (mj_i G b 0)) a 1 (mj_i G b 1)) a 2 (mj_i G b 2)) a 3 (mj_r G b 3)) a 4 (mj_i G b 4)) a 5 (mj_r G b 5)) = mj_n G := rfl
  have FF := fw_t f1 ro_r (fw_t f2 ro_r (fw_t f3 ro_r (fw_t f4 ro_r (fw_t f5 ro_r f6))))
  generalize mj_pR (mj_pI (mj_pR (mj_pI (mj_pI (mj_pI G a 0 (mj_i G b 0)) a 1 (mj_i G b 1)) a 2 (mj_i G b 2)) a 3 (mj_r G b 3)) a 4 (mj_i G b 4)) a 5 (mj_r G b 5) = G' at h6 FF i0 r0 j0 j1 j2 j4 j6 r3 r5 r7 kk ll nn ⊢
  obtain ⟨-, b2, b3, b4, b5, b6⟩ := hb
  refine hK G' h6 FF ⟨r7, j6⟩ (fun q hq => ⟨fun j => i0 q j hq, fun j => r0 q j hq⟩) ⟨(kk a).trans ha.1, by rw [j2]; exact b2, j0.trans b3, fun q => j1.trans (b4 q), fun q => ?_, fun q => ?_⟩ r3 r5
  · obtain ⟨c1, c2, c3, c4, c5, c6, c7, c8⟩ := b5 q
    have hca : mj_r G b 3 ≠ a := z_kne c6 ha.1 (by decide)
    rw [r3, nn, kk, ll]
    exact ⟨j4.trans c1, j2.trans c2, c3, c4, c5, c6, c7, fun j hj => (i0 _ j hca).trans (c8 j hj)⟩
  · rw [r5, b6 q]
    exact (ir_w h h6 FF (wo_im ha.2.2.1) (hv.2.2.2.2 q).2).symm
end VL
