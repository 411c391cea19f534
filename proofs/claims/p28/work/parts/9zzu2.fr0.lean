/-! FRAMES WITHOUT THE ROOM: as those of 80 on, where new cells are made that nothing was told of (copied by rule from 80, 81, 9i, 94, 9x, 9b) -/
/-- cells of no owner in W are as they were -/
def f0 (ρ : Nat → Nat) (W : Nat → Prop) (G G' : mj_G) : Prop := mj_n G ≤ mj_n G' ∧ True ∧ True ∧ ∀ a, a < mj_n G → mj_k G' a = mj_k G a ∧ mj_l G' a = mj_l G a ∧ (¬ W (ow ρ a) → (∀ j, mj_r G' a j = mj_r G a j) ∧ ∀ j, mj_i G' a j = mj_i G a j)
section F0
variable {u : wo} {ρ ρ' : Nat → Nat} {W W' : Nat → Prop} {G G0 G1 G' : mj_G} {a j x : Nat} {z : Int32} {D : Nat → rv} {I : Nat → Nat → rv} {P Q : Nat → Prop} {v : rv} {o : ost} {A : Nat → Prop} {FG : Nat → kfr}
theorem f0_fw (h : fw ρ W G G') : f0 ρ W G G' := ⟨h.1, trivial, trivial, h.2.2.2⟩
theorem f0_fn (h : fn_F G G') : f0 ρ W G G' := ⟨h.1, trivial, trivial, fun a ha => ⟨(h.2 a ha).1, (h.2 a ha).2.1, fun _ => (h.2 a ha).2.2⟩⟩
theorem f0_r : f0 ρ W G G := f0_fw fw_r
theorem f0_t (h1 : f0 ρ W G G1) (he : ro_e ρ ρ' G) (h2 : f0 ρ' W G1 G') : f0 ρ W G G' := by
  refine ⟨Nat.le_trans h1.1 h2.1, trivial, trivial, fun a ha => ?_⟩
  obtain ⟨a1, a2, a3⟩ := h1.2.2.2 a ha
  obtain ⟨b1, b2, b3⟩ := h2.2.2.2 a (Nat.lt_of_lt_of_le ha h1.1)
  refine ⟨b1.trans a1, b2.trans a2, fun hw => ?_⟩
  obtain ⟨c1, c2⟩ := a3 hw
  obtain ⟨d1, d2⟩ := b3 (by rw [ro_ow he ha]; exact hw)
  exact ⟨fun j => (d1 j).trans (c1 j), fun j => (d2 j).trans (c2 j)⟩
theorem f0_m (h : f0 ρ W G G') (hW : ∀ o, W o → W' o) : f0 ρ W' G G' := ⟨h.1, trivial, trivial, fun a ha => ⟨(h.2.2.2 a ha).1, (h.2.2.2 a ha).2.1, fun hw => (h.2.2.2 a ha).2.2 (fun q => hw (hW _ q))⟩⟩
theorem f0_im (h : f0 ρ W G G') (hW : ∀ o, W o → ¬ im_o o) (ha : a < mj_n G) (hi : im_o (ow ρ a)) : mj_k G' a = mj_k G a ∧ mj_l G' a = mj_l G a ∧ (∀ j, mj_r G' a j = mj_r G a j) ∧ ∀ j, mj_i G' a j = mj_i G a j := by
  obtain ⟨h1, h2, h3⟩ := h.2.2.2 a ha
  obtain ⟨h4, h5⟩ := h3 (fun q => hW _ q hi)
  exact ⟨h1, h2, h4, h5⟩
theorem dcx_l0 (h : dcx ρ G D I) (hF : f0 ρ W G G') (hW : ∀ o, W o → ¬ im_o o) (hG : 1768 ≤ mj_n G) {l : Nat} (hl : l < 26) : mj_r G' 12 l = mj_r G 12 l ∧ ir G' l = ir G l := by
  obtain ⟨a1, a2, -⟩ := h l hl
  have e1 : mj_r G' 12 l = mj_r G 12 l := (f0_im hF hW (a := 12) (by omega) (by rw [ow_s (by decide)]; exact im_12)).2.2.1 l
  refine ⟨e1, ?_⟩
  unfold ir
  rw [e1]
  exact (f0_im hF hW a2 a1).2.2.1 5
theorem cv_f0 (h : cv P G a v) (hv : rv_ok v) (hd : dcx ρ G D I) (hF : f0 ρ W G G') (hW : ∀ o, W o → ¬ im_o o) (hG : 1768 ≤ mj_n G) (ha : a < mj_n G) (hna : ¬ W (ow ρ a)) (hP : ∀ c, c < mj_n G → P c → ¬ W (ow ρ c) ∧ Q c) : cv Q G' a v := by
  obtain ⟨k1, k2, k3⟩ := hF.2.2.2 a ha
  obtain ⟨k4, k5⟩ := k3 hna
  refine cv_st h hF.1 k1 k5 k4 (fun q => ?_) (fun c hc q => (hP c hc q).2) (fun q => (dcx_l0 hd hF hW hG (hv.2.2.2.2 q).2).2)
  obtain ⟨-, -, b3, -, b5, -⟩ := h.2.2.2.2.1 q
  obtain ⟨c1, c2, c3⟩ := hF.2.2.2 _ b5
  exact ⟨c1, c2, (c3 (hP _ b5 b3).1).2⟩
theorem cv_im0 (h : cv (imm ρ) G a v) (hv : rv_ok v) (hd : dcx ρ G D I) (hF : f0 ρ W G G') (he : ro_e ρ ρ' G) (hW : ∀ o, W o → ¬ im_o o) (hG : 1768 ≤ mj_n G) (ha : a < mj_n G) (hi : imm ρ a) : cv (imm ρ') G' a v :=
  cv_f0 h hv hd hF hW hG ha (fun q => hW _ q hi) (fun c hc q => ⟨fun q' => hW _ q' q, by rw [imm_e he hc]; exact q⟩)
theorem dcx_f0 (h : dcx ρ G D I) (hF : f0 ρ W G G') (he : ro_e ρ ρ' G) (hW : ∀ o, W o → ¬ im_o o) (hG : 1768 ≤ mj_n G) : dcx ρ' G' D I := fun l hl => by
  obtain ⟨e1, e2⟩ := dcx_l0 h hF hW hG hl
  obtain ⟨a1, a2, a3, a4, a5⟩ := h l hl
  have hn := hF.1
  rw [e1, e2]
  refine ⟨by rw [imm_e he a2]; exact a1, by omega, cv_im0 a3 a4 h hF he hW hG a2 a1, a4, fun q => ?_⟩
  obtain ⟨b1, b2, b3, b4, b5, b6⟩ := a5 q
  obtain ⟨c1, c2, c3, -⟩ := f0_im hF hW b3 b2
  refine ⟨b1, by rw [imm_e he b3]; exact b2, by omega, c1.trans b4, c2.trans b5, fun k hk => ?_⟩
  obtain ⟨d1, d2, d3, d4, d5⟩ := b6 k hk
  rw [c3 k]
  exact ⟨by rw [imm_e he d2]; exact d1, by omega, cv_im0 d3 d4 h hF he hW hG d2 d1, d4, d5⟩
theorem tH_f0 {W : Nat → Prop} {ρ' : Nat → Nat} {G' : mj_G} {pa bd : Nat → Nat} (h : hh ρ D I G) (ht : tH ρ G pa bd) (F : f0 ρ W G G') (he : ro_e ρ ρ' G) (hW : ∀ o, W o → ¬ im_o o) : tH ρ' G' pa bd := fun t h10 => by
  have hG := hh_n h
  obtain ⟨h1, h2, h3, h4, h5, h6, h7⟩ := ht t h10
  have e7 : mj_r G' 7 t = mj_r G 7 t := (f0_im F hW (a := 7) (by omega) (by rw [ow_s (by decide)]; unfold im_o; omega)).2.2.1 t
  obtain ⟨k1, k2, k3, k4⟩ := f0_im F hW h3 h2
  rw [e7]
  exact ⟨h1, by rw [imm_e he h3]; exact h2, Nat.lt_of_lt_of_le h3 F.1, k1.trans h4, (k4 1).trans h5, (k3 0).trans h6, h7⟩
theorem fA_f0 (h : fA A ρ G0 G) (F : f0 ρ W G G') (hW : ∀ o, W o → ¬ im_o o) (he : ro_e ρ ρ' G) : fA A ρ' G0 G' := fun a ha => by
  obtain ⟨h0, h1, h2, h3, h4, h5, h6⟩ := h a ha
  obtain ⟨k1, k2, k3, k4⟩ := f0_im F hW h1 h2
  exact ⟨h0, Nat.lt_of_lt_of_le h1 F.1, by rw [imm_e he h1]; exact h2, k1.trans h3, k2.trans h4, fun j => (k3 j).trans (h5 j), fun j => (k4 j).trans (h6 j)⟩
theorem wC_f0 (h : hh ρ (u_D u) (u_I u) G) (hw : wC u ρ G) (F : f0 ρ W G G') (he : ro_e ρ ρ' G) (hW : ∀ o, W o → ¬ im_o o) : wC u ρ' G' := by
  have hG := hh_n h
  obtain ⟨h1, h2, h3, h4, h5⟩ := hw
  have e7 : ∀ t, mj_r G' 7 t = mj_r G 7 t := fun t => (f0_im F hW (a := 7) (by omega) (by rw [ow_s (by decide)]; unfold im_o; omega)).2.2.1 t
  have eT : ∀ t, t < 10 → mj_k G' (mj_r G 7 t) = mj_k G (mj_r G 7 t) ∧ ∀ j, mj_r G' (mj_r G 7 t) j = mj_r G (mj_r G 7 t) j := fun t ht => by
    obtain ⟨g1, g2, g3, -⟩ := h1 t ht
    have := f0_im F hW g3 g2
    exact ⟨this.1, this.2.2.1⟩
  have eA : ∀ t, t < 10 → ∀ j, j = 4 ∨ j = 5 → mj_k G' (mj_r G (mj_r G 7 t) j) = mj_k G (mj_r G (mj_r G 7 t) j) ∧ mj_l G' (mj_r G (mj_r G 7 t) j) = mj_l G (mj_r G (mj_r G 7 t) j) ∧ ∀ g, mj_r G' (mj_r G (mj_r G 7 t) j) g = mj_r G (mj_r G (mj_r G 7 t) j) g := fun t ht j hj => by
    obtain ⟨g1, g2⟩ := h3 t ht j hj
    have := f0_im F hW g2 g1
    exact ⟨this.1, this.2.1, this.2.2.1⟩
  have tb : ∀ j g q, j = 4 ∨ j = 5 → tB G j g q → tB G' j g q := fun j g q hj hB t ht => by
    obtain ⟨g1, g2, g3, g4, g5⟩ := hB t ht
    obtain ⟨t1, t2⟩ := eT t ht
    obtain ⟨a1, a2, a3⟩ := eA t ht j hj
    rw [e7, t2 j, t1, a1, a2, a3]
    exact ⟨g1, g2, g3, g4, g5⟩
  refine ⟨tH_f0 h h1 F he hW, fun g hg => ⟨tb _ _ _ (Or.inl rfl) (h2 g hg).1, tb _ _ _ (Or.inr rfl) (h2 g hg).2⟩, fun t ht j hj => ?_, fA_f0 h4 F hW he, fun j hj => ?_⟩
  · obtain ⟨g1, g2⟩ := h3 t ht j hj
    rw [e7, (eT t ht).2 j, imm_e he g2]
    exact ⟨g1, Nat.lt_of_lt_of_le g2 F.1⟩
  · obtain ⟨g1, g2, g3⟩ := h5 j hj
    exact ⟨g1, g2, cv_im0 g3 g1 h.2.2.2 F he hW hG (by omega) (by unfold imm; rw [ow_s (by omega)]; unfold im_o; omega)⟩
theorem kvl_f0 {i a : Nat} {v : rv} {I0 : Nat → Nat → rv} (h : hh ρ (u_D u) (u_I u) G) (hk : kvl ρ G i a v I0) (F : f0 ρ W G G') (he : ro_e ρ ρ' G) (hW : ∀ o, W o → ¬ im_o o ∧ ¬ gW o) : kvl ρ' G' i a v I0 := by
  have hG := hh_n h
  obtain ⟨h1, h2, h3, h4, h5, h6, h7, h8, h9, h10⟩ := hk
  have e : ∀ c, c < mj_n G → 1768 ≤ c → ρ c = 2000 + i → mj_k G' c = mj_k G c ∧ mj_l G' c = mj_l G c ∧ (∀ j, mj_r G' c j = mj_r G c j) ∧ ∀ j, mj_i G' c j = mj_i G c j := fun c hc hd ho => by
    have := F.2.2.2 c hc
    have q := this.2.2 (fun q => (hW _ q).2 (by rw [ow_d hd, ho]; unfold gW; omega))
    exact ⟨this.1, this.2.1, q.1, q.2⟩
  obtain ⟨k1, -, k3, k4⟩ := e a h2 h1 h3
  have hW1 : ∀ o, W o → ¬ im_o o := fun o q => (hW o q).1
  refine ⟨h1, Nat.lt_of_lt_of_le h2 F.1, (he a h2).trans h3, k1.trans h4, h5, by rw [k4]; exact h6, (k4 0).trans h7, fun t => (k4 1).trans (h8 t), fun t => ?_, fun t => ?_⟩
  · obtain ⟨g1, g2, g3, g4, g5, g6, g7, g8⟩ := h9 t
    obtain ⟨c1, c2, -, c4⟩ := e _ g4 g3 g5
    rw [k3 3]
    exact ⟨(k4 4).trans g1, (k4 2).trans g2, g3, Nat.lt_of_lt_of_le g4 F.1, (he _ g4).trans g5, c1.trans g6, by rw [c2]; exact g7, fun j hj => (c4 j).trans (g8 j hj)⟩
  · obtain ⟨g1, g2, g3, g4, g5⟩ := h10 t
    obtain ⟨c1, c2, c3, c4⟩ := f0_im F hW1 g2 g1
    rw [k3 5]
    refine ⟨by rw [imm_e he g2]; exact g1, Nat.lt_of_lt_of_le g2 F.1, c1.trans g3, c2.trans g4, fun k hk => ?_⟩
    obtain ⟨d1, d2, d3, d4, d5⟩ := g5 k hk
    rw [c3 k]
    exact ⟨by rw [imm_e he d2]; exact d1, Nat.lt_of_lt_of_le d2 F.1, cv_im0 d3 d4 h.2.2.2 F he hW1 hG d2 d1, d4, d5⟩
theorem fgC_f0 (h : hh ρ (u_D u) (u_I u) G) (hk : fgC u ρ G FG) (F : f0 ρ W G G') (he : ro_e ρ ρ' G) (hW : ∀ o, W o → ¬ im_o o ∧ ¬ gW o) : fgC u ρ' G' FG := fun i hi => by
  have hG := hh_n h
  have e : ∀ a, 1594 ≤ a → a ≤ 1673 → (∀ j, mj_r G' a j = mj_r G a j) ∧ ∀ j, mj_i G' a j = mj_i G a j := fun a h1 h2 => (F.2.2.2 a (by omega)).2.2 (fun q => (hW _ q).2 (by rw [ow_s (by omega)]; unfold gW; omega))
  obtain ⟨⟨h1, h2⟩, h3⟩ := hk i hi
  obtain ⟨a1, a2⟩ := e (1597 + 8 * i) (by omega) (by omega)
  obtain ⟨-, b2⟩ := e (1598 + 8 * i) (by omega) (by omega)
  obtain ⟨-, c2⟩ := e (1599 + 8 * i) (by omega) (by omega)
  obtain ⟨d1, -⟩ := e (1600 + 8 * i) (by omega) (by omega)
  obtain ⟨e1, -⟩ := e (1601 + 8 * i) (by omega) (by omega)
  refine ⟨⟨fun q => (a1 0).trans (h1 q), fun q => ?_⟩, h3⟩
  obtain ⟨g1, g2, g3, g4, g5, g6, g7, g8, g9, g10, g11, g12, g13, g14, g15, g16⟩ := h2 q
  refine ⟨(a1 0).trans g1, g2, g3, g4, (a2 2).trans g5, g6, fun j hj => ⟨(b2 j).trans (g7 j hj).1, (g7 j hj).2⟩, (a2 3).trans g8, g9, (a2 4).trans g10, (a2 6).trans g11, g12, fun j hj => ⟨(c2 j).trans (g13 j hj).1, (g13 j hj).2⟩, (a2 7).trans g14, (a2 8).trans g15, fun l hl => ⟨fun t => ?_, fun t => ?_⟩⟩
  · rw [d1]
    exact kvl_f0 h ((g16 l hl).1 t) F he hW
  · rw [e1]
    exact kvl_f0 h ((g16 l hl).2 t) F he hW
theorem oC_f0 {ρ : Nat → Nat} {W : Nat → Prop} {G' : mj_G} (h : hh ρ D I G) (ho : oC G o) (F : f0 ρ W G G') (hW : ∀ a, W a → ¬ oW a) : oC G' o ∧ oX G G' := by
  have hG := hh_n h
  have e : ∀ a, oW a → (∀ j, mj_r G' a j = mj_r G a j) ∧ ∀ j, mj_i G' a j = mj_i G a j := fun a ha => (F.2.2.2 a (by unfold oW at ha; omega)).2.2 (fun q => hW _ q (by rw [ow_s (by unfold oW at ha; omega)]; exact ha))
  have e9 := e 1589 (by unfold oW; decide)
  obtain ⟨k1, k2, k3, k4, k5, k6⟩ := ho
  refine ⟨⟨k1, by rw [e9.1 0]; exact k2, (e9.2 1).trans k3, (e9.2 5).trans k4, fun i hi => ?_, fun i hi => ((e 1592 (by unfold oW; decide)).2 i).trans (k6 i hi)⟩, e9.1, e9.2 3, fun a j q _ => (e a (by unfold oW; omega)).2 j⟩
  rw [e9.1 0]
  exact ((e _ (by unfold oW; omega)).2 i).trans (k5 i hi)
end F0
