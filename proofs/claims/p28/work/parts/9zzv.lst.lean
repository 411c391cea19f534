/-! THE STATE BETWEEN THE CALLS OF THE LAW -/
/-- the world; the kept fragments; the output; the length and the cells of the output before; steps, hits; the typed text; the shapes -/
abbrev lst : Type := wo × (Nat → kfr) × ost × (Nat × (Nat → Nat)) × (Nat × Nat) × (Nat × (Nat → Nat)) × (Nat → Nat)
def ls_u (s : lst) : wo := s.1
def ls_F (s : lst) : Nat → kfr := s.2.1
def ls_o (s : lst) : ost := s.2.2.1
def ls_b (s : lst) : Nat := s.2.2.2.1.1
def ls_c (s : lst) : Nat → Nat := s.2.2.2.1.2
def ls_t (s : lst) : Nat := s.2.2.2.2.1.1
def ls_h (s : lst) : Nat := s.2.2.2.2.1.2
def ls_n (s : lst) : Nat := s.2.2.2.2.2.1.1
def ls_w (s : lst) : Nat → Nat := s.2.2.2.2.2.1.2
def ls_k (s : lst) : Nat → Nat := s.2.2.2.2.2.2
/-- a character of a cell of the output -/
def zk (z : Nat) : Prop := z < 2 ^ 31 ∧ 32 ≤ z % 128 ∧ z % 128 ≤ 126
/-- the class's output, and the one before -/
def yO (G : mj_G) (o : ost) (nb : Nat) (cb : Nat → Nat) : Prop := oC G o ∧ (mj_r G 1589 2 = 1590 ∨ mj_r G 1589 2 = 1591) ∧ mj_r G 1589 2 ≠ mj_r G 1589 0 ∧ mj_i G 1589 3 = nI nb ∧ ∀ i, i < nb → mj_i G (mj_r G 1589 2) i = nI (cb i)
def yB (G : mj_G) (bu st hts : Nat) : Prop := mj_i G 6 6 = nI bu ∧ mj_i G 6 7 = nI st ∧ mj_i G 6 8 = nI hts
def yT (G : mj_G) (n : Nat) (w : Nat → Nat) : Prop := mj_i G 3 1 = nI n ∧ ∀ k, k < n → mj_i G 4 k = nI (w k)
def yS (G : mj_G) (z : Nat → Nat) : Prop := ∀ i, i < 26 → mj_i G 5 i = nI (z i)
/-- which letters some set of a template sets; the data are no forms -/
def yL (u : wo) (G : mj_G) : Prop := (∀ t, t < 10 → (∀ i, i < 26 → (bt (mj_i G (mj_r G 7 t) 3) i ↔ tl_st (u_w u t) i (u_L u t))) ∧ ∀ j, j = 4 ∨ j = 5 → tp_C (mj_r G (mj_r G 7 t) j)) ∧ ∀ l, l < 26 → ¬ (1674 ≤ mj_r G 12 l ∧ mj_r G 12 l ≤ 1713) ∧ (rv_t (u_D u l) = 3 → ∀ k, k < rv_l (u_D u l) → ¬ (1674 ≤ mj_r G (ir G l) k ∧ mj_r G (ir G l) k ≤ 1713))
/-- the class's heap between the calls -/
def LC (s : lst) (ρ : Nat → Nat) (G : mj_G) : Prop := hh ρ (u_D (ls_u s)) (u_I (ls_u s)) G ∧ (wC (ls_u s) ρ G ∧ yL (ls_u s) G) ∧ fgC (ls_u s) ρ G (ls_F s) ∧ yO G (ls_o s) (ls_b s) (ls_c s) ∧ yB G (u_bu (ls_u s)) (ls_t s) (ls_h s) ∧ yT G (ls_n s) (ls_w s) ∧ yS G (ls_k s)
/-- the model's output, and the one before -/
def zO (f : mm_F) (o : ost) (nb : Nat) (cb : Nat → Nat) : Prop := (∃ oQ, oM f oQ ∧ o_n oQ = o_n o ∧ ∀ i, i < o_n o → o_c oQ i = o_c o i) ∧ f 1714 64 = nI nb ∧ ∀ i, i < nb → f 1761 i = om (cb i)
def zH (f : mm_F) (z : Nat → Nat) : Prop := ∀ i, i < 26 → f 1763 i = nI (z i)
/-- the model's state between the calls -/
def LM (s : lst) (f : mm_F) : Prop := wM (ls_u s) f ∧ fgM f (ls_F s) ∧ zO f (ls_o s) (ls_b s) (ls_c s) ∧ (f 1714 68 = nI (ls_t s) ∧ f 1714 69 = nI (ls_h s)) ∧ pt_T f (ls_w s) (ls_n s) ∧ zH f (ls_k s)
/-- what holds of the state itself -/
def LQ (s : lst) : Prop := uP (ls_u s) ∧ tx_W (ls_w s) (ls_n s) ∧ (∀ i, i < 26 → ls_k s i < 16) ∧ o_ok (ls_o s) ∧ ls_b s ≤ 300 ∧ (∀ i, i < ls_b s → zk (ls_c s i)) ∧ ls_t s ≤ 2000
/-- a step of the class: the model's cells stay; the room -/
def yR (c e : Nat) (G G' : mj_G) : Prop := (∀ a, a < mj_n G → mj_k G' a = mj_k G a ∧ mj_l G' a = mj_l G a) ∧ (∀ a j, (a = 1 ∨ 1714 ≤ a) → a ≤ 1767 → mj_i G' a j = mj_i G a j ∧ mj_r G' a j = mj_r G a j) ∧ mj_n G ≤ mj_n G' ∧ mj_n G' + pw 1 2 G' ≤ mj_n G + pw 1 2 G + c ∧ mj_u G' + pw 300 8 G' ≤ mj_u G + pw 300 8 G + e
def yF (G G' : mj_G) : Prop := yR 999 11999 G G'
theorem yR_r {G : mj_G} : yR 0 0 G G := ⟨fun _ _ => ⟨rfl, rfl⟩, fun _ _ _ _ => ⟨rfl, rfl⟩, Nat.le_refl _, Nat.le_refl _, Nat.le_refl _⟩
theorem yR_t {c e c' e' : Nat} {G G1 G' : mj_G} (h : yR c e G G1) (h' : yR c' e' G1 G') : yR (c + c') (e + e') G G' := by
  obtain ⟨a1, a2, a3, a4, a5⟩ := h
  obtain ⟨b1, b2, b3, b4, b5⟩ := h'
  exact ⟨fun a ha => ⟨(b1 a (by omega)).1.trans (a1 a ha).1, (b1 a (by omega)).2.trans (a1 a ha).2⟩, fun a j q1 q2 => ⟨(b2 a j q1 q2).1.trans (a2 a j q1 q2).1, (b2 a j q1 q2).2.trans (a2 a j q1 q2).2⟩, by omega, by omega, by omega⟩
theorem yR_m {c e c' e' : Nat} {G G' : mj_G} (h : yR c e G G') (h1 : c ≤ c') (h2 : e ≤ e') : yR c' e' G G' := ⟨h.1, h.2.1, h.2.2.1, by have := h.2.2.2.1; omega, by have := h.2.2.2.2; omega⟩
theorem yR_F {c e : Nat} {G G' : mj_G} (h : yR c e G G') (h1 : c ≤ 999) (h2 : e ≤ 11999) : yF G G' := yR_m h h1 h2
section ZZV
variable {s : lst} {ρ ρ' : Nat → Nat} {G G1 G' : mj_G} {f f' : mm_F} {W S1 R1 P : Nat → Prop} {o : ost} {nb n bu st hts : Nat} {cb w z : Nat → Nat}
theorem yO_f {D : Nat → rv} {I : Nat → Nat → rv} (h : hh ρ D I G) (ho : yO G o nb cb) (F : f0 ρ W G G') (hW : ∀ a, W a → ¬ oW a) : yO G' o nb cb := by
  have hG := hh_n h
  obtain ⟨h1, h2, h3, h4, h5⟩ := ho
  obtain ⟨a1, -⟩ := oC_f0 h h1 F hW
  have e : ∀ a, 1589 ≤ a → a ≤ 1592 → (∀ j, mj_r G' a j = mj_r G a j) ∧ ∀ j, mj_i G' a j = mj_i G a j := fun a q1 q2 => (F.2.2.2 a (by omega)).2.2 (by
    rw [show ow ρ a = a from if_pos (by omega)]
    exact fun q => hW a q (by unfold oW; omega))
  have r2 := (e 1589 (by decide) (by decide)).1 2
  have r0 := (e 1589 (by decide) (by decide)).1 0
  refine ⟨a1, by rw [r2]; exact h2, by rw [r2, r0]; exact h3, ((e 1589 (by decide) (by decide)).2 3).trans h4, fun i hi => ?_⟩
  rw [r2, ← h5 i hi]
  rcases h2 with q | q
  · rw [q]
    exact (e 1590 (by decide) (by decide)).2 i
  · rw [q]
    exact (e 1591 (by decide) (by decide)).2 i
theorem ce_lo (hG : 1768 ≤ mj_n G) (F : f0 ρ W G G') {a : Nat} (ha : a < 1768) (hW : ¬ W a) : (∀ j, mj_r G' a j = mj_r G a j) ∧ ∀ j, mj_i G' a j = mj_i G a j := (F.2.2.2 a (by omega)).2.2 (by rw [show ow ρ a = a from if_pos ha]; exact hW)
theorem yB_f (hG : 1768 ≤ mj_n G) (h : yB G bu st hts) (F : f0 ρ W G G') (hW : ¬ W 6) : yB G' bu st hts := by
  have e := (ce_lo hG F (by decide) hW).2
  exact ⟨(e 6).trans h.1, (e 7).trans h.2.1, (e 8).trans h.2.2⟩
theorem yT_f (hG : 1768 ≤ mj_n G) (h : yT G n w) (F : f0 ρ W G G') (hW : ¬ W 3 ∧ ¬ W 4) : yT G' n w := ⟨((ce_lo hG F (by decide) hW.1).2 1).trans h.1, fun k hk => ((ce_lo hG F (by decide) hW.2).2 k).trans (h.2 k hk)⟩
theorem yS_f (hG : 1768 ≤ mj_n G) (h : yS G z) (F : f0 ρ W G G') (hW : ¬ W 5) : yS G' z := fun i hi => ((ce_lo hG F (by decide) hW).2 i).trans (h i hi)
theorem wY_f0 {u : wo} (h : hh ρ (u_D u) (u_I u) G) (hw : wC u ρ G ∧ yL u G) (F : f0 ρ W G G') (he : ro_e ρ ρ' G) (hW : ∀ o, W o → ¬ im_o o) : wC u ρ' G' ∧ yL u G' := by
  have hG := hh_n h
  refine ⟨wC_f0 h hw.1 F he hW, fun t ht => ?_, fun l hl => ?_⟩
  case refine_2 =>
    obtain ⟨e1, e2⟩ := dcx_l0 h.2.2.2 F hW hG hl
    obtain ⟨a1, a2, -, -, a5⟩ := h.2.2.2 l hl
    obtain ⟨y1, y2⟩ := hw.2.2 l hl
    rw [e1, e2]
    refine ⟨y1, fun q k hk => ?_⟩
    obtain ⟨b1, b2, b3, -⟩ := a5 q
    rw [(f0_im F hW b3 b2).2.2.1 k]
    exact y2 q k hk
  have e7 : mj_r G' 7 t = mj_r G 7 t := (f0_im F hW (a := 7) (by omega) (by rw [ow_s (by decide)]; unfold im_o; omega)).2.2.1 t
  obtain ⟨-, g2, g3, -⟩ := hw.1.1 t ht
  rw [e7, (f0_im F hW g3 g2).2.2.2 3]
  exact ⟨(hw.2.1 t ht).1, fun j hj => by rw [(f0_im F hW g3 g2).2.2.1 j]; exact (hw.2.1 t ht).2 j hj⟩
/-- what a frame writes between the calls, at most -/
def yW (o : Nat) : Prop := ¬ im_o o ∧ ¬ gW o ∧ ¬ oW o ∧ ¬ (3 ≤ o ∧ o ≤ 6)
/-- the picture stays, where none of it is written -/
theorem LC_f (h : LC s ρ G) (hh' : hh ρ' (u_D (ls_u s)) (u_I (ls_u s)) G') (F : f0 ρ W G G') (he : ro_e ρ ρ' G) (hW : ∀ o, W o → yW o) : LC s ρ' G' := by
  obtain ⟨h1, h2, h3, h4, h5, h6, h7⟩ := h
  have hG := hh_n h1
  exact ⟨hh', wY_f0 h1 h2 F he (fun o q => (hW o q).1), fgC_f0 h1 h3 F he (fun o q => ⟨(hW o q).1, (hW o q).2.1⟩), yO_f h1 h4 F (fun o q => (hW o q).2.2.1), yB_f hG h5 F (fun q => (hW 6 q).2.2.2 (by omega)), yT_f hG h6 F ⟨fun q => (hW 3 q).2.2.2 (by omega), fun q => (hW 4 q).2.2.2 (by omega)⟩, yS_f hG h7 F (fun q => (hW 5 q).2.2.2 (by omega))⟩
/-- the model's cells -/
def mmW (o : Nat) : Prop := 1714 ≤ o ∧ o ≤ 1766
theorem mm_fw {ρ : Nat → Nat} : f0 ρ mmW G (mm_M f G) := ⟨Nat.le_refl _, trivial, trivial, fun a _ => ⟨rfl, rfl, fun hw => ⟨fun _ => rfl, fun j => by
  show (if 1714 ≤ a ∧ a ≤ 1766 then f a j else mj_i G a j) = mj_i G a j
  by_cases q : 1714 ≤ a ∧ a ≤ 1766
  · exact absurd (show mmW (ow ρ a) by rw [show ow ρ a = a from if_pos (by omega)]; exact q) hw
  · exact if_neg q⟩⟩⟩
theorem mm_ii {a j : Nat} (h1 : 1714 ≤ a) (h2 : a ≤ 1766) : mj_i (mm_M f G) a j = f a j := if_pos ⟨h1, h2⟩
theorem mm_io {a j : Nat} (h : ¬ (1714 ≤ a ∧ a ≤ 1766)) : mj_i (mm_M f G) a j = mj_i G a j := if_neg h
/-- the heap is the one with its own ints of the model -/
theorem mm_self (h : ∀ a j, 1714 ≤ a → a ≤ 1766 → mj_i G a j = f a j) : mm_M f G = G := by
  have e : (fun a j => if 1714 ≤ a ∧ a ≤ 1766 then f a j else mj_i G a j) = mj_i G := by
    funext a j
    by_cases q : 1714 ≤ a ∧ a ≤ 1766
    · rw [if_pos q]
      exact (h a j q.1 q.2).symm
    · rw [if_neg q]
  unfold mm_M
  rw [e]
  rfl
theorem mm_mm : mm_M f' (mm_M f G) = mm_M f' G := by
  have e : (fun a j => if 1714 ≤ a ∧ a ≤ 1766 then f' a j else mj_i (mm_M f G) a j) = fun a j => if 1714 ≤ a ∧ a ≤ 1766 then f' a j else mj_i G a j := by
    funext a j
    by_cases q : 1714 ≤ a ∧ a ≤ 1766
    · rw [if_pos q, if_pos q]
    · rw [if_neg q, if_neg q, mm_io q]
  show (mj_n G, mj_u G, mj_k G, mj_l G, fun a j => if 1714 ≤ a ∧ a ≤ 1766 then f' a j else mj_i (mm_M f G) a j, mj_r G, mj_j G) = _
  rw [e]
  rfl
/-- the class's picture does not see the model -/
theorem LC_M (h : LC s ρ G) (hM : mm_S G) : LC s ρ (mm_M f G) := by
  obtain ⟨a1, a2, a3, a4⟩ := h.1
  have hk : ∀ a, mj_k G a = 12 → ¬ (1714 ≤ a ∧ a ≤ 1766) := fun a q r => by
    rcases (show a = 1714 ∨ ∃ i, i < 52 ∧ a = 1715 + i from if t : a = 1714 then Or.inl t else Or.inr ⟨a - 1715, by omega, by omega⟩) with t | ⟨i, hi, t⟩
    · rw [t, hM.1] at q
      exact absurd q (by decide)
    · have all : ∀ i, i < 52 → ∃ p, p ∈ mm_tb ∧ p.2.1 = 1715 + i ∧ p.2.2.1 ≠ 12 := by decide
      obtain ⟨p, p1, p2, p3⟩ := all i hi
      have := (hM.2 p p1).2.1
      rw [p2, ← t, q] at this
      exact p3 this.symm
  refine LC_f (W := mmW) h ⟨a1, a2, ⟨fun a q => ?_, a3.2⟩, dcx_f0 a4 mm_fw ro_r (fun o q => by unfold mmW at q; unfold im_o; omega) a1.1⟩ mm_fw ro_r (fun o q => by unfold mmW at q; unfold yW im_o gW oW; omega)
  rw [mm_io (hk a q)]
  exact a3.1 a q
end ZZV
