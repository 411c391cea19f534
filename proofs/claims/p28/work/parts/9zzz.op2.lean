/-! THE CALLS OF THE LAW: data -/
/-- a call with what every run keeps -/
theorem iv_cI {K : Int32 ⊕ Nat → mj_G → Prop} {d mi pc u0 : Nat} {ls : List (Option mj_V)} {st : List mj_V} {G : mj_G} (hJ : iv_J u0 G) (h : mj_X d mi pc ls st G (fun o G1 => cx_I (fun r G' => iv_J u0 G' → K r G') o G1)) : mj_X d mi pc ls st G (fun o G1 => cx_I K o G1) := iv_X h hJ (fun o G' hQ hJ' => ⟨hQ.1, hQ.2.elim (fun ⟨v, e, k⟩ => Or.inl ⟨v, e, k hJ'⟩) (fun ⟨v, e, k⟩ => Or.inr ⟨v, e, k hJ'⟩)⟩)
theorem iv_cZ {K : Bool ⊕ Nat → mj_G → Prop} {d mi pc u0 : Nat} {ls : List (Option mj_V)} {st : List mj_V} {G : mj_G} (hJ : iv_J u0 G) (h : mj_X d mi pc ls st G (fun o G1 => cx_Z (fun r G' => iv_J u0 G' → K r G') o G1)) : mj_X d mi pc ls st G (fun o G1 => cx_Z K o G1) := iv_X h hJ (fun o G' hQ hJ' => ⟨hQ.1, hQ.2.elim (fun ⟨v, e, k⟩ => Or.inl ⟨v, e, k hJ'⟩) (fun ⟨v, e, k⟩ => Or.inr ⟨v, e, k hJ'⟩)⟩)
theorem iv_cV {K : Unit ⊕ Nat → mj_G → Prop} {d mi pc u0 : Nat} {ls : List (Option mj_V)} {st : List mj_V} {G : mj_G} (hJ : iv_J u0 G) (h : mj_X d mi pc ls st G (fun o G1 => cx_V (fun r G' => iv_J u0 G' → K r G') o G1)) : mj_X d mi pc ls st G (fun o G1 => cx_V K o G1) := iv_X h hJ (fun o G' hQ hJ' => ⟨hQ.1, hQ.2.elim (fun ⟨e, k⟩ => Or.inl ⟨e, k hJ'⟩) (fun ⟨v, e, k⟩ => Or.inr ⟨v, e, k hJ'⟩)⟩)
section ZZZ
variable {s : lst} {ρ ρ' : Nat → Nat} {G G1 G' : mj_G} {f f' : mm_F} {W S1 R1 P : Nat → Prop} {n c x l a : Nat} {w z : Nat → Nat} {d : Nat} {D : Nat → rv} {I : Nat → Nat → rv} {v : rv} {it : Nat → rv}
/-- a new Value, empty -/
def nv (G G' : mj_G) : Prop := cs_S G' ∧ fn_F G G' ∧ mj_n G' = mj_n G + 2 ∧ mj_u G' = mj_u G + 8 ∧ mj_k G' (mj_n G) = 12 ∧ mj_i G' (mj_n G) 0 = nI 1 ∧ mj_i G' (mj_n G) 2 = nI 0 ∧ mj_r G' (mj_n G) 3 = 2 ∧ mj_r G' (mj_n G) 5 = mj_n G + 1 ∧ mj_k G' (mj_n G + 1) = 41 ∧ mj_l G' (mj_n G + 1) = 0
theorem c_newV {K : mj_G → Prop} (hS : cs_S G) (hK : ∀ G', nv G G' → K G') : ∀ G1, G1 = mj_al G 12 8 (fun _ => 0) → Va_init d (mj_n G) G1 K := by
  have hG : 1768 ≤ mj_n G := hS.1
  rintro _ rfl
  have hS1 : cs_S (mj_al G 12 8 (fun _ => 0)) := cs_al hS
  refine w_Va_init hS1 ⟨by rw [z_kAs]; decide, z_kAs, ?_⟩
  intro G3 e3 G4 e4 G5 e5
  have k5 : ∀ b, mj_k G5 b = if b = mj_n G + 1 then 41 else if b = mj_n G then 12 else mj_k G b := fun b => by rw [e5, e4, e3]; rfl
  have n4 : mj_n G4 = mj_n G + 1 := by rw [e4, e3]; rfl
  refine ⟨by rw [k5, if_neg (by omega), if_pos rfl], ?_⟩
  intro G7 e7 G8 e8 G9 e9
  have k9 : ∀ b, mj_k G9 b = mj_k G5 b := fun b => by rw [e9, e8, e7]; rfl
  have l9 : ∀ b, mj_l G9 b = if b = mj_n G + 1 then 0 else if b = mj_n G then 8 else mj_l G b := fun b => by rw [e9, e8, e7, e5, e4, e3]; rfl
  have F3 : fn_F G G3 := by rw [e3]; exact fn_I fn_al (Nat.le_refl _)
  have F4 : fn_F G G4 := by rw [e4]; exact fn_R F3 (Nat.le_refl _)
  have F5 : fn_F G G5 := by rw [e5]; exact fn_A F4
  have F7 : fn_F G G7 := by rw [e7]; exact fn_R F5 (Nat.le_refl _)
  have F8 : fn_F G G8 := by rw [e8]; exact fn_I F7 (Nat.le_refl _)
  have F9 : fn_F G G9 := by rw [e9]; exact fn_R F8 (Nat.le_refl _)
  have ne : mj_n G ≠ mj_n G4 := by omega
  refine hK G9 ⟨?_, F9, ?_, ?_, ?_, ?_, ?_, ?_, ?_, ?_, ?_⟩
  · rw [e9, e8, e7, e5, e4, e3]
    exact cs_pRg (cs_pI (cs_pRg (cs_al (cs_pRg (cs_pI hS1) hG)) hG)) hG
  · rw [e9, e8, e7, e5, e4, e3]; rfl
  · rw [e9, e8, e7, e5, e4, e3]; rfl
  · rw [k9, k5, if_neg (by omega), if_pos rfl]
  · rw [e9, z_iRa, e8, z_iIm (by decide), e7, z_iRa, e5, z_iAn ne, e4, z_iRa, e3, z_iIs]
  · rw [e9, z_iRa, e8, z_iIm (by decide), e7, z_iRa, e5, z_iAn ne, e4, z_iRa, e3, z_iIm (by decide), z_iAs]; rfl
  · rw [e9, z_rRm (by decide), e8, z_rIa, e7, z_rRm (by decide), e5, z_rAn ne, e4, z_rRs]
  · rw [e9, z_rRm (by decide), e8, z_rIa, e7, z_rRs, n4]
  · rw [k9, k5, if_pos rfl]
  · rw [l9, if_pos rfl]
/-- the data of the state -/
theorem da_u (h : da D I) (hv : rv_ok v) (h3 : rv_t v = 3 → rv_d v = l ∧ ∀ k, k < rv_l v → rv_ok (it k) ∧ (rv_t (it k) = 1 ∨ (rv_t (it k) = 2 ∧ rv_s (it k) = false ∧ rv_l (it k) ≤ 40))) : da (g_u D l v) (g_u I l it) := fun m hm => by
  by_cases q : m = l
  · subst q
    rw [g_us, g_us]
    exact ⟨hv, h3⟩
  · rw [g_un q, g_un q]
    exact h m hm
/-- other data and typed text -/
def ls_v (s : lst) (l : Nat) (v : rv) (it : Nat → rv) (n : Nat) (w : Nat → Nat) : lst := ls_z (ls_d s (g_u (u_D (ls_u s)) l v) (g_u (u_I (ls_u s)) l it)) n w (ls_k s)
theorem LQ_v (h : LQ s) (hv : rv_ok v) (h3 : rv_t v = 3 → rv_d v = l ∧ ∀ k, k < rv_l v → rv_ok (it k) ∧ (rv_t (it k) = 1 ∨ (rv_t (it k) = 2 ∧ rv_s (it k) = false ∧ rv_l (it k) ≤ 40))) (hW : tx_W w n) : LQ (ls_v s l v it n w) := by
  obtain ⟨⟨h1, h2⟩, h4, h5⟩ := h
  exact ⟨⟨da_u h1 hv h3, h2⟩, hW, h5⟩
/-- the model's data at a letter -/
def ml (f : mm_F) (l : Nat) (v : rv) (it : Nat → rv) : Prop := rv_ok v ∧ f 1720 l = nI (rv_t v) ∧ (rv_t v = 1 → f 1721 l = rv_n v) ∧ (2 ≤ rv_t v → f 1722 l = nI (rv_l v)) ∧ (rv_t v = 2 → rv_s v = false ∧ rv_l v ≤ 40 ∧ ∀ j, j < rv_l v → f 1723 (40 * l + j) = nI (rv_c v j)) ∧
  (rv_t v = 3 → rv_d v = l ∧ ∀ k, k < rv_l v → rv_ok (it k) ∧ f 1724 (8 * l + k) = nI (rv_t (it k)) ∧ (rv_t (it k) = 1 ∨ (rv_t (it k) = 2 ∧ rv_s (it k) = false ∧ rv_l (it k) ≤ 40)) ∧ (rv_t (it k) = 1 → f 1725 (8 * l + k) = rv_n (it k)) ∧ (rv_t (it k) = 2 → f 1726 (8 * l + k) = nI (rv_l (it k)) ∧ ∀ j, j < rv_l (it k) → f 1727 (40 * (8 * l + k) + j) = nI (rv_c (it k) j)))
theorem ml_of (h : md f D I) (hl : l < 26) : ml f l (D l) (I l) := h l hl
/-- the model's data at another letter stay -/
theorem ml_f (h : ml f l v it) (h0 : ∀ a, 1720 ≤ a → a ≤ 1722 → f' a l = f a l) (h1 : ∀ j, j < 40 → f' 1723 (40 * l + j) = f 1723 (40 * l + j)) (h2 : ∀ k, k < 8 → (∀ a, 1724 ≤ a → a ≤ 1726 → f' a (8 * l + k) = f a (8 * l + k)) ∧ ∀ j, j < 40 → f' 1727 (40 * (8 * l + k) + j) = f 1727 (40 * (8 * l + k) + j)) : ml f' l v it := by
  obtain ⟨a1, a2, a3, a4, a5, a6⟩ := h
  refine ⟨a1, (h0 _ (by decide) (by decide)).trans a2, fun q => (h0 _ (by decide) (by decide)).trans (a3 q), fun q => (h0 _ (by decide) (by decide)).trans (a4 q), fun q => ?_, fun q => ?_⟩
  · obtain ⟨b1, b2, b3⟩ := a5 q
    exact ⟨b1, b2, fun j hj => (h1 j (by omega)).trans (b3 j hj)⟩
  · obtain ⟨b1, b2⟩ := a6 q
    refine ⟨b1, fun k hk => ?_⟩
    have := (a1.2.2.2.2 q).1
    obtain ⟨c1, c2, c3, c4, c5⟩ := b2 k hk
    obtain ⟨e1, e2⟩ := h2 k (by omega)
    refine ⟨c1, (e1 _ (by decide) (by decide)).trans c2, c3, fun t => (e1 _ (by decide) (by decide)).trans (c4 t), fun t => ?_⟩
    obtain ⟨y1, y2⟩ := c5 t
    exact ⟨(e1 _ (by decide) (by decide)).trans y1, fun j hj => (e2 j (by omega)).trans (y2 j hj)⟩
theorem md_u (h : md f D I) (hv : ml f' l v it) (h0 : ∀ m, m < 26 → m ≠ l → (∀ a, 1720 ≤ a → a ≤ 1722 → f' a m = f a m) ∧ (∀ j, j < 40 → f' 1723 (40 * m + j) = f 1723 (40 * m + j)) ∧ ∀ k, k < 8 → (∀ a, 1724 ≤ a → a ≤ 1726 → f' a (8 * m + k) = f a (8 * m + k)) ∧ ∀ j, j < 40 → f' 1727 (40 * (8 * m + k) + j) = f 1727 (40 * (8 * m + k) + j)) : md f' (g_u D l v) (g_u I l it) := fun m hm => by
  by_cases q : m = l
  · subst q
    rw [g_us, g_us]
    exact hv
  · rw [g_un q, g_un q]
    obtain ⟨b1, b2, b3⟩ := h0 m hm q
    exact ml_f (ml_of h hm) b1 b2 b3
/-- the model with new data -/
def R_d (a : Nat) : Prop := a = 1715 ∨ (1720 ≤ a ∧ a ≤ 1727)
theorem LM_v (h : LM s f) (F : mw P S1 R_d f f') (hS : ∀ j, S1 j → j = 0 ∨ j = 2) (hT : pt_T f' w n) (hv : ml f' l v it) (h0 : ∀ m, m < 26 → m ≠ l → (∀ a, 1720 ≤ a → a ≤ 1722 → f' a m = f a m) ∧ (∀ j, j < 40 → f' 1723 (40 * m + j) = f 1723 (40 * m + j)) ∧ ∀ k, k < 8 → (∀ a, 1724 ≤ a → a ≤ 1726 → f' a (8 * m + k) = f a (8 * m + k)) ∧ ∀ j, j < 40 → f' 1727 (40 * (8 * m + k) + j) = f 1727 (40 * (8 * m + k) + j)) : LM (ls_v s l v it n w) f' := by
  obtain ⟨⟨w1, w2, w3, w4⟩, h2, h3, h4, h5, h6⟩ := h
  have nr : ∀ a, R_d a → a = 1715 ∨ (1720 ≤ a ∧ a ≤ 1727) := fun a q => q
  refine ⟨⟨tL_f w1 F ⟨by unfold R_d; decide, by unfold R_d; decide⟩, mfo_f w2 F ⟨by unfold R_d; decide, by unfold R_d; decide⟩, md_u w3 hv h0, (F.2.1 67 (fun q => by have := hS _ q; omega)).trans w4⟩, fgM_f h2 F (fun a q => by have := nr a q; omega), zO_f h3 F (fun j q => by have := hS j q; omega) (fun a q => by have := nr a q; omega), ⟨(F.2.1 68 (fun q => by have := hS _ q; omega)).trans h4.1, (F.2.1 69 (fun q => by have := hS _ q; omega)).trans h4.2⟩, hT, fun i hi => (F.1 1763 i (by decide) (by decide) (fun q => by have := nr _ q; omega)).trans (h6 i hi)⟩
/-- the class's new data: a Value that was made now -/
theorem c_dat {K : mj_G → Prop} {G0 : mj_G} {cc e : Nat} (h : LC s ρ G0) (hJ : iv_J (mj_u G0) G) (F : fn_F G0 G) (hS : cs_S G) (hn : mj_n G ≤ mj_n G0 + cc) (hu : mj_u G ≤ mj_u G0 + e) (hc : cc ≤ 999) (he : e ≤ 9999) (hl : l < 26) (he' : ro_e ρ ρ' G0) (hv : dv ρ' G a l v it) (hK : ∀ G', LC (ls_v s l v it (ls_n s) (ls_w s)) ρ' G' → yF G0 G' → mj_k G' = mj_k G → mj_i G' = mj_i G → G' = mj_pR G 12 l a → K G') : K (mj_pR G 12 l a) := by
  have h1 := LC_ext h F hS (iv_end hJ (by omega)) he'
  obtain ⟨a1, a2⟩ := LC_dat h1 hl hv
  exact hK _ a1 (yR_F (yR_t (yR_ext h F hn hu) a2) (by omega) (by omega)) rfl rfl rfl
end ZZZ
