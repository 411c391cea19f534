/-! FORMS AND TEMPLATES TOLD ANEW, FRAGMENTS FORGOTTEN -/
/-- references that a form (a), a template's place (t) or a fragment hold -/
def gW3 (a t c j : Nat) : Prop := (c = a ∧ j = 3) ∨ (c = 7 ∧ j = t) ∨ (1597 ≤ c ∧ c ≤ 1669 ∧ j = 0 ∧ (c - 1597) % 8 = 0)
def g3 (a t : Nat) (G G' : mj_G) : Prop := mj_n G ≤ mj_n G' ∧ ∀ c, c < mj_n G → mj_k G' c = mj_k G c ∧ mj_l G' c = mj_l G c ∧ (∀ j, ¬ gW3 a t c j → mj_r G' c j = mj_r G c j) ∧ (c ≠ a → c ≠ 3 → ∀ j, mj_i G' c j = mj_i G c j)
/-- a form's cell, or none -/
def gA (a : Nat) : Prop := a = 3 ∨ ∃ j, j < 20 ∧ a = 1674 + 2 * j
/-- nothing kept -/
def kf0 (F : Nat → kfr) : Nat → kfr := fun i => (false, (F i).2)
section ZZZA
variable {s : lst} {ρ ρ' : Nat → Nat} {G G1 G' Gm Gz : mj_G} {f f' : mm_F} {a t n l m c : Nat} {w : Nat → Nat} {d : Nat} {D : Nat → rv} {I : Nat → Nat → rv} {v : rv} {P Q : Nat → Prop}
theorem gA_o (h : gA a) : a = 3 ∨ (1674 ≤ a ∧ a ≤ 1713) := by
  rcases h with q | ⟨j, hj, q⟩ <;> omega
theorem g3_fn (h : fn_F G G') : g3 a t G G' := ⟨h.1, fun c hc => ⟨(h.2 c hc).1, (h.2 c hc).2.1, fun j _ => (h.2 c hc).2.2.1 j, fun _ _ => (h.2 c hc).2.2.2⟩⟩
theorem g3_t (h1 : g3 a t G G1) (h2 : g3 a t G1 G') : g3 a t G G' := ⟨Nat.le_trans h1.1 h2.1, fun c hc => by
  obtain ⟨a1, a2, a3, a4⟩ := h1.2 c hc
  obtain ⟨b1, b2, b3, b4⟩ := h2.2 c (Nat.lt_of_lt_of_le hc h1.1)
  exact ⟨b1.trans a1, b2.trans a2, fun j q => (b3 j q).trans (a3 j q), fun q1 q2 j => (b4 q1 q2 j).trans (a4 q1 q2 j)⟩⟩
theorem g3_I {b j : Nat} {x : Int32} (h : b = a ∨ b = 3) : g3 a t G (mj_pI G b j x) := ⟨Nat.le_refl _, fun c _ => ⟨rfl, rfl, fun _ _ => rfl, fun q1 q2 _ => z_iIn (by omega)⟩⟩
theorem g3_R {b j x : Nat} (h : gW3 a t b j) : g3 a t G (mj_pR G b j x) := ⟨Nat.le_refl _, fun c _ => ⟨rfl, rfl, fun k q => if_neg (fun e => q (by rw [e.1, e.2]; exact h)), fun _ _ _ => rfl⟩⟩
theorem gW_o (ha : a = 3 ∨ (1674 ≤ a ∧ a ≤ 1713)) {j : Nat} (h : gW3 a t c j) : (c = 3 ∧ j = 3) ∨ (1674 ≤ c ∧ c ≤ 1713 ∧ j = 3 ∧ c = a) ∨ (c = 7 ∧ j = t) ∨ (1597 ≤ c ∧ c ≤ 1669 ∧ j = 0 ∧ (c - 1597) % 8 = 0) := by
  unfold gW3 at h
  omega
theorem pw_g3 {x y : Nat} (ho : ho ρ G) (hG : 1768 ≤ mj_n G) (ha : gA a) (F : g3 a t G G') : pw x y G' = pw x y G := by
  have ha' := gA_o ha
  refine pw_c (fun i hi => (F.2 _ (by omega)).2.2.1 7 (fun q => by have := gW_o ha' q; omega)) (fun i hi => (F.2 _ (by omega)).2.2.1 7 (fun q => by have := gW_o ha' q; omega)) (fun i hi => (F.2 _ (by omega)).2.2.1 18 (fun q => by have := gW_o ha' q; omega)) (fun i hi => ⟨?_, fun h0 => ?_⟩)
  · have := fg_al hi
    exact (F.2 _ (by omega)).2.2.1 _ (fun q => by have := gW_o ha' q; omega)
  · rcases ho.2.2.2.1 i hi with q | q
    · exact absurd q h0
    · exact (F.2 _ q.2.1).2.2.1 7 (fun q' => by have := gW_o ha' q'; have := q.1; omega)
theorem yR_g3 {cc e : Nat} (h : LC s ρ G) (ha : gA a) (F : g3 a t G G') (hn : mj_n G' ≤ mj_n G + cc) (hu : mj_u G' ≤ mj_u G + e) : yR cc e G G' := by
  have hG := hh_n h.1
  have ha' := gA_o ha
  refine ⟨fun c hc => ⟨(F.2 c hc).1, (F.2 c hc).2.1⟩, fun c j h1 h2 => ⟨(F.2 c (by omega)).2.2.2 (by omega) (by omega) j, (F.2 c (by omega)).2.2.1 j (fun q => by have := gW_o ha' q; omega)⟩, F.1, ?_, ?_⟩
  · rw [pw_g3 h.1.2.1 hG ha F]; omega
  · rw [pw_g3 h.1.2.1 hG ha F]; omega
/-- cells that keep what they hold, by their kinds -/
theorem g3_k (hS : cs_S G) (ha : gA a) (F : g3 a t G G') (hc : c < mj_n G) (hk : (mj_k G c = 12 ∧ ¬ (1674 ≤ c ∧ c ≤ 1713)) ∨ mj_k G c = 41 ∨ mj_k G c = 22 ∨ tp_C c ∨ c = 12 ∨ (1589 ≤ c ∧ c ≤ 1593) ∨ c = 6 ∨ c = 5 ∨ c = 4) : (∀ j, mj_r G' c j = mj_r G c j) ∧ ∀ j, mj_i G' c j = mj_i G c j := by
  have k3 : mj_k G 3 = 13 := cs_k hS rfl
  have k7 : mj_k G 7 = 40 := cs_k hS rfl
  have kF : 1597 ≤ c → c ≤ 1669 → (c - 1597) % 8 = 0 → mj_k G c = 4 := fun q1 q2 q3 => by
    have := cs_g9 (n := (c - 1597) / 8) hS (by omega)
    rw [show 1597 + 8 * ((c - 1597) / 8) = c by omega] at this
    exact this
  have ka : c = a → c = 3 ∨ (mj_k G c = 12 ∧ 1674 ≤ c ∧ c ≤ 1713) := fun e => by
    rcases ha with q | ⟨j, hj, q⟩
    · exact Or.inl (e.trans q)
    · right
      have := cs_g8 (n := j) hS hj
      rw [← q, ← e] at this
      exact ⟨this, by omega, by omega⟩
  have ha' := gA_o ha
  have n3 : c ≠ 3 := fun e => by
    rw [e] at hk
    unfold tp_C at hk
    omega
  have n7 : c ≠ 7 := fun e => by
    rw [e] at hk
    unfold tp_C at hk
    omega
  have nF : ¬ (1597 ≤ c ∧ c ≤ 1669 ∧ (c - 1597) % 8 = 0) := fun e => by
    have := kF e.1 e.2.1 e.2.2
    unfold tp_C at hk
    omega
  have na : c ≠ a := fun e => by
    rcases ka e with q | ⟨q1, q2, q3⟩
    · exact n3 q
    · unfold tp_C at hk
      omega
  exact ⟨fun j => (F.2 c hc).2.2.1 j (fun q => by unfold gW3 at q; omega), (F.2 c hc).2.2.2 na n3⟩
/-- the data's part -/
theorem hh_g3 (h : LC s ρ G) (ha : gA a) (F : g3 a t G G') (hS : cs_S G') (hB : hb G') (he : ro_e ρ ρ' G) : hh ρ' (u_D (ls_u s)) (u_I (ls_u s)) G' ∧ ∀ l, l < 26 → ¬ (1674 ≤ mj_r G' 12 l ∧ mj_r G' 12 l ≤ 1713) ∧ (rv_t (u_D (ls_u s) l) = 3 → ∀ k, k < rv_l (u_D (ls_u s) l) → ¬ (1674 ≤ mj_r G' (ir G' l) k ∧ mj_r G' (ir G' l) k ≤ 1713)) := by
  have hG := hh_n h.1
  have hS0 := h.1.1
  have ha' := gA_o ha
  have e12 : ∀ l, mj_r G' 12 l = mj_r G 12 l := (g3_k hS0 ha F (c := 12) (by omega) (by omega)).1
  have irE : ∀ m, m < 26 → ir G' m = ir G m := fun m hm => by
    obtain ⟨a1, a2, a3, -⟩ := h.1.2.2.2 m hm
    unfold ir
    rw [e12]
    exact (g3_k hS0 ha F a2 (Or.inl ⟨a3.1, (h.2.1.2.2 m hm).1⟩)).1 5
  have cvk : ∀ {c : Nat} {v : rv}, c < mj_n G → ¬ (1674 ≤ c ∧ c ≤ 1713) → rv_ok v → cv (imm ρ) G c v → cv (imm ρ') G' c v := fun {c v} hc hf ok hv => by
    obtain ⟨k1, k2⟩ := g3_k hS0 ha F hc (Or.inl ⟨hv.1, hf⟩)
    refine cv_st hv F.1 (F.2 c hc).1 k2 k1 (fun q => ?_) (fun x hx q => by rw [imm_e he hx]; exact q) (fun q => irE _ (ok.2.2.2.2 q).2)
    obtain ⟨-, -, b3, -, b5, b6, -⟩ := hv.2.2.2.2.1 q
    exact ⟨(F.2 _ b5).1, (F.2 _ b5).2.1, (g3_k hS0 ha F b5 (Or.inr (Or.inr (Or.inl b6)))).2⟩
  have hdc : dcx ρ' G' (u_D (ls_u s)) (u_I (ls_u s)) := fun l hl => by
    obtain ⟨a1, a2, a3, a4, a5⟩ := h.1.2.2.2 l hl
    obtain ⟨y1, y2⟩ := h.2.1.2.2 l hl
    rw [e12, irE l hl]
    refine ⟨by rw [imm_e he a2]; exact a1, Nat.lt_of_lt_of_le a2 F.1, cvk a2 y1 a4 a3, a4, fun q => ?_⟩
    obtain ⟨b1, b2, b3, b4, b5, b6⟩ := a5 q
    refine ⟨b1, by rw [imm_e he b3]; exact b2, Nat.lt_of_lt_of_le b3 F.1, (F.2 _ b3).1.trans b4, (F.2 _ b3).2.1.trans b5, fun k hk => ?_⟩
    obtain ⟨x1, x2, x3, x4, x5⟩ := b6 k hk
    rw [(g3_k hS0 ha F b3 (Or.inr (Or.inl b4))).1 k]
    exact ⟨by rw [imm_e he x2]; exact x1, Nat.lt_of_lt_of_le x2 F.1, cvk x2 (y2 q k hk) x4 x3, x4, x5⟩
  refine ⟨⟨hS, ho_t h.1.2.1 F.1 he (fun c hc => ⟨(F.2 c hc).1, (F.2 c hc).2.1⟩) hG (fun c i hc hl => (F.2 c hc).2.2.1 i (fun q => by have := gW_o ha' q; unfold lz at hl; omega)), hB, hdc⟩, fun l hl => ?_⟩
  obtain ⟨a1, a2, a3, a4, a5⟩ := h.1.2.2.2 l hl
  obtain ⟨y1, y2⟩ := h.2.1.2.2 l hl
  rw [e12, irE l hl]
  refine ⟨y1, fun q k hk => ?_⟩
  obtain ⟨b1, b2, b3, b4, -⟩ := a5 q
  rw [(g3_k hS0 ha F b3 (Or.inr (Or.inl b4))).1 k]
  exact y2 q k hk
/-- the output's part, the budget's, the shapes' -/
theorem yO_g3 {o : ost} {nb : Nat} {cb : Nat → Nat} (hS : cs_S G) (ha : gA a) (F : g3 a t G G') (h : yO G o nb cb) : yO G' o nb cb := by
  have hG := hS.1
  have e : ∀ c, 1589 ≤ c → c ≤ 1593 → (∀ j, mj_r G' c j = mj_r G c j) ∧ ∀ j, mj_i G' c j = mj_i G c j := fun c q1 q2 => g3_k hS ha F (by omega) (by omega)
  obtain ⟨⟨k1, k2, k3, k4, k5, k6⟩, h2, h3, h4, h5⟩ := h
  have r0 := (e 1589 (by decide) (by decide)).1 0
  have r2 := (e 1589 (by decide) (by decide)).1 2
  have i9 := (e 1589 (by decide) (by decide)).2
  refine ⟨⟨k1, by rw [r0]; exact k2, (i9 1).trans k3, (i9 5).trans k4, fun i hi => ?_, fun i hi => ((e 1592 (by decide) (by decide)).2 i).trans (k6 i hi)⟩, by rw [r2]; exact h2, by rw [r2, r0]; exact h3, (i9 3).trans h4, fun i hi => ?_⟩
  · rw [r0]
    exact ((e _ (by omega) (by omega)).2 i).trans (k5 i hi)
  · rw [r2]
    exact ((e _ (by omega) (by omega)).2 i).trans (h5 i hi)
theorem yB_g3 {bu st hts : Nat} (hS : cs_S G) (ha : gA a) (F : g3 a t G G') (h : yB G bu st hts) : yB G' bu st hts := by
  have e := (g3_k hS ha F (c := 6) (by have := hS.1; omega) (by omega)).2
  exact ⟨(e 6).trans h.1, (e 7).trans h.2.1, (e 8).trans h.2.2⟩
theorem yS_g3 {z : Nat → Nat} (hS : cs_S G) (ha : gA a) (F : g3 a t G G') (h : yS G z) : yS G' z := fun i hi => ((g3_k hS ha F (c := 5) (by have := hS.1; omega) (by omega)).2 i).trans (h i hi)
/-- fragments forgotten -/
theorem c_forget {K : mj_G → Prop} (hS : cs_S G) (hK : ∀ G', cs_S G' → (∀ a t, g3 a t G G') → mj_n G' = mj_n G → mj_u G' = mj_u G → (∀ i, i < 10 → mj_r G' (1597 + 8 * i) 0 = 0) → (∀ c j, mj_i G' c j = mj_i G c j) → (∀ c, mj_k G' c = mj_k G c ∧ mj_l G' c = mj_l G c) → (∀ c j, ¬ (1597 ≤ c ∧ c ≤ 1669 ∧ j = 0 ∧ (c - 1597) % 8 = 0) → mj_r G' c j = mj_r G c j) → K G') : Rn_forgetFragments d G K := by
  refine w_Rn_forgetFragments hS ?_
  have go : ∀ m i H, i + m = 10 → cs_S H → (∀ a t, g3 a t G H) → mj_n H = mj_n G → mj_u H = mj_u G → (∀ j, j < i → mj_r H (1597 + 8 * j) 0 = 0) → (∀ c j, mj_i H c j = mj_i G c j) → (∀ c, mj_k H c = mj_k G c ∧ mj_l H c = mj_l G c) → (∀ c j, ¬ (1597 ≤ c ∧ c ≤ 1669 ∧ j = 0 ∧ (c - 1597) % 8 = 0) → mj_r H c j = mj_r G c j) → Rn_forgetFragments_2 d (nI i) H K := fun m => by
    induction m with
    | zero =>
      intro i H hi sH F n1 u1 z1 i1 k1 r1
      have hi' : i = 10 := by omega
      subst hi'
      exact w_Rn_forgetFragments_2 sH (z_bt (by rw [z_le (by decide) (by decide)]; exact Nat.le_refl _) (hK H sH F n1 u1 z1 i1 k1 r1))
    | succ m ih =>
      intro i H hi sH F n1 u1 z1 i1 k1 r1
      refine w_Rn_forgetFragments_2 sH (z_bf (by rw [z_le (by decide) (by omega)]; omega) (z_ixi (by omega) (by decide) ?_))
      rintro _ rfl
      rw [z_add]
      refine ih (i + 1) _ (by omega) (cs_pR (K := 4) sH (cs_g9 sH (by omega)) rfl) (fun a t => g3_t (F a t) (g3_R (by unfold gW3; omega))) n1 u1 (fun j hj => ?_) i1 k1 (fun c j q => (if_neg (fun e => q (by omega))).trans (r1 c j q))
      by_cases q : j = i
      · rw [q]; exact z_rRs
      · rw [z_rRn (by omega)]; exact z1 j (by omega)
  exact go 10 0 G rfl hS (fun a t => ⟨Nat.le_refl _, fun _ _ => ⟨rfl, rfl, fun _ _ => rfl, fun _ _ _ => rfl⟩⟩) rfl rfl (fun j hj => absurd hj (Nat.not_lt_zero j)) (fun _ _ => rfl) (fun _ => ⟨rfl, rfl⟩) (fun _ _ _ => rfl)
theorem fgC_0 {u : wo} {F : Nat → kfr} (h : ∀ i, i < 10 → mj_r G (1597 + 8 * i) 0 = 0) : fgC u ρ G (kf0 F) := fun i hi => ⟨⟨fun _ => h i hi, fun q => absurd q (show ¬ false = true by decide)⟩, fun q => absurd q (show ¬ false = true by decide)⟩
theorem fgM_0 {F : Nat → kfr} (h : ∀ i, i < 10 → f 1749 i = nI 0) : fgM f (kf0 F) := fun i hi => ⟨fun _ => h i hi, fun q => absurd q (show ¬ false = true by decide)⟩
theorem p_forget {K : mm_F → Prop} (hM : mm_S Gm) (hK : ∀ f', (∀ b k, b ≠ 1749 → f' b k = f b k) → (∀ i, i < 10 → f' 1749 i = nI 0) → K f') : m_forgets Gm d f K := by
  refine w_m_forgets hM ?_
  have go : ∀ m i f1, i + m = 10 → (∀ b k, b ≠ 1749 → f1 b k = f b k) → (∀ j, j < i → f1 1749 j = nI 0) → m_forgets_2 Gm d (nI i) f1 K := fun m => by
    induction m with
    | zero =>
      intro i f1 hi F z1
      have hi' : i = 10 := by omega
      subst hi'
      exact w_m_forgets_2 hM (z_bt (by rw [z_le (by decide) (by decide)]; exact Nat.le_refl _) (hK f1 F z1))
    | succ m ih =>
      intro i f1 hi F z1
      refine w_m_forgets_2 hM (z_bf (by rw [z_le (by decide) (by omega)]; omega) (z_ixi (by omega) (by decide) ?_))
      rw [z_add]
      refine ih (i + 1) _ (by omega) (fun b k q => (z_u2n q).trans (F b k q)) (fun j hj => ?_)
      by_cases q : j = i
      · rw [q]; exact z_u2s
      · exact (z_u2m q).trans (z1 j (by omega))
  exact go 10 0 f rfl (fun _ _ _ => rfl) (fun j hj => absurd hj (Nat.not_lt_zero j))
end ZZZA
