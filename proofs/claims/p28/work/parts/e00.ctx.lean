/-! WHERE OUTPUT LEADS -/
/-- the context at the end -/
def cx (o : ost) : Nat := o_x o (o_n o)
/-- each context follows from the one ahead and the character between -/
def OX (o : ost) : Prop := o_x o 0 < 8 ∧ ∀ i, i < o_n o → o_c o i % 128 < 128 ∧ o_x o (i + 1) = ld (o_x o i) (o_c o i % 128)
theorem ld_dg_all : ((List.range 8).all fun a => (List.range 128).all fun b => !(Nat.beq b 45 || (Nat.ble 48 b && Nat.ble b 57) || Nat.beq b 32 || Nat.beq b 44) || Nat.beq (ld a b) (if a = 1 then 2 else a)) = true := by decide +kernel
theorem ld_es_all : ((List.range 8).all fun a => (List.range 127).all fun c => (List.range 3).all fun j => Nat.beq a 1 || Nat.blt c 32 || Nat.ble (es_k a c) j || (Nat.beq (ld a (es_h a c j)) a && Nat.blt (es_h a c j) 128)) = true := by decide +kernel
theorem ld_8_all : ((List.range 8).all fun a => (List.range 128).all fun b => Nat.blt (ld a b) 8) = true := by decide +kernel
theorem es_k_all : ((List.range 8).all fun a => (List.range 128).all fun c => Nat.ble (es_k a c) 3) = true := by decide +kernel
section E00
variable {a b c j : Nat} {o : ost}
theorem ld_dg (ha : a < 8) (hb : b = 45 ∨ (48 ≤ b ∧ b ≤ 57) ∨ b = 32 ∨ b = 44) : ld a b = if a = 1 then 2 else a := by
  have h := List.all_eq_true.mp (List.all_eq_true.mp ld_dg_all a (List.mem_range.mpr ha)) b (List.mem_range.mpr (by omega))
  simp only [Bool.or_eq_true, Bool.not_eq_true', Bool.or_eq_false_iff, Bool.and_eq_false_iff, Nat.beq_eq_true_eq] at h
  rcases h with ⟨⟨⟨h1, h2⟩, h3⟩, h4⟩ | h
  · exfalso
    have e4 : b ≠ 44 := fun q => by rw [q] at h4; exact absurd h4 (by decide)
    have e1 : b ≠ 45 := fun q => by rw [q] at h1; exact absurd h1 (by decide)
    have e3 : b ≠ 32 := fun q => by rw [q] at h3; exact absurd h3 (by decide)
    have hb' : 48 ≤ b ∧ b ≤ 57 := by omega
    rcases h2 with h2 | h2
    · rw [Nat.ble_eq_true_of_le hb'.1] at h2
      exact absurd h2 (by decide)
    · rw [Nat.ble_eq_true_of_le hb'.2] at h2
      exact absurd h2 (by decide)
  · exact Nat.eq_of_beq_eq_true h
theorem ld_8 (ha : a < 8) (hb : b < 128) : ld a b < 8 := by
  have h := List.all_eq_true.mp (List.all_eq_true.mp ld_8_all a (List.mem_range.mpr ha)) b (List.mem_range.mpr hb)
  exact Nat.blt_eq.mp h
theorem es_k3 (ha : a < 8) (hc : c < 128) : es_k a c ≤ 3 := by
  have h := List.all_eq_true.mp (List.all_eq_true.mp es_k_all a (List.mem_range.mpr ha)) c (List.mem_range.mpr hc)
  exact Nat.le_of_ble_eq_true h
theorem ld_es (ha : a < 8) (h1 : a ≠ 1) (hc : 32 ≤ c ∧ c ≤ 126) (hj : j < es_k a c) : ld a (es_h a c j) = a ∧ es_h a c j < 128 := by
  have hj3 := es_k3 ha (c := c) (by omega)
  have h := List.all_eq_true.mp (List.all_eq_true.mp (List.all_eq_true.mp ld_es_all a (List.mem_range.mpr ha)) c (List.mem_range.mpr (by omega))) j (List.mem_range.mpr (by omega))
  simp only [Bool.or_eq_true, Bool.and_eq_true, Nat.beq_eq_true_eq] at h
  rcases h with ((h | h) | h) | h
  · exact absurd (Nat.eq_of_beq_eq_true h) h1
  · exact absurd (Nat.blt_eq.mp h) (by omega)
  · exact absurd (Nat.le_of_ble_eq_true h) (by omega)
  · exact ⟨Nat.eq_of_beq_eq_true h.1, Nat.blt_eq.mp h.2⟩
theorem OX_p {z : Nat} (h : OX o) : OX (o_p o z) := by
  refine ⟨?_, fun i hi => ?_⟩
  · show (if 0 = o_n o + 1 then ld (o_x o (o_n o)) (z % 128) else o_x o 0) < 8
    rw [if_neg (by omega)]
    exact h.1
  · have hi' : i < o_n o + 1 := hi
    refine ⟨Nat.mod_lt _ (by decide), ?_⟩
    show (if i + 1 = o_n o + 1 then ld (o_x o (o_n o)) (z % 128) else o_x o (i + 1)) = ld (if i = o_n o + 1 then ld (o_x o (o_n o)) (z % 128) else o_x o i) ((if i = o_n o then z else o_c o i) % 128)
    by_cases q : i = o_n o
    · rw [if_pos (by omega), if_neg (by omega), if_pos q, q]
    · rw [if_neg (by omega), if_neg (by omega), if_neg q]
      exact (h.2 i (by omega)).2
theorem OX_8 (h : OX o) : ∀ i, i ≤ o_n o → o_x o i < 8 := fun i => by
  induction i with
  | zero => intro _; exact h.1
  | succ i ih =>
    intro hi
    obtain ⟨h1, h2⟩ := h.2 i (by omega)
    rw [h2]
    exact ld_8 (ih (by omega)) h1
theorem OX_pc {C : Nat → Nat} : ∀ {m i : Nat} {o : ost}, OX o → OX (o_pc C m i o).2
  | 0, _, _, h => h
  | m + 1, i, o, h => by
    by_cases q : o_n o = 300
    · rw [o_pc_f q]; exact h
    · rw [o_pc_s q]; exact OX_pc (OX_p h)
/-- characters that leave a context as it is -/
theorem xs_fix {C : Nat → Nat} {x : Nat} : ∀ {m i : Nat}, (∀ j, i ≤ j → j < i + m → ld x (C j % 128) = x) → xs C m i x = x
  | 0, _, _ => rfl
  | m + 1, i, h => by
    show xs C m (i + 1) (ld x (C i % 128)) = x
    rw [h i (Nat.le_refl i) (by omega)]
    exact xs_fix (fun j h1 h2 => h j (by omega) (by omega))
/-- digits: an opened tag gets its name -/
theorem xs_dg {C : Nat → Nat} {x m i : Nat} (hx : x < 8) (h : ∀ j, i ≤ j → j < i + m → C j % 128 = 45 ∨ (48 ≤ C j % 128 ∧ C j % 128 ≤ 57) ∨ C j % 128 = 32 ∨ C j % 128 = 44) : xs C m i x = x ∨ (x = 1 ∧ xs C m i x = 2) := by
  by_cases q : x = 1
  · subst q
    cases m with
    | zero => exact Or.inl rfl
    | succ m =>
      refine Or.inr ⟨rfl, ?_⟩
      show xs C m (i + 1) (ld 1 (C i % 128)) = 2
      rw [ld_dg (by decide) (h i (Nat.le_refl i) (by omega)), if_pos rfl]
      exact xs_fix (fun j h1 h2 => by rw [ld_dg (by decide) (h j (by omega) (by omega)), if_neg (by decide)])
  · exact Or.inl (xs_fix (fun j h1 h2 => by rw [ld_dg hx (h j h1 h2), if_neg q]))
theorem oc_S_m {c s : Nat} (hc : c < 128) : oc_S c s % 128 = c := by
  unfold oc_S
  omega
theorem oc_E_m {c o p s : Nat} (hc : c < 128) : oc_E c o p s % 128 = c := by
  unfold oc_E
  omega
theorem oc_L_m {c s : Nat} (hc : c < 128) : oc_L c s % 128 = c := by
  unfold oc_L
  omega
theorem dg_cd (x : Int32) (j : Nat) : dg_c x j = 45 ∨ (48 ≤ dg_c x j ∧ dg_c x j ≤ 57) := by
  unfold dg_c
  by_cases q : x < 0 ∧ j = 0
  · rw [if_pos q]; exact Or.inl rfl
  · rw [if_neg q]
    have := Nat.mod_lt (dg_r x / 10 ^ (dg_l x - 1 - j)) (by decide : 10 > 0)
    omega
/-- a text that is not safe leaves a context as it is -/
theorem o_es_x {s : Nat} {c : Nat → Nat} : ∀ {m i : Nat} {o : ost}, cx o < 8 → (∀ j, j < m → 32 ≤ c (i + j) ∧ c (i + j) ≤ 126) → (o_es s c m i o).1 = nI 0 → cx (o_es s c m i o).2 = cx o
  | 0, _, _, _, _, _ => rfl
  | m + 1, i, o, hx, hc, h => by
    have h0 := hc 0 (Nat.succ_pos m)
    rw [Nat.add_zero] at h0
    have e1 := o_e1_pc (s := s) (c := c i) (x := o_x o (o_n o)) (m := es_k (o_x o (o_n o)) (c i)) (i := 0) (o := o)
    unfold o_es at h ⊢
    by_cases q : (o_e1 s (c i) (o_x o (o_n o)) (es_k (o_x o (o_n o)) (c i)) 0 o).1 = nI 0
    · rw [if_pos q] at h ⊢
      have ex : cx (o_e1 s (c i) (o_x o (o_n o)) (es_k (o_x o (o_n o)) (c i)) 0 o).2 = cx o := by
        rw [e1] at q ⊢
        refine (o_pc_x q).trans ?_
        by_cases t : o_x o (o_n o) = 1
        · have k0 : es_k (o_x o (o_n o)) (c i) = 0 := by rw [t]; rfl
          rw [k0]
          rfl
        · exact xs_fix (fun j _ hj => by
            obtain ⟨g1, g2⟩ := ld_es (a := o_x o (o_n o)) hx t h0 (j := j) (by omega)
            rw [oc_E_m g2]
            exact g1)
      have ih := o_es_x (s := s) (c := c) (m := m) (i := i + 1) (o := (o_e1 s (c i) (o_x o (o_n o)) (es_k (o_x o (o_n o)) (c i)) 0 o).2) (by rw [ex]; exact hx) (fun j hj => by
        have := hc (j + 1) (by omega)
        rw [show i + 1 + j = i + (j + 1) by omega]
        exact this) h
      exact ih.trans ex
    · rw [if_neg q] at h
      exact absurd h q
/-- a text that is not safe, or of digits and such -/
def tme (v : rv) : Prop := rv_t v = 2 → rv_s v = true → ∀ j, j < rv_l v → rv_c v j = 45 ∨ (48 ≤ rv_c v j ∧ rv_c v j ≤ 57) ∨ rv_c v j = 44
/-- such a value put out -/
theorem o_v_x {s : Nat} {v : rv} (hx : cx o < 8) (hv : rv_ok v) (hs : tme v) (h : (o_v s v o).1 = nI 0) : cx (o_v s v o).2 = cx o ∨ (cx o = 1 ∧ cx (o_v s v o).2 = 2) := by
  have h0 : ¬ rv_t v = 0 := fun q => by
    unfold o_v at h
    rw [if_pos q] at h
    exact absurd h n_2
  have h3 : ¬ rv_t v = 3 := fun q => by
    unfold o_v at h
    rw [if_neg h0, if_pos q] at h
    exact absurd h n_3
  unfold o_v at h ⊢
  rw [if_neg h0, if_neg h3] at h ⊢
  by_cases h1 : rv_t v = 1
  · rw [if_pos h1, o_sf_pc] at h ⊢
    have e := o_pc_x h
    have g := xs_dg (C := fun j => oc_S (dg_c (rv_n v) j) s) (m := dg_l (rv_n v)) (i := 0) hx (fun j _ _ => by
      have := dg_cb (rv_n v) j
      rw [oc_S_m (by omega)]
      exact (dg_cd (rv_n v) j).imp id Or.inl)
    unfold cx at hx ⊢
    rw [e]
    exact g
  · have h2 : rv_t v = 2 := by
      have := hv.1
      omega
    rw [if_neg h1] at h ⊢
    by_cases q : rv_s v = true
    · rw [if_pos q, o_sf_pc] at h ⊢
      have e := o_pc_x h
      have g := xs_dg (C := fun j => oc_S (rv_c v j) s) (m := rv_l v) (i := 0) hx (fun j _ hj => by
        have := hs h2 q j (by omega)
        rw [oc_S_m (by omega)]
        omega)
      unfold cx at hx ⊢
      rw [e]
      exact g
    · rw [if_neg q] at h ⊢
      exact Or.inl (o_es_x hx (fun j hj => by rw [Nat.zero_add]; exact (hv.2.2.2.1 h2).2 j hj) h)
/-- a literal put out -/
theorem o_lt_x {c s : Nat} (hc : c < 128) (h : (o_lt c s o).1 = nI 0) : cx (o_lt c s o).2 = ld (cx o) c ∨ (c = 32 ∧ cx (o_lt c s o).2 = cx o) := by
  unfold o_lt at h ⊢
  by_cases q : o_w o = true ∧ c = 32
  · rw [if_pos q]
    exact Or.inr ⟨q.2, rfl⟩
  · rw [if_neg q] at h ⊢
    unfold o_t at h ⊢
    by_cases t : o_n o = 300
    · rw [if_pos t] at h
      exact absurd h n_10
    · rw [if_neg t]
      refine Or.inl ?_
      show o_x (o_p o (oc_L c s)) (o_n (o_p o (oc_L c s))) = _
      rw [o_px, oc_L_m hc]
      rfl
/-- blanks trimmed -/
theorem o_dr_x {C : Nat → Nat} {X : Nat → Nat} (h8 : X 0 < 8) : ∀ {n : Nat}, (∀ i, i < n → X (i + 1) = ld (X i) (C i % 128)) → X (o_dr C n) = X n ∨ (X n = 2 ∧ X (o_dr C n) = 1)
  | 0, _ => Or.inl rfl
  | n + 1, h => by
    have x8 : ∀ i, i ≤ n + 1 → X i < 8 := fun i => by
      induction i with
      | zero => intro _; exact h8
      | succ i ih =>
        intro hi
        rw [h i (by omega)]
        exact ld_8 (ih (by omega)) (Nat.mod_lt _ (by decide))
    unfold o_dr
    by_cases q : oc_b (C n) = true
    · rw [if_pos q]
      have hb : C n % 128 = 32 := by
        unfold oc_b at q
        exact (of_decide_eq_true q).2
      have e := h n (Nat.lt_succ_self n)
      rw [hb, ld_dg (x8 n (Nat.le_succ n)) (Or.inr (Or.inr (Or.inl rfl)))] at e
      rcases o_dr_x h8 (n := n) (fun i hi => h i (by omega)) with g | ⟨g1, g2⟩
      · by_cases t : X n = 1
        · rw [if_pos t] at e
          exact Or.inr ⟨e, g.trans t⟩
        · rw [if_neg t] at e
          exact Or.inl (g.trans e.symm)
      · rw [if_neg (by omega)] at e
        exact Or.inr ⟨e.trans g1, g2⟩
    · rw [if_neg q]
      exact Or.inl rfl
theorem o_tm_x (h : OX o) : cx (o_tm o) = cx o ∨ (cx o = 2 ∧ cx (o_tm o) = 1) := o_dr_x h.1 (fun i hi => (h.2 i hi).2)
theorem OX_tm (h : OX o) : OX (o_tm o) := ⟨h.1, fun i hi => h.2 i (Nat.lt_of_lt_of_le hi o_drl)⟩
end E00
