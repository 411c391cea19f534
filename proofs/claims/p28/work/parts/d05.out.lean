/-! WHAT IS PUT OUT IS THE SAME IN THE SAME CONTEXT -/
section D05
theorem n_10 : ¬ Int32.ofInt (-10) = nI 0 := by decide
theorem n_2 : ¬ Int32.ofInt (-2) = nI 0 := by decide
theorem n_3 : ¬ Int32.ofInt (-3) = nI 0 := by decide
theorem o_pc_s {C : Nat → Nat} {m i : Nat} {o : ost} (h : ¬ o_n o = 300) : o_pc C (m + 1) i o = o_pc C m (i + 1) (o_p o (C i)) := if_neg h
theorem o_pc_f {C : Nat → Nat} {m i : Nat} {o : ost} (h : o_n o = 300) : o_pc C (m + 1) i o = (Int32.ofInt (-10), o) := if_pos h
/-- the same cells, from other places of other rows -/
theorem o_pc_c {C C' : Nat → Nat} : ∀ {m i i' : Nat} {o : ost}, (∀ j, j < m → C (i + j) = C' (i' + j)) → o_pc C m i o = o_pc C' m i' o
  | 0, _, _, _, _ => rfl
  | m + 1, i, i', o, h => by
    have h0 : C i = C' i' := h 0 (Nat.succ_pos m)
    by_cases q : o_n o = 300
    · rw [o_pc_f q, o_pc_f q]
    · rw [o_pc_s q, o_pc_s q, h0]
      exact o_pc_c (fun j hj => by
        have := h (j + 1) (by omega)
        rw [show i + 1 + j = i + (j + 1) by omega, show i' + 1 + j = i' + (j + 1) by omega]
        exact this)
/-- cells, and more of them -/
theorem o_pc_a {C : Nat → Nat} {m2 : Nat} : ∀ {m i : Nat} {o : ost}, o_pc C (m + m2) i o = if (o_pc C m i o).1 = nI 0 then o_pc C m2 (i + m) (o_pc C m i o).2 else o_pc C m i o
  | 0, i, o => by
    rw [show o_pc C 0 i o = (nI 0, o) from rfl, if_pos rfl, Nat.zero_add]
    rfl
  | m + 1, i, o => by
    rw [show m + 1 + m2 = m + m2 + 1 by omega]
    by_cases q : o_n o = 300
    · rw [o_pc_f q, o_pc_f q, if_neg n_10]
    · rw [o_pc_s q, o_pc_s q, o_pc_a (m := m), show i + 1 + m = i + (m + 1) by omega]
/-- all put out: how much, which cells -/
theorem o_pc_n {C : Nat → Nat} : ∀ {m i : Nat} {o : ost}, (o_pc C m i o).1 = nI 0 → o_n (o_pc C m i o).2 = o_n o + m ∧ ∀ j, j < m → o_c (o_pc C m i o).2 (o_n o + j) = C (i + j)
  | 0, _, _, _ => ⟨rfl, fun j hj => absurd hj (Nat.not_lt_zero j)⟩
  | m + 1, i, o, h => by
    by_cases q : o_n o = 300
    · rw [o_pc_f q] at h
      exact absurd h n_10
    · rw [o_pc_s q] at h ⊢
      obtain ⟨a1, a2⟩ := o_pc_n h
      have hn : o_n (o_p o (C i)) = o_n o + 1 := rfl
      refine ⟨by rw [a1, hn]; omega, fun j hj => ?_⟩
      cases j with
      | zero =>
        have g := (o_pc_gr (C := C) (m := m) (i := i + 1) (o := o_p o (C i))).2.2 (o_n o) (by rw [hn]; omega)
        show o_c (o_pc C m (i + 1) (o_p o (C i))).2 (o_n o) = C i
        rw [g]
        exact if_pos rfl
      | succ j =>
        have := a2 j (by omega)
        rw [hn] at this
        rw [show o_n o + (j + 1) = o_n o + 1 + j by omega, this, show i + 1 + j = i + (j + 1) by omega]
/-- the context behind cells -/
def xs (C : Nat → Nat) : Nat → Nat → Nat → Nat
  | 0, _, x => x
  | m + 1, i, x => xs C m (i + 1) (ld x (C i % 128))
theorem o_pc_x {C : Nat → Nat} : ∀ {m i : Nat} {o : ost}, (o_pc C m i o).1 = nI 0 → o_x (o_pc C m i o).2 (o_n (o_pc C m i o).2) = xs C m i (o_x o (o_n o))
  | 0, _, _, _ => rfl
  | m + 1, i, o, h => by
    by_cases q : o_n o = 300
    · rw [o_pc_f q] at h
      exact absurd h n_10
    · rw [o_pc_s q] at h ⊢
      rw [o_pc_x h, o_px]
      rfl
/-- what puts out some cells, in a context -/
def Lc (F : ost → Int32 × ost) (x : Nat) : Prop := ∃ C n, ∀ o, o_x o (o_n o) = x → F o = o_pc C n 0 o
theorem o_sf_pc {s : Nat} {c : Nat → Nat} : ∀ {m i : Nat} {o : ost}, o_sf s c m i o = o_pc (fun j => oc_S (c j) s) m i o
  | 0, _, _ => rfl
  | m + 1, i, o => by
    unfold o_sf o_pc
    rw [o_sf_pc]
theorem o_e1_pc {s c x : Nat} : ∀ {m i : Nat} {o : ost}, o_e1 s c x m i o = o_pc (fun j => oc_E (es_h x c j) c j s) m i o
  | 0, _, _ => rfl
  | m + 1, i, o => by
    unfold o_e1 o_pc
    rw [o_e1_pc]
theorem Lc_sf {s : Nat} {c : Nat → Nat} {m x : Nat} : Lc (fun o => o_sf s c m 0 o) x := ⟨_, m, fun _ _ => o_sf_pc⟩
theorem Lc_es {s : Nat} {c : Nat → Nat} : ∀ {m i x : Nat}, Lc (fun o => o_es s c m i o) x
  | 0, _, _ => ⟨fun _ => 0, 0, fun _ _ => rfl⟩
  | m + 1, i, x => by
    obtain ⟨C2, n2, h2⟩ := Lc_es (s := s) (c := c) (m := m) (i := i + 1) (x := xs (fun j => oc_E (es_h x (c i) j) (c i) j s) (es_k x (c i)) 0 x)
    refine ⟨fun j => if j < es_k x (c i) then oc_E (es_h x (c i) j) (c i) j s else C2 (j - es_k x (c i)), es_k x (c i) + n2, fun o ho => ?_⟩
    have e1 : o_e1 s (c i) x (es_k x (c i)) 0 o = o_pc (fun j => if j < es_k x (c i) then oc_E (es_h x (c i) j) (c i) j s else C2 (j - es_k x (c i))) (es_k x (c i)) 0 o := o_e1_pc.trans (o_pc_c (fun j hj => by
      rw [Nat.zero_add, if_pos hj]))
    show o_es s c (m + 1) i o = _
    unfold o_es
    rw [ho, o_pc_a, ← e1]
    by_cases q : (o_e1 s (c i) x (es_k x (c i)) 0 o).1 = nI 0
    · rw [if_pos q, if_pos q]
      have hx : o_x (o_e1 s (c i) x (es_k x (c i)) 0 o).2 (o_n (o_e1 s (c i) x (es_k x (c i)) 0 o).2) = xs (fun j => oc_E (es_h x (c i) j) (c i) j s) (es_k x (c i)) 0 x := by
        rw [o_e1_pc] at q ⊢
        rw [o_pc_x q, ho]
      have := h2 _ hx
      rw [show o_es s c m (i + 1) (o_e1 s (c i) x (es_k x (c i)) 0 o).2 = o_pc C2 n2 0 (o_e1 s (c i) x (es_k x (c i)) 0 o).2 from this]
      exact o_pc_c (fun j hj => by
        rw [Nat.zero_add, Nat.zero_add, if_neg (by omega), Nat.add_sub_cancel_left])
    · rw [if_neg q, if_neg q]
/-- a value put out, in a context -/
theorem Lc_v {s : Nat} {v : rv} {x : Nat} {o : ost} (h : (o_v s v o).1 = nI 0) : Lc (fun o => o_v s v o) x := by
  have h0 : ¬ rv_t v = 0 := fun q => by
    unfold o_v at h
    rw [if_pos q] at h
    exact absurd h n_2
  have h3 : ¬ rv_t v = 3 := fun q => by
    unfold o_v at h
    rw [if_neg h0, if_pos q] at h
    exact absurd h n_3
  by_cases h1 : rv_t v = 1
  · obtain ⟨C, n, g⟩ := Lc_sf (s := s) (c := dg_c (rv_n v)) (m := dg_l (rv_n v)) (x := x)
    refine ⟨C, n, fun o ho => ?_⟩
    show o_v s v o = _
    unfold o_v
    rw [if_neg h0, if_neg h3, if_pos h1]
    exact g o ho
  · by_cases hs : rv_s v = true
    · obtain ⟨C, n, g⟩ := Lc_sf (s := s) (c := rv_c v) (m := rv_l v) (x := x)
      refine ⟨C, n, fun o ho => ?_⟩
      show o_v s v o = _
      unfold o_v
      rw [if_neg h0, if_neg h3, if_neg h1, if_pos hs]
      exact g o ho
    · obtain ⟨C, n, g⟩ := Lc_es (s := s) (c := rv_c v) (m := rv_l v) (i := 0) (x := x)
      refine ⟨C, n, fun o ho => ?_⟩
      show o_v s v o = _
      unfold o_v
      rw [if_neg h0, if_neg h3, if_neg h1, if_neg hs]
      exact g o ho
/-- what was put out once, put out again in the same context -/
theorem Lc_k {F : ost → Int32 × ost} {o o' o2 : ost} (h : Lc F (o_x o (o_n o))) (hF : F o = (nI 0, o')) (hx : o_x o2 (o_n o2) = o_x o (o_n o)) : F o2 = o_pc (fun j => o_c o' (o_n o + j)) (o_n o' - o_n o) 0 o2 := by
  obtain ⟨C, n, g⟩ := h
  have g1 := g o rfl
  rw [hF] at g1
  have q : (o_pc C n 0 o).1 = nI 0 := by rw [← g1]
  obtain ⟨a1, a2⟩ := o_pc_n q
  have e2 : (o_pc C n 0 o).2 = o' := by rw [← g1]
  rw [e2] at a1 a2
  rw [g o2 hx, a1, Nat.add_sub_cancel_left]
  exact o_pc_c (fun j hj => by
    rw [Nat.zero_add, a2 j hj, Nat.zero_add])
theorem o_sf_c {s : Nat} {c c' : Nat → Nat} {m : Nat} {o : ost} (h : ∀ j, j < m → c j = c' j) : o_sf s c m 0 o = o_sf s c' m 0 o := by
  rw [o_sf_pc, o_sf_pc]
  exact o_pc_c (fun j hj => by rw [Nat.zero_add, h j hj])
theorem o_es_c {s : Nat} {c c' : Nat → Nat} : ∀ {m i : Nat} {o : ost}, (∀ j, j < m → c (i + j) = c' (i + j)) → o_es s c m i o = o_es s c' m i o
  | 0, _, _, _ => rfl
  | m + 1, i, o, h => by
    have h0 : c i = c' i := h 0 (Nat.succ_pos m)
    unfold o_es
    rw [h0]
    have ih : ∀ o, o_es s c m (i + 1) o = o_es s c' m (i + 1) o := fun o => o_es_c (fun j hj => by
      have := h (j + 1) (by omega)
      rw [show i + 1 + j = i + (j + 1) by omega]
      exact this)
    rw [ih]
/-- values that are the same are put out the same -/
theorem o_v_sk {I0 I : Nat → Nat → rv} {s : Nat} {v0 v : rv} {o : ost} (ht : rv_t v ≤ 3) (h : rv_sk I0 I v0 v) : o_v s v0 o = o_v s v o := by
  obtain ⟨h1, h2, h3, h4, h5, -⟩ := h
  unfold o_v
  rw [h1, h2, h3]
  by_cases q0 : rv_t v = 0
  · rw [if_pos q0, if_pos q0]
  · rw [if_neg q0, if_neg q0]
    by_cases q3 : rv_t v = 3
    · rw [if_pos q3, if_pos q3]
    · rw [if_neg q3, if_neg q3]
      by_cases q1 : rv_t v = 1
      · rw [if_pos q1, if_pos q1, h4 (h1.trans q1)]
      · rw [if_neg q1, if_neg q1]
        by_cases q2 : rv_t v = 2
        · have hc := h5 (h1.trans q2)
          by_cases qs : rv_s v = true
          · rw [if_pos qs, if_pos qs]
            exact o_sf_c hc
          · rw [if_neg qs, if_neg qs]
            exact o_es_c (fun j hj => by rw [Nat.zero_add]; exact hc j hj)
        · exact absurd ht (by omega)
end D05
