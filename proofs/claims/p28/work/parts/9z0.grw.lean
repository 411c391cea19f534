/-! THE OUTPUT GROWS, where nothing is trimmed -/
def o_gr (o o' : ost) : Prop := o_n o ≤ o_n o' ∧ (∀ i, i ≤ o_n o → o_x o' i = o_x o i) ∧ ∀ i, i < o_n o → o_c o' i = o_c o i
theorem o_gr_r {o : ost} : o_gr o o := ⟨Nat.le_refl _, fun _ _ => rfl, fun _ _ => rfl⟩
theorem o_gr_t {o o1 o2 : ost} (h1 : o_gr o o1) (h2 : o_gr o1 o2) : o_gr o o2 := ⟨Nat.le_trans h1.1 h2.1, fun i hi => (h2.2.1 i (Nat.le_trans hi h1.1)).trans (h1.2.1 i hi), fun i hi => (h2.2.2 i (Nat.lt_of_lt_of_le hi h1.1)).trans (h1.2.2 i hi)⟩
theorem o_gr_p {o : ost} {z : Nat} : o_gr o (o_p o z) := ⟨Nat.le_succ _, fun i hi => if_neg (by omega), fun i hi => if_neg (by omega)⟩
theorem o_sf_gr {s : Nat} {c : Nat → Nat} : ∀ {m i : Nat} {o : ost}, o_gr o (o_sf s c m i o).2
  | 0, _, _ => o_gr_r
  | m + 1, i, o => by
    unfold o_sf
    by_cases q : o_n o = 300
    · rw [if_pos q]; exact o_gr_r
    · rw [if_neg q]; exact o_gr_t o_gr_p o_sf_gr
theorem o_e1_gr {s c x : Nat} : ∀ {m j : Nat} {o : ost}, o_gr o (o_e1 s c x m j o).2
  | 0, _, _ => o_gr_r
  | m + 1, j, o => by
    unfold o_e1
    by_cases q : o_n o = 300
    · rw [if_pos q]; exact o_gr_r
    · rw [if_neg q]; exact o_gr_t o_gr_p o_e1_gr
theorem o_es_gr {s : Nat} {c : Nat → Nat} : ∀ {m i : Nat} {o : ost}, o_gr o (o_es s c m i o).2
  | 0, _, _ => o_gr_r
  | m + 1, i, o => by
    unfold o_es
    by_cases q : (o_e1 s (c i) (o_x o (o_n o)) (es_k (o_x o (o_n o)) (c i)) 0 o).1 = nI 0
    · rw [if_pos q]; exact o_gr_t o_e1_gr o_es_gr
    · rw [if_neg q]; exact o_e1_gr
theorem o_v_gr {s : Nat} {v : rv} {o : ost} : o_gr o (o_v s v o).2 := by
  unfold o_v
  by_cases h1 : rv_t v = 0
  · rw [if_pos h1]; exact o_gr_r
  · rw [if_neg h1]
    by_cases h2 : rv_t v = 3
    · rw [if_pos h2]; exact o_gr_r
    · rw [if_neg h2]
      by_cases h3 : rv_t v = 1
      · rw [if_pos h3]; exact o_sf_gr
      · rw [if_neg h3]
        by_cases h4 : rv_s v = true
        · rw [if_pos h4]; exact o_sf_gr
        · rw [if_neg h4]; exact o_es_gr
theorem o_fm_gr {s : Nat} {c : Nat → Nat} {x : Int32} : ∀ {m i : Nat} {o : ost}, o_gr o (o_fm s c x m i o).2
  | 0, _, _ => o_gr_r
  | m + 1, i, o => by
    unfold o_fm
    by_cases h1 : c i = 35
    · rw [if_pos h1]
      by_cases h2 : (o_sf s (dg_c x) (dg_l x) 0 o).1 = nI 0
      · rw [if_pos h2]; exact o_gr_t o_sf_gr o_fm_gr
      · rw [if_neg h2]; exact o_sf_gr
    · rw [if_neg h1]
      by_cases h2 : o_n o = 300
      · rw [if_pos h2]; exact o_gr_r
      · rw [if_neg h2]; exact o_gr_t o_gr_p o_fm_gr
theorem o_mg_gr {F : Nat → rv} {s g : Nat} {v : rv} {o : ost} : o_gr o (o_mg F s g v o).2 := by
  unfold o_mg
  by_cases h1 : rv_t v = 1
  · rw [if_pos h1]; exact o_fm_gr
  · rw [if_neg h1]; exact o_gr_r
theorem o_pc_gr {C : Nat → Nat} : ∀ {m i : Nat} {o : ost}, o_gr o (o_pc C m i o).2
  | 0, _, _ => o_gr_r
  | m + 1, i, o => by
    unfold o_pc
    by_cases q : o_n o = 300
    · rw [if_pos q]; exact o_gr_r
    · rw [if_neg q]; exact o_gr_t o_gr_p o_pc_gr
theorem o_t_gr {o : ost} {z : Nat} : o_gr o (o_t o z).2 := by
  unfold o_t
  by_cases q : o_n o = 300
  · rw [if_pos q]; exact o_gr_r
  · rw [if_neg q]; exact o_gr_p
theorem o_lt_gr {c s : Nat} {o : ost} : o_gr o (o_lt c s o).2 := by
  unfold o_lt
  by_cases q : o_w o = true ∧ c = 32
  · rw [if_pos q]; exact o_gr_r
  · rw [if_neg q]; exact o_t_gr
/-- how a stretch leaves the output, and which fragments it spoils -/
def oJ (M : Nat) (sp : Nat → Bool) (o : ost) (e : Int32) (sp' : Nat → Bool) (o' : ost) : Prop := (e = nI 0 → o_le o o') ∧ (∀ k, k < M → sp k = true → sp' k = true) ∧ (e = nI 0 → ∀ k, k < M → sp' k = false → o_gr o o')
section OJ
variable {M : Nat} {sp sp1 sp' : Nat → Bool} {o o1 o' : ost} {e : Int32}
theorem oJ_r : oJ M sp o e sp o := ⟨fun _ => o_le_r, fun _ _ h => h, fun _ _ _ _ => o_gr_r⟩
theorem oJ_p (h1 : o_le o o') (h2 : o_gr o o') : oJ M sp o e sp o' := ⟨fun _ => h1, fun _ _ h => h, fun _ _ _ _ => h2⟩
theorem oJ_a (h : o_le o o') : oJ M sp o e (fun _ => true) o' := ⟨fun _ => h, fun _ _ _ => rfl, fun _ k _ hk => absurd hk (show ¬ true = false by decide)⟩
theorem oJ_f {k : Nat} (h : oJ M sp o e sp' o') (hk : k < M) (hf : sp' k = false) : sp k = false := by
  cases hs : sp k with
  | false => rfl
  | true =>
    rw [h.2.1 k hk hs] at hf
    exact absurd hf (by decide)
theorem oJ_t (h1 : oJ M sp o (nI 0) sp1 o1) (h2 : oJ M sp1 o1 e sp' o') : oJ M sp o e sp' o' := ⟨fun q => o_le_t (h1.1 rfl) (h2.1 q), fun k hk h => h2.2.1 k hk (h1.2.1 k hk h), fun q k hk hf => o_gr_t (h1.2.2 rfl k hk (oJ_f h2 hk hf)) (h2.2.2 q k hk hf)⟩
theorem oJ_s (hs : ∀ k, k < M → sp k = true → sp1 k = true) (h : oJ M sp1 o e sp' o') : oJ M sp o e sp' o' := ⟨h.1, fun k hk q => h.2.1 k hk (hs k hk q), h.2.2⟩
end OJ
