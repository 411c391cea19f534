/-! THE SMALL MACHINE'S HEAP IN THE REAL ONE -/
/-- a launch's numbers: the classes' ids and slots, the array classes' ids, the first cell of the law's own, the script's cell, the empty row's cell, the script -/
abbrev mj_E : Type := va_G × (Nat → ClassId) × Nat × Nat × Nat × Nat × (Nat → Int32)
def mj_eD (κ : mj_E) : va_G := κ.1
def mj_eA (κ : mj_E) : Nat → ClassId := κ.2.1
def mj_eb (κ : mj_E) : Nat := κ.2.2.1
def mj_es (κ : mj_E) : Nat := κ.2.2.2.1
def mj_ec (κ : mj_E) : Nat := κ.2.2.2.2.1
def mj_eL (κ : mj_E) : Nat := κ.2.2.2.2.2.1
def mj_ex (κ : mj_E) : Nat → Int32 := κ.2.2.2.2.2.2
def mj_ph (κ : mj_E) (r : Nat) : Nat := if r = 1 then mj_es κ else if r = 2 then mj_ec κ else mj_eb κ + (r - 3)
def mj_rv (κ : mj_E) (r : Nat) : Value := if r = 0 then .null else .ref (mj_ph κ r)
def mj_vm (κ : mj_E) : mj_V → Value
  | .inl x => .int x
  | .inr (.inl x) => .long x
  | .inr (.inr r) => mj_rv κ r
theorem mj_ph3 {κ : mj_E} {r : Nat} (h : 3 ≤ r) : mj_ph κ r = mj_eb κ + (r - 3) := by
  unfold mj_ph
  rw [if_neg (by omega), if_neg (by omega)]
theorem mj_rvn {κ : mj_E} {r : Nat} (h : r ≠ 0) : mj_rv κ r = .ref (mj_ph κ r) := by
  unfold mj_rv
  rw [if_neg h]
theorem mj_rv_cat (κ : mj_E) (r : Nat) : (mj_rv κ r).category = 1 := by
  unfold mj_rv
  split <;> rfl
theorem mj_cat (κ : mj_E) (v : mj_V) : (mj_vm κ v).category = if mj_L (some v) = true then 2 else 1 := by
  rcases v with x | x | x
  · rfl
  · rfl
  · exact mj_rv_cat κ x
theorem mj_w_sum (κ : mj_E) : ∀ st : List mj_V, ((st.map (mj_vm κ)).map fun v => v.category).sum = mj_w st
  | [] => rfl
  | .inl x :: st => by
    simp only [List.map_cons, List.sum_cons, mj_w, mj_w_sum κ st, mj_cat]
    simp [mj_L]
    omega
  | .inr (.inl x) :: st => by
    simp only [List.map_cons, List.sum_cons, mj_w, mj_w_sum κ st, mj_cat]
    simp [mj_L]
    omega
  | .inr (.inr x) :: st => by
    simp only [List.map_cons, List.sum_cons, mj_w, mj_w_sum κ st, mj_cat]
    simp [mj_L]
    omega
-- locals
theorem mj_p_len : ∀ (ls : List (Option mj_V)) (k : Nat) (v : Option mj_V), (mj_p ls k v).length = ls.length
  | [], _, _ => rfl
  | _ :: xs, 0, v => rfl
  | x :: xs, n + 1, v => by simp only [mj_p, List.length_cons, mj_p_len xs n v]
theorem mj_g_p : ∀ (ls : List (Option mj_V)) (k j : Nat) (v : Option mj_V), mj_g (mj_p ls k v) j = if j = k ∧ k < ls.length then v else mj_g ls j
  | [], k, j, v => by simp [mj_p, mj_g]
  | x :: xs, 0, 0, v => by simp [mj_p, mj_g]
  | x :: xs, 0, j + 1, v => by simp [mj_p, mj_g]
  | x :: xs, n + 1, 0, v => by simp [mj_p, mj_g]
  | x :: xs, n + 1, j + 1, v => by simp [mj_p, mj_g, mj_g_p xs n j v]
theorem mj_g_lt : ∀ {ls : List (Option mj_V)} {k : Nat} {v : mj_V}, mj_g ls k = some v → k < ls.length
  | [], k, v, h => by simp [mj_g] at h
  | x :: xs, 0, v, h => by simp
  | x :: xs, n + 1, v, h => by
    have := mj_g_lt (ls := xs) (k := n) (v := v) h
    simp only [List.length_cons]
    omega
theorem mj_cl0_len (ls : List (Option mj_V)) (k : Nat) : (mj_cl0 ls k).length = ls.length := by
  unfold mj_cl0
  split
  · rfl
  · cases hL : mj_L (mj_g ls _) <;> simp [mj_p_len]
theorem mj_g_cl0 {ls : List (Option mj_V)} {k j : Nat} {v : mj_V} (h : mj_g (mj_cl0 ls k) j = some v) : mj_g ls j = some v ∧ ¬ (j + 1 = k ∧ mj_L (some v) = true) := by
  unfold mj_cl0 at h
  split at h
  · exact ⟨h, by omega⟩
  · rename_i n
    cases hL : mj_L (mj_g ls n) with
    | true =>
      rw [hL] at h
      simp only [cond_true] at h
      rw [mj_g_p] at h
      split at h
      · cases h
      · rename_i hn
        refine ⟨h, fun hq => hn ⟨by omega, ?_⟩⟩
        have := mj_g_lt h
        omega
    | false =>
      rw [hL] at h
      simp only [cond_false] at h
      refine ⟨h, fun hq => ?_⟩
      have e : j = n := by omega
      rw [e] at h
      rw [h, hq.2] at hL
      cases hL
def mj_LR (κ : mj_E) (lsA : Array Slot) (nL : Nat) (ls : List (Option mj_V)) : Prop := ls.length = nL ∧ ∃ l, lv_has lsA nL l ∧ ∀ k v, mj_g ls k = some v → (k, mj_vm κ v) ∈ l
theorem mj_LR.at {κ : mj_E} {lsA : Array Slot} {nL : Nat} {ls : List (Option mj_V)} (h : mj_LR κ lsA nL ls) {k : Nat} {v : mj_V} (hk : mj_g ls k = some v) : lsA[k]? = some (.val (mj_vm κ v)) := by
  obtain ⟨-, l, h1, h2⟩ := h
  exact h1.2.2 _ (h2 k v hk)
theorem mj_LR.size {κ : mj_E} {lsA : Array Slot} {nL : Nat} {ls : List (Option mj_V)} (h : mj_LR κ lsA nL ls) : lsA.size = nL := by
  obtain ⟨-, l, h1, h2⟩ := h
  exact h1.1
theorem mj_LR.put {κ : mj_E} {lsA lsB : Array Slot} {nL k : Nat} {ls : List (Option mj_V)} {l : List (Nat × Value)} {v : mj_V} (hn : ls.length = nL) (hl : ∀ k v, mj_g ls k = some v → (k, mj_vm κ v) ∈ l)
    (h : lv_has lsB nL ((k, mj_vm κ v) :: l.filter (fun q => !(q.1 == k) && !(q.1 + 1 == k && q.2.category == 2)))) : mj_LR κ lsB nL (mj_s ls k v) := by
  refine ⟨by unfold mj_s; rw [mj_p_len, mj_cl0_len, hn], _, h, fun j w hj => ?_⟩
  unfold mj_s at hj
  rw [mj_g_p] at hj
  split at hj
  · rename_i hq
    cases hj
    rw [hq.1]
    exact List.mem_cons_self
  · rename_i hq
    obtain ⟨h1, h2⟩ := mj_g_cl0 hj
    have hlt := mj_g_lt h1
    refine List.mem_cons_of_mem _ (List.mem_filter.mpr ⟨hl j w h1, ?_⟩)
    have hjk : j ≠ k := fun e => hq ⟨e, by rw [mj_cl0_len]; omega⟩
    simp only [mj_cat, Bool.and_eq_true, Bool.not_eq_true', beq_eq_false_iff_ne, Bool.and_eq_false_iff, ne_eq]
    refine ⟨hjk, ?_⟩
    by_cases hL : mj_L (some w) = true
    · exact Or.inl fun e => h2 ⟨e, hL⟩
    · rw [if_neg hL]
      exact Or.inr (by decide)
theorem mj_LR.putL {κ : mj_E} {lsA lsB : Array Slot} {nL k : Nat} {ls : List (Option mj_V)} {l : List (Nat × Value)} {x : Int64} (hn : ls.length = nL) (hl : ∀ k v, mj_g ls k = some v → (k, mj_vm κ v) ∈ l)
    (h : lv_has lsB nL ((k, Value.long x) :: l.filter (fun q => !(q.1 == k) && (!(q.1 == k + 1) && !(q.1 + 1 == k && q.2.category == 2))))) : mj_LR κ lsB nL (mj_sL ls k (.inr (.inl x))) := by
  refine ⟨by unfold mj_sL; rw [mj_p_len, mj_p_len, mj_cl0_len, hn], _, h, fun j w hj => ?_⟩
  unfold mj_sL at hj
  rw [mj_g_p] at hj
  split at hj
  · cases hj
  · rename_i hq1
    rw [mj_g_p] at hj
    split at hj
    · rename_i hq
      cases hj
      rw [hq.1]
      exact List.mem_cons_self
    · rename_i hq
      obtain ⟨h1, h2⟩ := mj_g_cl0 hj
      have hlt := mj_g_lt h1
      refine List.mem_cons_of_mem _ (List.mem_filter.mpr ⟨hl j w h1, ?_⟩)
      have hjk : j ≠ k := fun e => hq ⟨e, by rw [mj_cl0_len]; omega⟩
      have hjk1 : j ≠ k + 1 := fun e => hq1 ⟨e, by rw [mj_p_len, mj_cl0_len]; omega⟩
      simp only [mj_cat, Bool.and_eq_true, Bool.not_eq_true', beq_eq_false_iff_ne, Bool.and_eq_false_iff, ne_eq]
      refine ⟨hjk, hjk1, ?_⟩
      by_cases hL : mj_L (some w) = true
      · exact Or.inl fun e => h2 ⟨e, hL⟩
      · rw [if_neg hL]
        exact Or.inr (by decide)
theorem mj_LR.dropped {κ : mj_E} {lsA : Array Slot} {nL k : Nat} {ls : List (Option mj_V)} (h : mj_LR κ lsA nL ls) : mj_LR κ lsA nL (mj_p ls k none) := by
  obtain ⟨h0, l, h1, h2⟩ := h
  refine ⟨by rw [mj_p_len, h0], l, h1, fun j w hj => ?_⟩
  rw [mj_g_p] at hj
  split at hj
  · cases hj
  · exact h2 j w hj
theorem mj_LR.entry {κ : mj_E} (vs : List mj_V) {n : Nat} (h : (mj_e vs).length ≤ n) : mj_LR κ ((lg_sl (vs.map (mj_vm κ)) ++ List.replicate (n - (lg_sl (vs.map (mj_vm κ))).length) Slot.unset).toArray) n (mj_en vs n) := by
  have hlen : ∀ vs : List mj_V, (lg_sl (vs.map (mj_vm κ))).length = (mj_e vs).length := by
    intro vs
    induction vs with
    | nil => rfl
    | cons v vs ih =>
      have e : (lg_sl ((v :: vs).map (mj_vm κ))).length = (if (mj_vm κ v).category = 2 then 2 else 1) + (lg_sl (vs.map (mj_vm κ))).length := by
        simp only [lg_sl, List.map_cons, List.flatMap_cons, List.length_append]
        split <;> rfl
      rw [e, ih, mj_cat]
      rcases v with x | x | x <;> simp [mj_e, mj_L] <;> omega
  have hin : ∀ (vs : List mj_V) (i : Nat) (k : Nat) (v : mj_V), mj_g (mj_e vs) k = some v → (i + k, mj_vm κ v) ∈ lv_args i (vs.map (mj_vm κ)) := by
    intro vs
    induction vs with
    | nil => intro i k v h; simp [mj_e, mj_g] at h
    | cons w vs ih =>
      intro i k v h
      simp only [List.map_cons, lv_args, mj_cat]
      rcases w with x | x | x
      · cases k with
        | zero => simp only [mj_e, mj_g, Option.some.injEq] at h; subst h; exact List.mem_cons_self
        | succ k =>
          have h1 := ih (i + 1) k v h
          rw [show i + 1 + k = i + (k + 1) by omega] at h1
          exact List.mem_cons_of_mem _ (by simpa [mj_L] using h1)
      · cases k with
        | zero => simp only [mj_e, mj_g, Option.some.injEq] at h; subst h; exact List.mem_cons_self
        | succ k =>
          cases k with
          | zero => simp [mj_e, mj_g] at h
          | succ k =>
            have h1 := ih (i + 2) k v h
            rw [show i + 2 + k = i + (k + 1 + 1) by omega] at h1
            exact List.mem_cons_of_mem _ (by simpa [mj_L] using h1)
      · cases k with
        | zero => simp only [mj_e, mj_g, Option.some.injEq] at h; subst h; exact List.mem_cons_self
        | succ k =>
          have h1 := ih (i + 1) k v h
          rw [show i + 1 + k = i + (k + 1) by omega] at h1
          exact List.mem_cons_of_mem _ (by simpa [mj_L] using h1)
  have hga : ∀ (xs : List (Option mj_V)) (n k : Nat) (v : mj_V), mj_g (xs ++ List.replicate n none) k = some v → mj_g xs k = some v := by
    intro xs
    induction xs with
    | nil =>
      intro n
      induction n with
      | zero => intro k v h; simpa using h
      | succ n ih =>
        intro k v h
        cases k with
        | zero => simp [List.replicate_succ, mj_g] at h
        | succ k => exact ih k v (by simpa [List.replicate_succ, mj_g] using h)
    | cons x xs ih =>
      intro n k v h
      cases k with
      | zero => simpa [mj_g] using h
      | succ k => exact ih n k v (by simpa [mj_g] using h)
  refine ⟨?_, _, lv_entry (vs.map (mj_vm κ)) (by rw [hlen]; exact h), fun k v hk => ?_⟩
  · unfold mj_en
    rw [List.length_append, List.length_replicate]
    omega
  · have h1 := hin vs 0 k v (hga _ _ _ _ hk)
    simpa using h1
