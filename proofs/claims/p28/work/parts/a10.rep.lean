/-! THE SMALL MACHINE'S HEAP IN THE REAL ONE -/
/-- a launch's numbers: the classes' ids and slots, the array classes' ids, the first cell of the law's own, the script's cell, the empty row's cell, the script -/
abbrev rj_E : Type := va_G × (Nat → ClassId) × Nat × Nat × Nat × Nat × (Nat → Int32)
def rj_eD (κ : rj_E) : va_G := κ.1
def rj_eA (κ : rj_E) : Nat → ClassId := κ.2.1
def rj_eb (κ : rj_E) : Nat := κ.2.2.1
def rj_es (κ : rj_E) : Nat := κ.2.2.2.1
def rj_ec (κ : rj_E) : Nat := κ.2.2.2.2.1
def rj_eL (κ : rj_E) : Nat := κ.2.2.2.2.2.1
def rj_ex (κ : rj_E) : Nat → Int32 := κ.2.2.2.2.2.2
def rj_ph (κ : rj_E) (r : Nat) : Nat := if r = 1 then rj_es κ else if r = 2 then rj_ec κ else rj_eb κ + (r - 3)
def rj_rv (κ : rj_E) (r : Nat) : Value := if r = 0 then .null else .ref (rj_ph κ r)
def rj_vm (κ : rj_E) : mj_V → Value
  | .inl x => .int x
  | .inr (.inl x) => .long x
  | .inr (.inr r) => rj_rv κ r
theorem rj_ph3 {κ : rj_E} {r : Nat} (h : 3 ≤ r) : rj_ph κ r = rj_eb κ + (r - 3) := by
  unfold rj_ph
  rw [if_neg (by omega), if_neg (by omega)]
theorem rj_rvn {κ : rj_E} {r : Nat} (h : r ≠ 0) : rj_rv κ r = .ref (rj_ph κ r) := by
  unfold rj_rv
  rw [if_neg h]
theorem rj_rv_cat (κ : rj_E) (r : Nat) : (rj_rv κ r).category = 1 := by
  unfold rj_rv
  split <;> rfl
theorem rj_cat (κ : rj_E) (v : mj_V) : (rj_vm κ v).category = if mj_L (some v) = true then 2 else 1 := by
  rcases v with x | x | x
  · rfl
  · rfl
  · exact rj_rv_cat κ x
theorem rj_w_sum (κ : rj_E) : ∀ st : List mj_V, ((st.map (rj_vm κ)).map fun v => v.category).sum = mj_w st
  | [] => rfl
  | .inl x :: st => by
    simp only [List.map_cons, List.sum_cons, mj_w, rj_w_sum κ st, rj_cat]
    simp [mj_L]
    omega
  | .inr (.inl x) :: st => by
    simp only [List.map_cons, List.sum_cons, mj_w, rj_w_sum κ st, rj_cat]
    simp [mj_L]
    omega
  | .inr (.inr x) :: st => by
    simp only [List.map_cons, List.sum_cons, mj_w, rj_w_sum κ st, rj_cat]
    simp [mj_L]
    omega
-- locals
theorem rj_p_len : ∀ (ls : List (Option mj_V)) (k : Nat) (v : Option mj_V), (mj_p ls k v).length = ls.length
  | [], _, _ => rfl
  | _ :: xs, 0, v => rfl
  | x :: xs, n + 1, v => by simp only [mj_p, List.length_cons, rj_p_len xs n v]
theorem rj_g_p : ∀ (ls : List (Option mj_V)) (k j : Nat) (v : Option mj_V), mj_g (mj_p ls k v) j = if j = k ∧ k < ls.length then v else mj_g ls j
  | [], k, j, v => by simp [mj_p, mj_g]
  | x :: xs, 0, 0, v => by simp [mj_p, mj_g]
  | x :: xs, 0, j + 1, v => by simp [mj_p, mj_g]
  | x :: xs, n + 1, 0, v => by simp [mj_p, mj_g]
  | x :: xs, n + 1, j + 1, v => by simp [mj_p, mj_g, rj_g_p xs n j v]
theorem rj_g_lt : ∀ {ls : List (Option mj_V)} {k : Nat} {v : mj_V}, mj_g ls k = some v → k < ls.length
  | [], k, v, h => by simp [mj_g] at h
  | x :: xs, 0, v, h => by simp
  | x :: xs, n + 1, v, h => by
    have := rj_g_lt (ls := xs) (k := n) (v := v) h
    simp only [List.length_cons]
    omega
theorem rj_cl0_len (ls : List (Option mj_V)) (k : Nat) : (mj_cl0 ls k).length = ls.length := by
  unfold mj_cl0
  split
  · rfl
  · cases hL : mj_L (mj_g ls _) <;> simp [rj_p_len]
theorem rj_g_cl0 {ls : List (Option mj_V)} {k j : Nat} {v : mj_V} (h : mj_g (mj_cl0 ls k) j = some v) : mj_g ls j = some v ∧ ¬ (j + 1 = k ∧ mj_L (some v) = true) := by
  unfold mj_cl0 at h
  split at h
  · exact ⟨h, by omega⟩
  · rename_i n
    cases hL : mj_L (mj_g ls n) with
    | true =>
      rw [hL] at h
      simp only [cond_true] at h
      rw [rj_g_p] at h
      split at h
      · cases h
      · rename_i hn
        refine ⟨h, fun hq => hn ⟨by omega, ?_⟩⟩
        have := rj_g_lt h
        omega
    | false =>
      rw [hL] at h
      simp only [cond_false] at h
      refine ⟨h, fun hq => ?_⟩
      have e : j = n := by omega
      rw [e] at h
      rw [h, hq.2] at hL
      cases hL
def rj_LR (κ : rj_E) (lsA : Array Slot) (nL : Nat) (ls : List (Option mj_V)) : Prop := ls.length = nL ∧ ∃ l, lv_has lsA nL l ∧ ∀ k v, mj_g ls k = some v → (k, rj_vm κ v) ∈ l
theorem rj_LR.at {κ : rj_E} {lsA : Array Slot} {nL : Nat} {ls : List (Option mj_V)} (h : rj_LR κ lsA nL ls) {k : Nat} {v : mj_V} (hk : mj_g ls k = some v) : lsA[k]? = some (.val (rj_vm κ v)) := by
  obtain ⟨-, l, h1, h2⟩ := h
  exact h1.2.2 _ (h2 k v hk)
theorem rj_LR.size {κ : rj_E} {lsA : Array Slot} {nL : Nat} {ls : List (Option mj_V)} (h : rj_LR κ lsA nL ls) : lsA.size = nL := by
  obtain ⟨-, l, h1, h2⟩ := h
  exact h1.1
theorem rj_LR.put {κ : rj_E} {lsA lsB : Array Slot} {nL k : Nat} {ls : List (Option mj_V)} {l : List (Nat × Value)} {v : mj_V} (hn : ls.length = nL) (hl : ∀ k v, mj_g ls k = some v → (k, rj_vm κ v) ∈ l)
    (h : lv_has lsB nL ((k, rj_vm κ v) :: l.filter (fun q => !(q.1 == k) && !(q.1 + 1 == k && q.2.category == 2)))) : rj_LR κ lsB nL (mj_s ls k v) := by
  refine ⟨by unfold mj_s; rw [rj_p_len, rj_cl0_len, hn], _, h, fun j w hj => ?_⟩
  unfold mj_s at hj
  rw [rj_g_p] at hj
  split at hj
  · rename_i hq
    cases hj
    rw [hq.1]
    exact List.mem_cons_self
  · rename_i hq
    obtain ⟨h1, h2⟩ := rj_g_cl0 hj
    have hlt := rj_g_lt h1
    refine List.mem_cons_of_mem _ (List.mem_filter.mpr ⟨hl j w h1, ?_⟩)
    have hjk : j ≠ k := fun e => hq ⟨e, by rw [rj_cl0_len]; omega⟩
    simp only [rj_cat, Bool.and_eq_true, Bool.not_eq_true', beq_eq_false_iff_ne, Bool.and_eq_false_iff, ne_eq]
    refine ⟨hjk, ?_⟩
    by_cases hL : mj_L (some w) = true
    · exact Or.inl fun e => h2 ⟨e, hL⟩
    · rw [if_neg hL]
      exact Or.inr (by decide)
theorem rj_LR.putL {κ : rj_E} {lsA lsB : Array Slot} {nL k : Nat} {ls : List (Option mj_V)} {l : List (Nat × Value)} {x : Int64} (hn : ls.length = nL) (hl : ∀ k v, mj_g ls k = some v → (k, rj_vm κ v) ∈ l)
    (h : lv_has lsB nL ((k, Value.long x) :: l.filter (fun q => !(q.1 == k) && (!(q.1 == k + 1) && !(q.1 + 1 == k && q.2.category == 2))))) : rj_LR κ lsB nL (mj_sL ls k (.inr (.inl x))) := by
  refine ⟨by unfold mj_sL; rw [rj_p_len, rj_p_len, rj_cl0_len, hn], _, h, fun j w hj => ?_⟩
  unfold mj_sL at hj
  rw [rj_g_p] at hj
  split at hj
  · cases hj
  · rename_i hq1
    rw [rj_g_p] at hj
    split at hj
    · rename_i hq
      cases hj
      rw [hq.1]
      exact List.mem_cons_self
    · rename_i hq
      obtain ⟨h1, h2⟩ := rj_g_cl0 hj
      have hlt := rj_g_lt h1
      refine List.mem_cons_of_mem _ (List.mem_filter.mpr ⟨hl j w h1, ?_⟩)
      have hjk : j ≠ k := fun e => hq ⟨e, by rw [rj_cl0_len]; omega⟩
      have hjk1 : j ≠ k + 1 := fun e => hq1 ⟨e, by rw [rj_p_len, rj_cl0_len]; omega⟩
      simp only [rj_cat, Bool.and_eq_true, Bool.not_eq_true', beq_eq_false_iff_ne, Bool.and_eq_false_iff, ne_eq]
      refine ⟨hjk, hjk1, ?_⟩
      by_cases hL : mj_L (some w) = true
      · exact Or.inl fun e => h2 ⟨e, hL⟩
      · rw [if_neg hL]
        exact Or.inr (by decide)
theorem rj_LR.dropped {κ : rj_E} {lsA : Array Slot} {nL k : Nat} {ls : List (Option mj_V)} (h : rj_LR κ lsA nL ls) : rj_LR κ lsA nL (mj_p ls k none) := by
  obtain ⟨h0, l, h1, h2⟩ := h
  refine ⟨by rw [rj_p_len, h0], l, h1, fun j w hj => ?_⟩
  rw [rj_g_p] at hj
  split at hj
  · cases hj
  · exact h2 j w hj
theorem rj_LR.entry {κ : rj_E} (vs : List mj_V) {n : Nat} (h : (mj_e vs).length ≤ n) : rj_LR κ ((lg_sl (vs.map (rj_vm κ)) ++ List.replicate (n - (lg_sl (vs.map (rj_vm κ))).length) Slot.unset).toArray) n (mj_en vs n) := by
  have hlen : ∀ vs : List mj_V, (lg_sl (vs.map (rj_vm κ))).length = (mj_e vs).length := by
    intro vs
    induction vs with
    | nil => rfl
    | cons v vs ih =>
      have e : (lg_sl ((v :: vs).map (rj_vm κ))).length = (if (rj_vm κ v).category = 2 then 2 else 1) + (lg_sl (vs.map (rj_vm κ))).length := by
        simp only [lg_sl, List.map_cons, List.flatMap_cons, List.length_append]
        split <;> rfl
      rw [e, ih, rj_cat]
      rcases v with x | x | x <;> simp [mj_e, mj_L] <;> omega
  have hin : ∀ (vs : List mj_V) (i : Nat) (k : Nat) (v : mj_V), mj_g (mj_e vs) k = some v → (i + k, rj_vm κ v) ∈ lv_args i (vs.map (rj_vm κ)) := by
    intro vs
    induction vs with
    | nil => intro i k v h; simp [mj_e, mj_g] at h
    | cons w vs ih =>
      intro i k v h
      simp only [List.map_cons, lv_args, rj_cat]
      rcases w with x | x | x
      · cases k with
        | zero => simp only [mj_e, mj_g, Option.some.injEq] at h; subst h; exact List.mem_cons_self
        | succ k =>
          have h1 := ih (i + 1) k v h
          rw [show i + 1 + k = i + (k + 1) by omega] at h1
          exact List.mem_cons_of_mem _ (by simpa [mj_L] using h1)
      · cases k with
        | zero => simp only [mj_e, mj_g, Option.some.injEq] at h; subst h; exact List.mem_cons_self
        | succ k =>
          cases k with
          | zero => simp [mj_e, mj_g] at h
          | succ k =>
            have h1 := ih (i + 2) k v h
            rw [show i + 2 + k = i + (k + 1 + 1) by omega] at h1
            exact List.mem_cons_of_mem _ (by simpa [mj_L] using h1)
      · cases k with
        | zero => simp only [mj_e, mj_g, Option.some.injEq] at h; subst h; exact List.mem_cons_self
        | succ k =>
          have h1 := ih (i + 1) k v h
          rw [show i + 1 + k = i + (k + 1) by omega] at h1
          exact List.mem_cons_of_mem _ (by simpa [mj_L] using h1)
  have hga : ∀ (xs : List (Option mj_V)) (n k : Nat) (v : mj_V), mj_g (xs ++ List.replicate n none) k = some v → mj_g xs k = some v := by
    intro xs
    induction xs with
    | nil =>
      intro n
      induction n with
      | zero => intro k v h; simpa using h
      | succ n ih =>
        intro k v h
        cases k with
        | zero => simp [List.replicate_succ, mj_g] at h
        | succ k => exact ih k v (by simpa [List.replicate_succ, mj_g] using h)
    | cons x xs ih =>
      intro n k v h
      cases k with
      | zero => simpa [mj_g] using h
      | succ k => exact ih n k v (by simpa [mj_g] using h)
  refine ⟨?_, _, lv_entry (vs.map (rj_vm κ)) (by rw [hlen]; exact h), fun k v hk => ?_⟩
  · unfold mj_en
    rw [List.length_append, List.length_replicate]
    omega
  · have h1 := hin vs 0 k v (hga _ _ _ _ hk)
    simpa using h1
-- kinds of array cells
def rj_aT (k : Nat) : FieldType := match k with
  | 20 => .int
  | 21 => .long
  | 22 => .char
  | 23 => .boolean
  | k => .object (rj_R (k - 30))
def rj_aK : List Nat := [20, 22, 33, 34, 35, 40, 41]
/-- what the tables say of the classes and of the arrays, with their ids -/
def rj_Kn (κ : rj_E) (U : State) : Prop := (∀ c, c < 18 → c ≠ 2 → rj_no (c) → u_Kn U (rj_R c) (rj_F c) (rj_N c) ((rj_eD κ).1 c) ((rj_eD κ).2 c)) ∧ ∀ k, k ∈ rj_aK → ArrOfT U (rj_eA κ k) (rj_aT k) ∧ va_RA U (rj_eA κ k) (rj_aT k)
theorem rj_Kn.moved {κ : rj_E} {u U : State} (hvm : u.vm.Alike U.vm) (h : rj_Kn κ u) : rj_Kn κ U := ⟨fun c h1 h2 h3 => u_Kn_moved hvm (h.1 c h1 h2 h3), fun k hk => ⟨arrOfT_moved hvm (h.2 k hk).1, (h.2 k hk).2.moved hvm⟩⟩
-- the cells
def rj_sv (κ : rj_E) (G : mj_G) (c a j : Nat) : Value := if rj_T c j = 3 then rj_rv κ (mj_r G a j) else .int (mj_i G a j)
def rj_ev (κ : rj_E) (G : mj_G) (k a j : Nat) : Value := if k = 21 then .long (mj_j G a j) else if 30 ≤ k then rj_rv κ (mj_r G a j) else .int (mj_i G a j)
def rj_Ce (κ : rj_E) (G : mj_G) (a : Nat) (oc : Option Cell) : Prop :=
  (mj_k G a < 20 → mj_k G a - 1 < 18 ∧ mj_k G a - 1 ≠ 2 ∧ rj_no (mj_k G a - 1) ∧ ∃ cell, oc = some cell ∧ cell.vm = .none ∧ cell.cls = (rj_eD κ).1 (mj_k G a - 1) ∧ ∀ j, j < rj_N (mj_k G a - 1) → cell.slots[(rj_eD κ).2 (mj_k G a - 1) j]? = some (rj_sv κ G (mj_k G a - 1) a j)) ∧
  (20 ≤ mj_k G a → mj_k G a ∈ rj_aK ∧ oc = some (arrV (rj_eA κ (mj_k G a)) (mj_l G a) (rj_ev κ G (mj_k G a) a)) ∧ (mj_k G a = 22 → ∀ j, mj_c (mj_i G a j)) ∧ mj_l G a ≤ 1000000)
def rj_Re (κ : rj_E) (G : mj_G) (H : Heap) : Prop :=
  H.size = rj_eb κ + (mj_n G - 3) ∧ 3 ≤ mj_n G ∧ (∀ a, 3 ≤ a → a < mj_n G → mj_k G a ≠ 0 ∧ rj_Ce κ G a H[rj_eb κ + (a - 3)]?) ∧ (∀ a, mj_n G ≤ a → mj_k G a = 0) ∧
  mj_k G 0 = 0 ∧ mj_k G 1 = 20 ∧ mj_l G 1 = rj_eL κ ∧ (∀ j, j < rj_eL κ → mj_i G 1 j = rj_ex κ j) ∧ mj_k G 2 = 22 ∧ mj_l G 2 = 0
theorem rj_Re.lt {κ : rj_E} {G : mj_G} {H : Heap} (h : rj_Re κ G H) {a : Nat} (hk : mj_k G a ≠ 0) : a < mj_n G ∧ a ≠ 0 := by
  obtain ⟨-, -, -, h4, h5, -⟩ := h
  refine ⟨Nat.lt_of_not_le fun q => hk (h4 a q), fun e => hk (by rw [e]; exact h5)⟩
theorem rj_Re.at {κ : rj_E} {G : mj_G} {H : Heap} (h : rj_Re κ G H) {a : Nat} (h3 : 3 ≤ a) (hk : mj_k G a ≠ 0) : rj_Ce κ G a H[rj_ph κ a]? := by
  rw [rj_ph3 h3]
  exact (h.2.2.1 a h3 (h.lt hk).1).2
theorem rj_Re.ge {κ : rj_E} {G : mj_G} {H : Heap} (h : rj_Re κ G H) {a : Nat} (hk : mj_k G a ≠ 0) (hk2 : mj_k G a < 20) : 3 ≤ a := by
  have h0 := (h.lt hk).2
  obtain ⟨-, -, -, -, -, h6, -, -, h9, -⟩ := h
  refine Nat.le_of_not_lt fun q => ?_
  have e : a = 1 ∨ a = 2 := by omega
  rcases e with rfl | rfl
  · rw [h6] at hk2; omega
  · rw [h9] at hk2; omega
theorem rj_Re.obj {κ : rj_E} {G : mj_G} {H : Heap} (h : rj_Re κ G H) {a c : Nat} (hk : mj_k G a = c + 1) (hc : c < 18) : 3 ≤ a ∧ rj_ph κ a < H.size ∧ c ≠ 2 ∧ rj_no (c) ∧ ∃ cell, H[rj_ph κ a]? = some cell ∧ cell.vm = .none ∧ cell.cls = (rj_eD κ).1 c ∧ ∀ j, j < rj_N c → cell.slots[(rj_eD κ).2 c j]? = some (rj_sv κ G c a j) := by
  have h3 := h.ge (a := a) (by omega) (by omega)
  have h1 := (h.at h3 (by omega)).1 (by omega)
  rw [hk, Nat.add_sub_cancel] at h1
  obtain ⟨-, n2, n14, cell, e, r⟩ := h1
  exact ⟨h3, (Array.getElem?_eq_some_iff.mp e).1, n2, n14, cell, e, r⟩
theorem rj_Re.arr {κ : rj_E} {G : mj_G} {H : Heap} (h : rj_Re κ G H) {a : Nat} (h3 : 3 ≤ a) (hk : 20 ≤ mj_k G a) : rj_ph κ a < H.size ∧ mj_k G a ∈ rj_aK ∧ H[rj_ph κ a]? = some (arrV (rj_eA κ (mj_k G a)) (mj_l G a) (rj_ev κ G (mj_k G a) a)) ∧ (mj_k G a = 22 → ∀ j, mj_c (mj_i G a j)) ∧ mj_l G a ≤ 1000000 := by
  have h1 := (h.at h3 (by omega)).2 hk
  exact ⟨(Array.getElem?_eq_some_iff.mp h1.2.1).1, h1⟩
/-- one old cell is changed -/
theorem rj_Re.upd {κ : rj_E} {G G' : mj_G} {H H' : Heap} (h : rj_Re κ G H) {a : Nat} (h3 : 3 ≤ a) (hk : mj_k G a ≠ 0) (hn : mj_n G' = mj_n G) (hkk : mj_k G' = mj_k G) (hl : mj_l G' = mj_l G)
    (ho : ∀ x, x ≠ a → mj_i G' x = mj_i G x ∧ mj_r G' x = mj_r G x ∧ mj_j G' x = mj_j G x) (z : H'.size = H.size) (oq : ∀ q, q ≠ rj_ph κ a → H'[q]? = H[q]?) (hc : rj_Ce κ G' a H'[rj_ph κ a]?) : rj_Re κ G' H' := by
  obtain ⟨h1, h2, h4, h5, h6, h7, h8, h9, h10, h11⟩ := h
  refine ⟨by rw [z, hn]; exact h1, by rw [hn]; exact h2, fun x hx hxn => ?_, by rw [hn, hkk]; exact h5, by rw [hkk]; exact h6, by rw [hkk]; exact h7, by rw [hl]; exact h8, fun j hj => ?_, by rw [hkk]; exact h10, by rw [hl]; exact h11⟩
  · rw [hn] at hxn
    obtain ⟨g1, g2⟩ := h4 x hx hxn
    refine ⟨by rw [hkk]; exact g1, ?_⟩
    by_cases hxa : x = a
    · subst hxa
      rw [rj_ph3 h3] at hc
      exact hc
    · obtain ⟨o1, o2, o3⟩ := ho x hxa
      rw [oq _ (by rw [rj_ph3 h3]; omega)]
      have s1 : ∀ c j, rj_sv κ G' c x j = rj_sv κ G c x j := fun c j => by unfold rj_sv; rw [o1, o2]
      have s2 : ∀ k, rj_ev κ G' k x = rj_ev κ G k x := fun k => by funext j; unfold rj_ev; rw [o1, o2, o3]
      unfold rj_Ce at g2 ⊢
      rw [hkk, hl, o1]
      simp only [s1, s2]
      exact g2
  · rw [(ho 1 (by omega)).1]
    exact h9 j hj
/-- one new cell -/
theorem rj_Re.new {κ : rj_E} {G : mj_G} {H H' : Heap} (h : rj_Re κ G H) {k n : Nat} {row : Nat → Int32} (hk : k ≠ 0) (z : H'.size = H.size + 1) (oq : ∀ q, q < H.size → H'[q]? = H[q]?) (hc : rj_Ce κ (mj_al G k n row) (mj_n G) H'[H.size]?) : rj_Re κ (mj_al G k n row) H' ∧ rj_ph κ (mj_n G) = H.size := by
  obtain ⟨h1, h2, h4, h5, h6, h7, h8, h9, h10, h11⟩ := h
  have hn : mj_n (mj_al G k n row) = mj_n G + 1 := rfl
  have hkk : ∀ x, x ≠ mj_n G → mj_k (mj_al G k n row) x = mj_k G x := fun x hx => by show mj_u1 _ _ _ x = _; unfold mj_u1; rw [if_neg hx]
  have hll : ∀ x, x ≠ mj_n G → mj_l (mj_al G k n row) x = mj_l G x := fun x hx => by show mj_u1 _ _ _ x = _; unfold mj_u1; rw [if_neg hx]
  have hii : ∀ x, x ≠ mj_n G → mj_i (mj_al G k n row) x = mj_i G x := fun x hx => by funext y; show (if x = mj_n G then _ else _) = _; rw [if_neg hx]
  have hrr : ∀ x, x ≠ mj_n G → mj_r (mj_al G k n row) x = mj_r G x := fun x hx => by funext y; show (if x = mj_n G then _ else _) = _; rw [if_neg hx]
  have hjj : ∀ x, x ≠ mj_n G → mj_j (mj_al G k n row) x = mj_j G x := fun x hx => by funext y; show (if x = mj_n G then _ else _) = _; rw [if_neg hx]
  have hks : mj_k (mj_al G k n row) (mj_n G) = k := by show mj_u1 _ _ _ _ = _; unfold mj_u1; rw [if_pos rfl]
  refine ⟨⟨by rw [z, h1, hn]; omega, by rw [hn]; omega, fun x hx hxn => ?_, fun x hx => ?_, by rw [hkk 0 (by omega)]; exact h6, by rw [hkk 1 (by omega)]; exact h7, by rw [hll 1 (by omega)]; exact h8, fun j hj => by rw [hii 1 (by omega)]; exact h9 j hj, by rw [hkk 2 (by omega)]; exact h10, by rw [hll 2 (by omega)]; exact h11⟩, by rw [rj_ph3 h2, h1]⟩
  · by_cases hxa : x = mj_n G
    · subst hxa
      exact ⟨by rw [hks]; exact hk, by rw [h1] at hc; exact hc⟩
    · rw [hn] at hxn
      obtain ⟨g1, g2⟩ := h4 x hx (by omega)
      refine ⟨by rw [hkk x hxa]; exact g1, ?_⟩
      rw [oq _ (by rw [h1]; omega)]
      have s1 : ∀ c j, rj_sv κ (mj_al G k n row) c x j = rj_sv κ G c x j := fun c j => by unfold rj_sv; rw [hii x hxa, hrr x hxa]
      have s2 : ∀ k', rj_ev κ (mj_al G k n row) k' x = rj_ev κ G k' x := fun k' => by funext j; unfold rj_ev; rw [hii x hxa, hrr x hxa, hjj x hxa]
      unfold rj_Ce at g2 ⊢
      rw [hkk x hxa, hll x hxa, hii x hxa]
      simp only [s1, s2]
      exact g2
  · rw [hn] at hx
    rw [hkk x (by omega)]
    exact h5 x (by omega)
-- what a method's start knows beside its own cells
def rj_Am (κ : rj_E) (U : State) : Prop := rj_Kn κ U ∧ rj_All #[] U ∧ va_Z "TemplateQuarry" "NO_CHARACTERS" "[C" (.ref (rj_ec κ)) (fun q => rj_eb κ ≤ q) U U.heap ∧
  vx_Zq Bundle.tN "UNASSIGNED_STACK" Bundle.steD (fun q => rj_eb κ ≤ q) U U.heap ∧ vx_Zq Bundle.tN "SUPPRESSED_SENTINEL" Bundle.listD (fun q => rj_eb κ ≤ q) U U.heap ∧
  va_X (rj_es κ) (rj_eL κ) (rj_ex κ) U U.heap ∧ (∃ cell : Cell, U.heap[rj_ec κ]? = some cell ∧ U.isArrayOf cell .char ∧ cell.vm ≠ .unknown ∧ cell.slots.size = 0) ∧ rj_es κ < rj_eb κ ∧ rj_ec κ < rj_eb κ ∧ rj_eb κ ≤ U.heap.size ∧
  va_Nc "java/lang/IllegalStateException" "java/lang/IllegalArgumentException" U ∧ va_Nc "java/lang/IllegalArgumentException" "java/lang/IndexOutOfBoundsException" U ∧ va_Nc "java/lang/IllegalStateException" "java/lang/IndexOutOfBoundsException" U
theorem rj_Am.at {κ : rj_E} {s U : State} {H : Heap} {locs : List Loc} (h : rj_Am κ s) (hU : U.heap = H) (hW : s.WarmedH U.vm) (hS : va_S (fun q => rj_eb κ ≤ q) s.heap H locs) : rj_Am κ U := by
  obtain ⟨h1, h2, h3, h4, h5, h6, ⟨cell, c1, c2, c3, c4⟩, h8, h9, h10, h11, h12, h13⟩ := h
  subst hU
  have hk : ∀ a : Nat, a < s.heap.size → ¬ (rj_eb κ ≤ a) → U.heap[a]? = s.heap[a]? := hS.2.1
  refine ⟨h1.moved hW.alike, h2.mv hW, va_Z.moved hW.alike (h3.kept hk), vx_Zq.moved hW.alike (h4.kept hk), vx_Zq.moved hW.alike (h5.kept hk), va_X.moved hW.alike (h6.kept (hk _ (by omega) (by omega))), ⟨cell, ?_, State.isArrayOf_alike hW.alike c2, c3, c4⟩, h8, h9, Nat.le_trans h10 hS.1, h11.moved hW.alike, h12.moved hW.alike, h13.moved hW.alike⟩
  rw [hk _ (by omega) (by omega)]
  exact c1
theorem rj_Am.word {κ : rj_E} {s : State} {args : Array Value} (h : rj_Am κ s) {w : Jvm.Cond} (hw : w ∈ rj_W) : w.before args s = true := h.2.1.mv (State.WarmedH.refl s) w hw
/-- an object's slots are apart -/
theorem rj_apart {κ : rj_E} {s : State} (h : rj_Am κ s) {c : Nat} (hc : c < 18) (h2 : c ≠ 2) (h14 : rj_no (c)) : ∀ x y, x < rj_N c → y < rj_N c → x ≠ y → (rj_eD κ).2 c x ≠ (rj_eD κ).2 c y := by
  intro x y hx hy hne
  obtain ⟨hS, -⟩ := h.1.1 c hc h2 h14
  obtain ⟨_, _, _, fa, hia, ea⟩ := hS x hx
  obtain ⟨_, _, _, fb, hib, eb⟩ := hS y hy
  have hts : ∀ w ∈ rj_W, w.before #[] s = true := h.2.1
  have hin := (rj_qc_w hc h2 h14).2.2
  rw [← ea, ← eb]
  refine u_apart (u_lays hts hin hx) (u_lays hts hin hy) hia hib ?_
  rw [(State.fieldFound?_type hia (rj_f_y hc hx).1).1, (State.fieldFound?_type hib (rj_f_y hc hy).1).1]
  exact rj_f_n hc x hx y hy hne
