/-! THE SIMULATION: a run of the ghost machine's class is a run of the real one's (wip/p28/gensim2.py) -/
-- both tables say the same of the class
theorem ta_lk {α β : Type} (f : α → β) (k : Nat) : ∀ l : List (Nat × α), (mj_lk k l).map f = mj_lk k (l.map fun r => (r.1, f r.2))
  | [] => rfl
  | (q, x) :: l => by
    show (bif Nat.beq q k then some x else mj_lk k l).map f = bif Nat.beq q k then some (f x) else mj_lk k (l.map fun r => (r.1, f r.2))
    cases Nat.beq q k
    · exact ta_lk f k l
    · rfl
theorem ta_flL : ∀ o, o < 13 → (rj_flL o).map (fun r => (r.1, (r.2.1, r.2.2.1))) = (mj_flL o).map (fun r => (r.1, (r.2.1, r.2.2.1))) := by decide +kernel
theorem ta_meL : ∀ o, o < 13 → (rj_meL o).map (fun r => (r.1, r.2.1)) = (mj_meL o).map (fun r => (r.1, r.2.1)) := by decide +kernel
theorem ta_clL : ∀ o, o < 13 → (rj_clL o).map (fun r => (r.1, r.2.1)) = (mj_clL o).map (fun r => (r.1, r.2.1)) := by decide +kernel
theorem ta_kiL : ∀ o, o < 13 → (rj_kiL o).map (fun r => (r.1, r.2.1)) = (mj_kiL o).map (fun r => (r.1, r.2.1)) := by decide +kernel
theorem ta_klL : ∀ o, o < 13 → (rj_klL o).map (fun r => (r.1, r.2.1)) = (mj_klL o).map (fun r => (r.1, r.2.1)) := by decide +kernel
theorem ta_fl {o k : Nat} (h : o < 13) : rj_fl o k = mj_fl o k := by
  have e := congrArg (mj_lk k) (ta_flL o h)
  rw [← ta_lk (fun r : Nat × Nat × Nat × Nat => (r.1, r.2.1)), ← ta_lk (fun r : Nat × Nat × Nat × Nat => (r.1, r.2.1))] at e
  unfold rj_fl mj_fl
  cases h1 : mj_lk k (rj_flL o) <;> cases h2 : mj_lk k (mj_flL o) <;> rw [h1, h2] at e <;> first | rfl | exact e | cases e
theorem ta_me {o k : Nat} (h : o < 13) : rj_me o k = mj_me o k := by
  have e := congrArg (mj_lk k) (ta_meL o h)
  rw [← ta_lk (fun r : Nat × Bool × Nat × Nat => r.1), ← ta_lk (fun r : Nat × Bool × Nat × Nat => r.1)] at e
  unfold rj_me mj_me
  cases h1 : mj_lk k (rj_meL o) <;> cases h2 : mj_lk k (mj_meL o) <;> rw [h1, h2] at e <;> first | rfl | exact e | cases e
theorem ta_cl {o k : Nat} (h : o < 13) : rj_cl o k = mj_cl o k := by
  have e := congrArg (mj_lk k) (ta_clL o h)
  rw [← ta_lk (fun r : Nat × Nat × Nat => r.1), ← ta_lk (fun r : Nat × Nat × Nat => r.1)] at e
  unfold rj_cl mj_cl
  cases h1 : mj_lk k (rj_clL o) <;> cases h2 : mj_lk k (mj_clL o) <;> rw [h1, h2] at e <;> first | rfl | exact e | cases e
theorem ta_ki {o k : Nat} (h : o < 13) : rj_ki o k = mj_ki o k := by
  have e := congrArg (mj_lk k) (ta_kiL o h)
  rw [← ta_lk (fun r : Int32 × Nat × Nat => r.1), ← ta_lk (fun r : Int32 × Nat × Nat => r.1)] at e
  unfold rj_ki mj_ki
  cases h1 : mj_lk k (rj_kiL o) <;> cases h2 : mj_lk k (mj_kiL o) <;> rw [h1, h2] at e <;> first | rfl | exact e | cases e
theorem ta_kl {o k : Nat} (h : o < 13) : rj_kl o k = mj_kl o k := by
  have e := congrArg (mj_lk k) (ta_klL o h)
  rw [← ta_lk (fun r : Int64 × Nat × Nat => r.1), ← ta_lk (fun r : Int64 × Nat × Nat => r.1)] at e
  unfold rj_kl mj_kl
  cases h1 : mj_lk k (rj_klL o) <;> cases h2 : mj_lk k (mj_klL o) <;> rw [h1, h2] at e <;> first | rfl | exact e | cases e
def ta_f1 (r : Nat × Nat × Nat × Nat × Nat) : Bool := decide (rj_T r.2.1 r.2.2.1 = mj_T r.2.1 r.2.2.1) && decide ((rj_F r.2.1 r.2.2.1).2.2.2 = (mj_F r.2.1 r.2.2.1).2.2.2)
theorem ta_f2 : ∀ o, o < 13 → (mj_flL o).all ta_f1 = true := by decide +kernel
theorem ta_f {o k c j : Nat} (h : o < 13) (hf : mj_fl o k = some (c, j)) : rj_T c j = mj_T c j ∧ (rj_F c j).2.2.2 = (mj_F c j).2.2.2 := by
  unfold mj_fl at hf
  split at hf
  · rename_i r hr
    cases hf
    have h1 := List.all_eq_true.mp (ta_f2 o h) _ (rj_lk_mem hr)
    simp only [ta_f1, Bool.and_eq_true, decide_eq_true_eq] at h1
    exact h1
  · cases hf
def ta_n1 (r : Nat × Nat × Nat × Nat) : Bool := Nat.ble 15 r.2.1 || decide (rj_N r.2.1 = mj_N r.2.1)
theorem ta_n2 : ∀ o, o < 13 → (mj_clL o).all ta_n1 = true := by decide +kernel
theorem ta_n {o k c : Nat} (h : o < 13) (hf : mj_cl o k = some c) (hc : Nat.ble 15 c = false) : rj_N c = mj_N c := by
  unfold mj_cl at hf
  split at hf
  · rename_i r hr
    cases hf
    have h1 := List.all_eq_true.mp (ta_n2 o h) _ (rj_lk_mem hr)
    simp only [ta_n1, hc, Bool.false_or, decide_eq_true_eq] at h1
    exact h1
  · cases hf
-- one instruction of the real machine, by what it asks
section SW
variable {own k c j a len pc : Nat} {ini : Bool} {ls : List (Option mj_V)} {st : List mj_V} {G : mj_G} {K : mj_K}
theorem zv_gf (hf : rj_fl own k = some (c, j)) (h1 : mj_k G a = c + 1) (h3 : rj_T c j = 3 → K (pc + len) ls (.inr (.inr (mj_r G a j)) :: st) G) (hn : rj_T c j ≠ 3 → K (pc + len) ls (.inl (mj_i G a j) :: st) G) : rj_s1 own ini (.getfield k) len pc ls (.inr (.inr a) :: st) G K := by
  unfold rj_s1
  dsimp only
  rw [hf]
  dsimp only
  refine ⟨h1, ?_⟩
  split
  · rename_i q
    exact h3 q
  · rename_i q
    exact hn fun e => q e
theorem zv_pi {x : Int32} (hf : rj_fl own k = some (c, j)) (hF : bif (rj_F c j).2.2.2 then ini = true ∧ own = c else True) (h1 : mj_k G a = c + 1) (h2 : bif rj_T c j == 3 then False else True) (h3 : mj_fit (rj_T c j) x) (h4 : K (pc + len) ls st (mj_pI G a j x)) : rj_s1 own ini (.putfield k) len pc ls (.inl x :: .inr (.inr a) :: st) G K := by
  unfold rj_s1
  dsimp only
  rw [hf]
  exact ⟨hF, h1, h2, h3, h4⟩
theorem zv_pr {x : Nat} (hf : rj_fl own k = some (c, j)) (hF : bif (rj_F c j).2.2.2 then ini = true ∧ own = c else True) (h1 : mj_k G a = c + 1) (h2 : bif rj_T c j == 3 then True else False) (h4 : K (pc + len) ls st (mj_pR G a j x)) : rj_s1 own ini (.putfield k) len pc ls (.inr (.inr x) :: .inr (.inr a) :: st) G K := by
  unfold rj_s1
  dsimp only
  rw [hf]
  exact ⟨hF, h1, h2, h4⟩
end SW
/-- what the class's methods have of instructions -/
def zv_ok (i : Instr) : Bool := match i with
  | .newarray t => (match t with
    | .int => true
    | .char => true
    | _ => false)
  | _ => true
theorem zv_okA : ∀ c, c < 13 → (mj_C c).all (fun l => l.all (fun r => zv_ok r.2.1)) = true := by decide +kernel
section SX
variable {φ φ' : Nat → Nat} {D D' : Nat → Prop} {H H' G G' : mj_G} {ls ls2 : List (Option mj_V)} {st st2 : List mj_V} {K : mj_K} {pc q a b j k n own len x : Nat} {ini : Bool} {i : Instr}
theorem zv_r0 (hS : zv_S φ D H G) (hd : x = 0 ∨ D x) : (zv_r φ x = 0) = (x = 0) := by
  refine propext ⟨fun e => ?_, fun e => by rw [e]; rfl⟩
  rcases hd with q | q
  · exact q
  · rw [zv_rD hS q] at e
    exact absurd e (zv_ne hS q).2.2.1
theorem zv_r12 (hS : zv_S φ D H G) (hd : x = 0 ∨ D x) (h2 : x ≠ 2) : zv_r φ x ≠ 1 ∧ zv_r φ x ≠ 2 := by
  rcases hd with q | q
  · rw [q]
    exact ⟨(by decide : (0 : Nat) ≠ 1), (by decide : (0 : Nat) ≠ 2)⟩
  · rw [zv_rD hS q]
    obtain ⟨⟨-, -, -, h⟩, -⟩ := hS.1 x q
    omega
theorem zv_re {y : Nat} (hS : zv_S φ D H G) (hx : x = 0 ∨ D x) (hy : y = 0 ∨ D y) : (zv_r φ x = zv_r φ y) = (x = y) := by
  refine propext ⟨fun e => ?_, fun e => by rw [e]⟩
  by_cases q : x = 0
  · subst q
    have h0 : zv_r φ y = 0 := e.symm
    rw [zv_r0 hS hy] at h0
    exact h0.symm
  · by_cases t : y = 0
    · subst t
      have h0 : zv_r φ x = 0 := e
      rw [zv_r0 hS hx] at h0
      exact h0
    · rw [zv_rD hS (hx.resolve_left q), zv_rD hS (hy.resolve_left t)] at e
      exact hS.2.1 x y (hx.resolve_left q) (hy.resolve_left t) e
theorem zv_3 (hS : zv_S φ D H G) (h : D a) (h3 : 3 ≤ a) : 3 ≤ φ a := by
  obtain ⟨⟨-, -, -, t⟩, -⟩ := hS.1 a h
  omega
theorem ta_c1 : ∀ o, o < 13 → (mj_flL o).all (fun r => Nat.blt r.2.1 14) = true := by decide +kernel
/-- a field's object is no row -/
theorem zv_no2 {c : Nat} (ho : own < 13) (hf : mj_fl own k = some (c, j)) (h1 : mj_k H a = c + 1) : mj_k H a ≠ 22 := by
  unfold mj_fl at hf
  split at hf
  · rename_i r hr
    cases hf
    have h3 := List.all_eq_true.mp (ta_c1 own ho) _ (rj_lk_mem hr)
    have h4 : r.1 < 14 := Nat.blt_eq.mp h3
    omega
  · cases hf
set_option maxHeartbeats 2000000 in
theorem zv_s1 (ho : own < 13) (hok : zv_ok i = true) (h : mj_s1 own ini i len pc ls st H K) (hS : zv_S φ D H G) (hl : zv_lD D ls) (hk : zv_kD D st) : zv_go φ D H G K (fun K' => rj_s1 own ini i len pc (zv_L φ ls) (zv_K φ st) G K') := by
  have k1 : ∀ {v : mj_V} {s : List mj_V}, zv_kD D (v :: s) → zv_kD D s := fun h => zv_kt h
  have k2 : ∀ {v w : mj_V} {s : List mj_V}, zv_kD D (v :: w :: s) → zv_kD D s := fun h => zv_kt (zv_kt h)
  have k3 : ∀ {v w u : mj_V} {s : List mj_V}, zv_kD D (v :: w :: u :: s) → zv_kD D s := fun h => zv_kt (zv_kt (zv_kt h))
  cases i with
  | iconst n =>
    exact zv_g0 hS h hl (zv_kc trivial hk) fun K' h' => h'
  | bipush n =>
    exact zv_g0 hS h hl (zv_kc trivial hk) fun K' h' => h'
  | sipush n =>
    exact zv_g0 hS h hl (zv_kc trivial hk) fun K' h' => h'
  | lconst n =>
    exact zv_g0 hS h hl (zv_kc trivial hk) fun K' h' => h'
  | aconst_null =>
    exact zv_g0 hS h hl (zv_kc (Or.inl rfl) hk) fun K' h' => h'
  | ldc k =>
    unfold mj_s1 at h
    dsimp only at h
    split at h
    · rename_i v hv
      refine zv_g0 hS h hl (zv_kc trivial hk) fun K' h' => ?_
      show rj_s1 _ _ _ _ _ _ _ _ _
      unfold rj_s1
      dsimp only
      rw [ta_ki ho, hv]
      exact h'
    · exact h.elim
  | ldc_w k =>
    unfold mj_s1 at h
    dsimp only at h
    split at h
    · rename_i v hv
      refine zv_g0 hS h hl (zv_kc trivial hk) fun K' h' => ?_
      show rj_s1 _ _ _ _ _ _ _ _ _
      unfold rj_s1
      dsimp only
      rw [ta_ki ho, hv]
      exact h'
    · exact h.elim
  | ldc2_w k =>
    unfold mj_s1 at h
    dsimp only at h
    split at h
    · rename_i v hv
      refine zv_g0 hS h hl (zv_kc trivial hk) fun K' h' => ?_
      show rj_s1 _ _ _ _ _ _ _ _ _
      unfold rj_s1
      dsimp only
      rw [ta_kl ho, hv]
      exact h'
    · exact h.elim
  | iload k =>
    unfold mj_s1 at h
    dsimp only at h
    obtain ⟨x, hx, hK⟩ := rj_ldi_e h
    exact zv_g0 hS hK hl (zv_kc trivial hk) fun K' h' => by
      show rj_s1 _ _ _ _ _ _ _ _ _
      unfold rj_s1
      dsimp only
      exact zv_ldi hx h'
  | iload_n k =>
    unfold mj_s1 at h
    dsimp only at h
    obtain ⟨x, hx, hK⟩ := rj_ldi_e h
    exact zv_g0 hS hK hl (zv_kc trivial hk) fun K' h' => by
      show rj_s1 _ _ _ _ _ _ _ _ _
      unfold rj_s1
      dsimp only
      exact zv_ldi hx h'
  | lload k =>
    unfold mj_s1 at h
    dsimp only at h
    obtain ⟨x, hx, hK⟩ := rj_ldl_e h
    exact zv_g0 hS hK hl (zv_kc trivial hk) fun K' h' => by
      show rj_s1 _ _ _ _ _ _ _ _ _
      unfold rj_s1
      dsimp only
      exact zv_ldl hx h'
  | lload_n k =>
    unfold mj_s1 at h
    dsimp only at h
    obtain ⟨x, hx, hK⟩ := rj_ldl_e h
    exact zv_g0 hS hK hl (zv_kc trivial hk) fun K' h' => by
      show rj_s1 _ _ _ _ _ _ _ _ _
      unfold rj_s1
      dsimp only
      exact zv_ldl hx h'
  | aload k =>
    unfold mj_s1 at h
    dsimp only at h
    obtain ⟨x, hx, hK⟩ := rj_lda_e h
    exact zv_g0 hS hK hl (zv_kc (zv_gd hl hx) hk) fun K' h' => by
      show rj_s1 _ _ _ _ _ _ _ _ _
      unfold rj_s1
      dsimp only
      exact zv_lda hx h'
  | aload_n k =>
    unfold mj_s1 at h
    dsimp only at h
    obtain ⟨x, hx, hK⟩ := rj_lda_e h
    exact zv_g0 hS hK hl (zv_kc (zv_gd hl hx) hk) fun K' h' => by
      show rj_s1 _ _ _ _ _ _ _ _ _
      unfold rj_s1
      dsimp only
      exact zv_lda hx h'
  | istore k =>
    unfold mj_s1 at h
    dsimp only at h
    obtain ⟨x, st', rfl, hk1, hK⟩ := rj_sti_e h
    exact zv_g0 hS hK (zv_sd hl trivial) (k1 hk) fun K' h' => by
      show rj_s1 _ _ _ _ _ _ _ _ _
      unfold rj_s1
      dsimp only
      exact zv_sti hk1 h'
  | istore_n k =>
    unfold mj_s1 at h
    dsimp only at h
    obtain ⟨x, st', rfl, hk1, hK⟩ := rj_sti_e h
    exact zv_g0 hS hK (zv_sd hl trivial) (k1 hk) fun K' h' => by
      show rj_s1 _ _ _ _ _ _ _ _ _
      unfold rj_s1
      dsimp only
      exact zv_sti hk1 h'
  | lstore k =>
    unfold mj_s1 at h
    dsimp only at h
    obtain ⟨x, st', rfl, hk1, hK⟩ := rj_stl_e h
    exact zv_g0 hS hK (zv_sLd hl trivial) (k1 hk) fun K' h' => by
      show rj_s1 _ _ _ _ _ _ _ _ _
      unfold rj_s1
      dsimp only
      exact zv_stl hk1 h'
  | lstore_n k =>
    unfold mj_s1 at h
    dsimp only at h
    obtain ⟨x, st', rfl, hk1, hK⟩ := rj_stl_e h
    exact zv_g0 hS hK (zv_sLd hl trivial) (k1 hk) fun K' h' => by
      show rj_s1 _ _ _ _ _ _ _ _ _
      unfold rj_s1
      dsimp only
      exact zv_stl hk1 h'
  | astore k =>
    unfold mj_s1 at h
    dsimp only at h
    obtain ⟨x, st', rfl, hk1, hK⟩ := rj_sta_e h
    exact zv_g0 hS hK (zv_sd hl (zv_kh hk)) (k1 hk) fun K' h' => by
      show rj_s1 _ _ _ _ _ _ _ _ _
      unfold rj_s1
      dsimp only
      exact zv_sta hk1 h'
  | astore_n k =>
    unfold mj_s1 at h
    dsimp only at h
    obtain ⟨x, st', rfl, hk1, hK⟩ := rj_sta_e h
    exact zv_g0 hS hK (zv_sd hl (zv_kh hk)) (k1 hk) fun K' h' => by
      show rj_s1 _ _ _ _ _ _ _ _ _
      unfold rj_s1
      dsimp only
      exact zv_sta hk1 h'
  | iinc k n =>
    unfold mj_s1 at h
    dsimp only at h
    split at h
    · rename_i x hx
      obtain ⟨c1, hK⟩ := rj_cond_e h
      refine zv_g0 hS hK (zv_sd hl trivial) hk fun K' h' => ?_
      show rj_s1 _ _ _ _ _ _ _ _ _
      unfold rj_s1
      dsimp only
      rw [zv_g, hx]
      show bif decide (k < (zv_L φ ls).length) then K' (pc + len) (mj_s (zv_L φ ls) k (.inl (x + Int32.ofInt n))) (zv_K φ st) G else False
      rw [zv_len, c1, ← show zv_L φ (mj_s ls k (.inl (x + Int32.ofInt n))) = mj_s (zv_L φ ls) k (.inl (x + Int32.ofInt n)) from zv_s ls k _]
      exact h'
    · exact h.elim
  | iadd =>
    unfold mj_s1 at h
    dsimp only at h
    obtain ⟨y, x, st', rfl, hK⟩ := rj_b2_e h
    exact zv_g0 hS hK hl (zv_kc trivial (k2 hk)) fun K' h' => h'
  | isub =>
    unfold mj_s1 at h
    dsimp only at h
    obtain ⟨y, x, st', rfl, hK⟩ := rj_b2_e h
    exact zv_g0 hS hK hl (zv_kc trivial (k2 hk)) fun K' h' => h'
  | imul =>
    unfold mj_s1 at h
    dsimp only at h
    obtain ⟨y, x, st', rfl, hK⟩ := rj_b2_e h
    exact zv_g0 hS hK hl (zv_kc trivial (k2 hk)) fun K' h' => h'
  | iand =>
    unfold mj_s1 at h
    dsimp only at h
    obtain ⟨y, x, st', rfl, hK⟩ := rj_b2_e h
    exact zv_g0 hS hK hl (zv_kc trivial (k2 hk)) fun K' h' => h'
  | ior =>
    unfold mj_s1 at h
    dsimp only at h
    obtain ⟨y, x, st', rfl, hK⟩ := rj_b2_e h
    exact zv_g0 hS hK hl (zv_kc trivial (k2 hk)) fun K' h' => h'
  | ixor =>
    unfold mj_s1 at h
    dsimp only at h
    obtain ⟨y, x, st', rfl, hK⟩ := rj_b2_e h
    exact zv_g0 hS hK hl (zv_kc trivial (k2 hk)) fun K' h' => h'
  | ishl =>
    unfold mj_s1 at h
    dsimp only at h
    obtain ⟨y, x, st', rfl, hK⟩ := rj_b2_e h
    exact zv_g0 hS hK hl (zv_kc trivial (k2 hk)) fun K' h' => h'
  | ishr =>
    unfold mj_s1 at h
    dsimp only at h
    obtain ⟨y, x, st', rfl, hK⟩ := rj_b2_e h
    exact zv_g0 hS hK hl (zv_kc trivial (k2 hk)) fun K' h' => h'
  | ladd =>
    unfold mj_s1 at h
    dsimp only at h
    obtain ⟨y, x, st', rfl, hK⟩ := rj_b2l_e h
    exact zv_g0 hS hK hl (zv_kc trivial (k2 hk)) fun K' h' => h'
  | lsub =>
    unfold mj_s1 at h
    dsimp only at h
    obtain ⟨y, x, st', rfl, hK⟩ := rj_b2l_e h
    exact zv_g0 hS hK hl (zv_kc trivial (k2 hk)) fun K' h' => h'
  | lmul =>
    unfold mj_s1 at h
    dsimp only at h
    obtain ⟨y, x, st', rfl, hK⟩ := rj_b2l_e h
    exact zv_g0 hS hK hl (zv_kc trivial (k2 hk)) fun K' h' => h'
  | idiv =>
    unfold mj_s1 at h
    dsimp only at h
    split at h
    · exact zv_g0 hS h.2 hl (zv_kc trivial (k2 hk)) fun K' h' => ⟨h.1, h'⟩
    · exact h.elim
  | irem =>
    unfold mj_s1 at h
    dsimp only at h
    split at h
    · exact zv_g0 hS h.2 hl (zv_kc trivial (k2 hk)) fun K' h' => ⟨h.1, h'⟩
    · exact h.elim
  | ldiv =>
    unfold mj_s1 at h
    dsimp only at h
    split at h
    · exact zv_g0 hS h.2 hl (zv_kc trivial (k2 hk)) fun K' h' => ⟨h.1, h'⟩
    · exact h.elim
  | lrem =>
    unfold mj_s1 at h
    dsimp only at h
    split at h
    · exact zv_g0 hS h.2 hl (zv_kc trivial (k2 hk)) fun K' h' => ⟨h.1, h'⟩
    · exact h.elim
  | ineg =>
    unfold mj_s1 at h
    dsimp only at h
    split at h
    · exact zv_g0 hS h hl (zv_kc trivial (k1 hk)) fun K' h' => h'
    · exact h.elim
  | lneg =>
    unfold mj_s1 at h
    dsimp only at h
    split at h
    · exact zv_g0 hS h hl (zv_kc trivial (k1 hk)) fun K' h' => h'
    · exact h.elim
  | i2l =>
    unfold mj_s1 at h
    dsimp only at h
    split at h
    · exact zv_g0 hS h hl (zv_kc trivial (k1 hk)) fun K' h' => h'
    · exact h.elim
  | l2i =>
    unfold mj_s1 at h
    dsimp only at h
    split at h
    · exact zv_g0 hS h hl (zv_kc trivial (k1 hk)) fun K' h' => h'
    · exact h.elim
  | i2c =>
    unfold mj_s1 at h
    dsimp only at h
    split at h
    · exact zv_g0 hS h hl (zv_kc trivial (k1 hk)) fun K' h' => h'
    · exact h.elim
  | lcmp =>
    unfold mj_s1 at h
    dsimp only at h
    split at h
    · exact zv_g0 hS h hl (zv_kc trivial (k2 hk)) fun K' h' => h'
    · exact h.elim
  | dup =>
    unfold mj_s1 at h
    dsimp only at h
    split at h
    · exact zv_g0 hS h hl (zv_kc trivial hk) fun K' h' => h'
    · exact zv_g0 hS h hl (zv_kc (zv_kh hk) hk) fun K' h' => h'
    · exact h.elim
  | pop =>
    unfold mj_s1 at h
    dsimp only at h
    split at h
    · exact zv_g0 hS h hl (k1 hk) fun K' h' => h'
    · exact zv_g0 hS h hl (k1 hk) fun K' h' => h'
    · exact h.elim
  | dup2 =>
    unfold mj_s1 at h
    dsimp only at h
    split at h
    · exact zv_g0 hS h hl (zv_kc trivial (zv_kc (zv_kh (k1 hk)) hk)) fun K' h' => h'
    · exact h.elim
  | goto off =>
    exact zv_gb hS h hl hk fun K' h' => h'
  | ifCond c off =>
    unfold mj_s1 at h
    dsimp only at h
    split at h
    · exact zv_gc hS h hl (k1 hk) fun K' h' => h'
    · exact h.elim
  | if_icmp c off =>
    unfold mj_s1 at h
    dsimp only at h
    split at h
    · exact zv_gc hS h hl (k2 hk) fun K' h' => h'
    · exact h.elim
  | if_acmp c off =>
    cases c with
    | eq => exact h.elim
    | ne =>
      unfold mj_s1 at h
      dsimp only at h
      split at h
      · rename_i y x st'
        obtain ⟨a1, a2, a3, a4, a5⟩ := h
        have dy : y = 0 ∨ D y := zv_kh hk
        have dx : x = 0 ∨ D x := zv_kh (k1 hk)
        have fin : ∀ K' : mj_K, (¬ x = y → mj_br pc off (fun t => K' t (zv_L φ ls) (zv_K φ st') G)) ∧ (x = y → K' (pc + len) (zv_L φ ls) (zv_K φ st') G) → rj_s1 own ini (.if_acmp .ne off) len pc (zv_L φ ls) (zv_K φ (.inr (.inr y) :: .inr (.inr x) :: st')) G K' := fun K' h' => by
          show zv_r φ x ≠ 1 ∧ zv_r φ x ≠ 2 ∧ zv_r φ y ≠ 1 ∧ zv_r φ y ≠ 2 ∧ (¬ zv_r φ x = zv_r φ y → mj_br pc off (fun t => K' t (zv_L φ ls) (zv_K φ st') G)) ∧ (zv_r φ x = zv_r φ y → K' (pc + len) (zv_L φ ls) (zv_K φ st') G)
          rw [zv_re hS dx dy]
          exact ⟨(zv_r12 hS dx a2).1, (zv_r12 hS dx a2).2, (zv_r12 hS dy a4).1, (zv_r12 hS dy a4).2, h'⟩
        by_cases e : x = y
        · exact zv_g0 hS (a5.2 e) hl (k2 hk) fun K' h' => fin K' ⟨fun n => absurd e n, fun _ => h'⟩
        · exact zv_gb hS (a5.1 e) hl (k2 hk) fun K' h' => fin K' ⟨fun _ => h', fun n => absurd n e⟩
      · exact h.elim
  | ifnull off =>
    unfold mj_s1 at h
    dsimp only at h
    split at h
    · rename_i x st'
      have dx : x = 0 ∨ D x := zv_kh hk
      refine zv_gc hS h hl (k1 hk) fun K' h' => ?_
      show (zv_r φ x = 0 → mj_br pc off (fun t => K' t (zv_L φ ls) (zv_K φ st') G)) ∧ (¬ zv_r φ x = 0 → K' (pc + len) (zv_L φ ls) (zv_K φ st') G)
      rw [zv_r0 hS dx]
      exact h'
    · exact h.elim
  | ifnonnull off =>
    unfold mj_s1 at h
    dsimp only at h
    split at h
    · rename_i x st'
      have dx : x = 0 ∨ D x := zv_kh hk
      refine zv_gc (c := ¬ x = 0) hS ⟨h.1, fun n => h.2 (Decidable.not_not.mp n)⟩ hl (k1 hk) fun K' h' => ?_
      show (¬ zv_r φ x = 0 → mj_br pc off (fun t => K' t (zv_L φ ls) (zv_K φ st') G)) ∧ (zv_r φ x = 0 → K' (pc + len) (zv_L φ ls) (zv_K φ st') G)
      rw [zv_r0 hS dx]
      exact ⟨h'.1, fun e => h'.2 fun n => n e⟩
    · exact h.elim
  | tableswitch d lo hi offs =>
    unfold mj_s1 at h
    dsimp only at h
    split at h
    · exact zv_gs hS hl (k1 hk) _ _ h fun K' h' => h'
    · exact h.elim
  | lookupswitch d ps =>
    unfold mj_s1 at h
    dsimp only at h
    split at h
    · exact zv_gs hS hl (k1 hk) _ _ h fun K' h' => h'
    · exact h.elim
  | getstatic k =>
    unfold mj_s1 at h
    obtain ⟨c1, hK⟩ := rj_cond_e h
    refine zv_g0 hS hK hl (zv_kc (Or.inr hS.2.2.1) hk) fun K' h' => ?_
    show bif mj_gs own k then K' (pc + len) (zv_L φ ls) (.inr (.inr 2) :: zv_K φ st) G else False
    have e2 : zv_r φ 2 = 2 := by
      rw [zv_rD hS hS.2.2.1]
      obtain ⟨⟨-, -, -, t⟩, -⟩ := hS.1 2 hS.2.2.1
      omega
    rw [c1]
    have h2 : K' (pc + len) (zv_L φ ls) (.inr (.inr (zv_r φ 2)) :: zv_K φ st) G := h'
    rw [e2] at h2
    exact h2
  | getfield k =>
    unfold mj_s1 at h
    dsimp only at h
    split at h
    · rename_i a st' c j hf
      obtain ⟨h1, h2⟩ := h
      obtain ⟨hD, e⟩ := zv_at hS (zv_kh hk) (by rw [h1]; exact Nat.succ_ne_zero c)
      obtain ⟨-, c2, -, c4, -, c6⟩ := hS.1 a hD
      obtain ⟨tT, -⟩ := ta_f ho hf
      split at h2
      · rename_i q3
        refine zv_g0 hS h2 hl (zv_kc (c6 j).1 (k1 hk)) fun K' h' => ?_
        show rj_s1 own ini (.getfield k) len pc (zv_L φ ls) (.inr (.inr (zv_r φ a)) :: zv_K φ st') G K'
        rw [e]
        refine zv_gf ((ta_fl ho).trans hf) (c2.trans h1) (fun _ => ?_) (fun n => absurd (tT.trans q3) n)
        rw [(c6 j).2]
        exact h'
      · rename_i q3
        refine zv_g0 hS h2 hl (zv_kc trivial (k1 hk)) fun K' h' => ?_
        show rj_s1 own ini (.getfield k) len pc (zv_L φ ls) (.inr (.inr (zv_r φ a)) :: zv_K φ st') G K'
        rw [e]
        refine zv_gf ((ta_fl ho).trans hf) (c2.trans h1) (fun n => absurd (tT.symm.trans n) q3) (fun _ => ?_)
        rw [c4 j]
        exact h'
    · exact h.elim
  | putfield k =>
    unfold mj_s1 at h
    dsimp only at h
    split at h
    · exact h.elim
    · rename_i c j hf
      obtain ⟨hF, h⟩ := h
      obtain ⟨tT, tF⟩ := ta_f ho hf
      split at h
      · rename_i x a st'
        obtain ⟨h1, h2, h3, h4⟩ := h
        have h30 : mj_k H a ≠ 0 := by rw [h1]; exact Nat.succ_ne_zero c
        obtain ⟨hD, e⟩ := zv_at hS (zv_kh (k1 hk)) h30
        obtain ⟨c1, c2, -⟩ := hS.1 a hD
        have h3a : 3 ≤ a := zv_k3 hS hD (zv_no2 ho hf h1)
        obtain ⟨w1, w2⟩ := zv_wI (x := x) (j := j) hS hD h3a
        refine zv_gw w1 w2 h4 hl (k2 hk) fun K' h' => ?_
        show rj_s1 own ini (.putfield k) len pc (zv_L φ ls) (.inl x :: .inr (.inr (zv_r φ a)) :: zv_K φ st') G K'
        rw [e]
        exact zv_pi ((ta_fl ho).trans hf) (by rw [tF]; exact hF) (c2.trans h1) (by rw [tT]; exact h2) (by rw [tT]; exact h3) h'
      · rename_i x a st'
        obtain ⟨h1, h2, h4⟩ := h
        have h30 : mj_k H a ≠ 0 := by rw [h1]; exact Nat.succ_ne_zero c
        obtain ⟨hD, e⟩ := zv_at hS (zv_kh (k1 hk)) h30
        obtain ⟨c1, c2, -⟩ := hS.1 a hD
        obtain ⟨w1, w2⟩ := zv_wR (x := x) (j := j) hS hD (zv_k3 hS hD (zv_no2 ho hf h1)) (zv_kh hk)
        refine zv_gw w1 w2 h4 hl (k2 hk) fun K' h' => ?_
        show rj_s1 own ini (.putfield k) len pc (zv_L φ ls) (.inr (.inr (zv_r φ x)) :: .inr (.inr (zv_r φ a)) :: zv_K φ st') G K'
        rw [e]
        exact zv_pr ((ta_fl ho).trans hf) (by rw [tF]; exact hF) (c2.trans h1) (by rw [tT]; exact h2) h'
      · exact h.elim
  | iaload =>
    unfold mj_s1 mj_ald at h
    dsimp only at h
    split at h
    · rename_i i a st'
      obtain ⟨h1, h2, h3⟩ := h
      obtain ⟨hD, e⟩ := zv_at hS (zv_kh (k1 hk)) (by rw [h1]; decide)
      obtain ⟨-, c2, c3, c4, -, -⟩ := hS.1 a hD
      refine zv_g0 hS h3 hl (zv_kc trivial (k2 hk)) fun K' h' => ?_
      show mj_k G (zv_r φ a) = 20 ∧ vp_in i (mj_l G (zv_r φ a)) ∧ K' (pc + len) (zv_L φ ls) (.inl (mj_i G (zv_r φ a) i.toNatClampNeg) :: zv_K φ st') G
      rw [e, c2, c3, c4]
      exact ⟨h1, h2, h'⟩
    · exact h.elim
  | caload =>
    unfold mj_s1 mj_ald at h
    dsimp only at h
    split at h
    · rename_i i a st'
      obtain ⟨h1, h2, h3⟩ := h
      obtain ⟨hD, e⟩ := zv_at hS (zv_kh (k1 hk)) (by rw [h1]; decide)
      obtain ⟨-, c2, c3, c4, -, -⟩ := hS.1 a hD
      refine zv_g0 hS h3 hl (zv_kc trivial (k2 hk)) fun K' h' => ?_
      show mj_k G (zv_r φ a) = 22 ∧ vp_in i (mj_l G (zv_r φ a)) ∧ K' (pc + len) (zv_L φ ls) (.inl (mj_i G (zv_r φ a) i.toNatClampNeg) :: zv_K φ st') G
      rw [e, c2, c3, c4]
      exact ⟨h1, h2, h'⟩
    · exact h.elim
  | baload =>
    unfold mj_s1 mj_ald at h
    dsimp only at h
    split at h
    · rename_i i a st'
      obtain ⟨h1, h2, h3⟩ := h
      obtain ⟨hD, e⟩ := zv_at hS (zv_kh (k1 hk)) (by rw [h1]; decide)
      obtain ⟨-, c2, c3, c4, -, -⟩ := hS.1 a hD
      refine zv_g0 hS h3 hl (zv_kc trivial (k2 hk)) fun K' h' => ?_
      show mj_k G (zv_r φ a) = 23 ∧ vp_in i (mj_l G (zv_r φ a)) ∧ K' (pc + len) (zv_L φ ls) (.inl (mj_i G (zv_r φ a) i.toNatClampNeg) :: zv_K φ st') G
      rw [e, c2, c3, c4]
      exact ⟨h1, h2, h'⟩
    · exact h.elim
  | laload =>
    unfold mj_s1 at h
    dsimp only at h
    split at h
    · rename_i i a st'
      obtain ⟨h1, h2, h3⟩ := h
      obtain ⟨hD, e⟩ := zv_at hS (zv_kh (k1 hk)) (by rw [h1]; decide)
      obtain ⟨-, c2, c3, -, c5, -⟩ := hS.1 a hD
      refine zv_g0 hS h3 hl (zv_kc trivial (k2 hk)) fun K' h' => ?_
      show mj_k G (zv_r φ a) = 21 ∧ vp_in i (mj_l G (zv_r φ a)) ∧ K' (pc + len) (zv_L φ ls) (.inr (.inl (mj_j G (zv_r φ a) i.toNatClampNeg)) :: zv_K φ st') G
      rw [e, c2, c3, c5]
      exact ⟨h1, h2, h'⟩
    · exact h.elim
  | aaload =>
    unfold mj_s1 at h
    dsimp only at h
    split at h
    · rename_i i a st'
      obtain ⟨h1, h2, h3⟩ := h
      obtain ⟨hD, e⟩ := zv_at hS (zv_kh (k1 hk)) (by omega)
      obtain ⟨-, c2, c3, -, -, c6⟩ := hS.1 a hD
      refine zv_g0 hS h3 hl (zv_kc (c6 _).1 (k2 hk)) fun K' h' => ?_
      show 30 ≤ mj_k G (zv_r φ a) ∧ vp_in i (mj_l G (zv_r φ a)) ∧ K' (pc + len) (zv_L φ ls) (.inr (.inr (mj_r G (zv_r φ a) i.toNatClampNeg)) :: zv_K φ st') G
      rw [e, c2, c3, (c6 _).2]
      exact ⟨h1, h2, h'⟩
    · exact h.elim
  | iastore =>
    unfold mj_s1 mj_ast at h
    dsimp only at h
    split at h
    · rename_i x i a st'
      obtain ⟨h1, h2, h3, h4, h5⟩ := h
      obtain ⟨hD, e⟩ := zv_at hS (zv_kh (k2 hk)) (by rw [h1]; decide)
      obtain ⟨-, c2, c3, -, -, -⟩ := hS.1 a hD
      obtain ⟨w1, w2⟩ := zv_wI (x := x) (j := i.toNatClampNeg) hS hD h2
      refine zv_gw w1 w2 h5 hl (k3 hk) fun K' h' => ?_
      show mj_k G (zv_r φ a) = 20 ∧ 3 ≤ zv_r φ a ∧ vp_in i (mj_l G (zv_r φ a)) ∧ mj_fit 0 x ∧ K' (pc + len) (zv_L φ ls) (zv_K φ st') (mj_pI G (zv_r φ a) i.toNatClampNeg x)
      rw [e, c2, c3]
      exact ⟨h1, zv_3 hS hD h2, h3, h4, h'⟩
    · exact h.elim
  | castore =>
    unfold mj_s1 mj_ast at h
    dsimp only at h
    split at h
    · rename_i x i a st'
      obtain ⟨h1, h2, h3, h4, h5⟩ := h
      obtain ⟨hD, e⟩ := zv_at hS (zv_kh (k2 hk)) (by rw [h1]; decide)
      obtain ⟨-, c2, c3, -, -, -⟩ := hS.1 a hD
      obtain ⟨w1, w2⟩ := zv_wI (x := x) (j := i.toNatClampNeg) hS hD h2
      refine zv_gw w1 w2 h5 hl (k3 hk) fun K' h' => ?_
      show mj_k G (zv_r φ a) = 22 ∧ 3 ≤ zv_r φ a ∧ vp_in i (mj_l G (zv_r φ a)) ∧ mj_fit 2 x ∧ K' (pc + len) (zv_L φ ls) (zv_K φ st') (mj_pI G (zv_r φ a) i.toNatClampNeg x)
      rw [e, c2, c3]
      exact ⟨h1, zv_3 hS hD h2, h3, h4, h'⟩
    · exact h.elim
  | bastore =>
    unfold mj_s1 mj_ast at h
    dsimp only at h
    split at h
    · rename_i x i a st'
      obtain ⟨h1, h2, h3, h4, h5⟩ := h
      obtain ⟨hD, e⟩ := zv_at hS (zv_kh (k2 hk)) (by rw [h1]; decide)
      obtain ⟨-, c2, c3, -, -, -⟩ := hS.1 a hD
      obtain ⟨w1, w2⟩ := zv_wI (x := x) (j := i.toNatClampNeg) hS hD h2
      refine zv_gw w1 w2 h5 hl (k3 hk) fun K' h' => ?_
      show mj_k G (zv_r φ a) = 23 ∧ 3 ≤ zv_r φ a ∧ vp_in i (mj_l G (zv_r φ a)) ∧ mj_fit 1 x ∧ K' (pc + len) (zv_L φ ls) (zv_K φ st') (mj_pI G (zv_r φ a) i.toNatClampNeg x)
      rw [e, c2, c3]
      exact ⟨h1, zv_3 hS hD h2, h3, h4, h'⟩
    · exact h.elim
  | lastore =>
    unfold mj_s1 at h
    dsimp only at h
    split at h
    · rename_i x i a st'
      obtain ⟨h1, h3, h5⟩ := h
      obtain ⟨hD, e⟩ := zv_at hS (zv_kh (k2 hk)) (by rw [h1]; decide)
      obtain ⟨-, c2, c3, -, -, -⟩ := hS.1 a hD
      obtain ⟨w1, w2⟩ := zv_wJ (x := x) (j := i.toNatClampNeg) hS hD (zv_k3 hS hD (by rw [h1]; decide))
      refine zv_gw w1 w2 h5 hl (k3 hk) fun K' h' => ?_
      show mj_k G (zv_r φ a) = 21 ∧ vp_in i (mj_l G (zv_r φ a)) ∧ K' (pc + len) (zv_L φ ls) (zv_K φ st') (mj_pJ G (zv_r φ a) i.toNatClampNeg x)
      rw [e, c2, c3]
      exact ⟨h1, h3, h'⟩
    · exact h.elim
  | aastore =>
    unfold mj_s1 at h
    dsimp only at h
    split at h
    · rename_i x i a st'
      obtain ⟨h1, h3, h4, h5⟩ := h
      obtain ⟨hD, e⟩ := zv_at hS (zv_kh (k2 hk)) (by omega)
      obtain ⟨-, c2, c3, -, -, -⟩ := hS.1 a hD
      have dx : x = 0 ∨ D x := zv_kh hk
      obtain ⟨w1, w2⟩ := zv_wR (x := x) (j := i.toNatClampNeg) hS hD (zv_k3 hS hD (by omega)) dx
      refine zv_gw w1 w2 h5 hl (k3 hk) fun K' h' => ?_
      show 30 ≤ mj_k G (zv_r φ a) ∧ vp_in i (mj_l G (zv_r φ a)) ∧ (zv_r φ x = 0 ∨ mj_k G (zv_r φ x) + 29 = mj_k G (zv_r φ a)) ∧ K' (pc + len) (zv_L φ ls) (zv_K φ st') (mj_pR G (zv_r φ a) i.toNatClampNeg (zv_r φ x))
      rw [e, c2, c3]
      refine ⟨h1, h3, ?_, h'⟩
      by_cases q : x = 0
      · exact Or.inl (by rw [q]; rfl)
      · have hx := dx.resolve_left q
        rw [zv_rD hS hx, (hS.1 x hx).2.1]
        exact Or.inr (h4.resolve_left q)
    · exact h.elim
  | arraylength =>
    unfold mj_s1 at h
    dsimp only at h
    split at h
    · rename_i a st'
      obtain ⟨h1, h2⟩ := h
      obtain ⟨hD, e⟩ := zv_at hS (zv_kh hk) (by omega)
      obtain ⟨-, c2, c3, -, -, -⟩ := hS.1 a hD
      refine zv_g0 hS h2 hl (zv_kc trivial (k1 hk)) fun K' h' => ?_
      show 20 ≤ mj_k G (zv_r φ a) ∧ K' (pc + len) (zv_L φ ls) (.inl (Int32.ofNat (mj_l G (zv_r φ a))) :: zv_K φ st') G
      rw [e, c2, c3]
      exact ⟨h1, h'⟩
    · exact h.elim
  | newarray t =>
    unfold mj_s1 at h
    dsimp only at h
    split at h
    · rename_i n st'
      obtain ⟨h1, h2, h3, h4⟩ := h
      cases t with
      | int => exact zv_ga hS (fun _ => rfl) (by decide) h4 hl (k1 hk) fun K' h' => ⟨h1, h2, trivial, h'⟩
      | char => exact zv_ga hS (fun _ => rfl) (by decide) h4 hl (k1 hk) fun K' h' => ⟨h1, h2, trivial, h'⟩
      | _ => cases hok
    · exact h.elim
  | anewarray k =>
    unfold mj_s1 at h
    dsimp only at h
    split at h
    · rename_i n st' c hc
      obtain ⟨h1, h2, h3⟩ := h
      obtain ⟨h4, h5⟩ := rj_cond_e h3
      refine zv_ga hS (fun _ => rfl) (Nat.succ_ne_zero _) h5 hl (k1 hk) fun K' h' => ?_
      show rj_s1 own ini (.anewarray k) len pc (zv_L φ ls) (.inl n :: zv_K φ st') G K'
      unfold rj_s1
      dsimp only
      rw [ta_cl ho, hc]
      refine ⟨h1, h2, ?_⟩
      rw [h4]
      exact h'
    · exact h.elim
  | new k =>
    unfold mj_s1 at h
    dsimp only at h
    split at h
    · rename_i c hc
      cases hb : Nat.ble 15 c with
      | true => rw [hb] at h; exact h.elim
      | false =>
        rw [hb] at h
        refine zv_ga hS (fun _ => rfl) (Nat.succ_ne_zero _) h hl hk fun K' h' => ?_
        show rj_s1 own ini (.new k) len pc (zv_L φ ls) (zv_K φ st) G K'
        unfold rj_s1
        dsimp only
        rw [ta_cl ho, hc]
        show bif Nat.ble 15 c then False else K' (pc + len) (zv_L φ ls) (.inr (.inr (mj_n G)) :: zv_K φ st) (mj_al G (c + 1) (rj_N c) (fun _ => 0))
        rw [hb, ta_n ho hc hb]
        exact h'
    · exact h.elim
  | checkcast k =>
    unfold mj_s1 at h
    dsimp only at h
    split at h
    · rename_i a st'
      obtain ⟨h1, h2, h3⟩ := h
      obtain ⟨h4, h5⟩ := rj_cond_e h3
      obtain ⟨hD, e⟩ := zv_at hS (zv_kh hk) (by rw [h1]; decide)
      obtain ⟨-, c2, -⟩ := hS.1 a hD
      refine zv_g0 hS h5 hl (zv_kc (zv_kh hk) (k1 hk)) fun K' h' => ?_
      show mj_k G (zv_r φ a) = 20 ∧ 3 ≤ zv_r φ a ∧ (bif Nat.beq own 2 && Nat.beq k 73 then K' (pc + len) (zv_L φ ls) (.inr (.inr (zv_r φ a)) :: zv_K φ st') G else False)
      rw [h4]
      refine ⟨by rw [e, c2]; exact h1, by rw [e]; exact zv_3 hS hD h2, h'⟩
    · exact h.elim
  | invokespecial k =>
    unfold mj_s1 at h
    dsimp only at h
    split at h
    · rename_i a st' hm
      obtain ⟨h1, h2, h3⟩ := h
      obtain ⟨hD, e⟩ := zv_at hS (zv_kh hk) h1
      obtain ⟨-, c2, -⟩ := hS.1 a hD
      refine zv_g0 hS h3 hl (k1 hk) fun K' h' => ?_
      show rj_s1 own ini (.invokespecial k) len pc (zv_L φ ls) (.inr (.inr (zv_r φ a)) :: zv_K φ st') G K'
      unfold rj_s1
      dsimp only
      rw [ta_me ho, hm]
      refine ⟨by rw [e, c2]; exact h1, by rw [zv_w]; exact h2, h'⟩
    · exact h.elim
  | invokestatic k =>
    unfold mj_s1 at h
    dsimp only at h
    split at h
    · rename_i y x st' hm
      obtain ⟨h1, h2⟩ := h
      refine zv_g0 hS h2 hl (zv_kc trivial (k2 hk)) fun K' h' => ?_
      show rj_s1 own ini (.invokestatic k) len pc (zv_L φ ls) (.inl y :: .inl x :: zv_K φ st') G K'
      unfold rj_s1
      dsimp only
      rw [ta_me ho, hm]
      exact ⟨by rw [zv_w]; exact h1, h'⟩
    · rename_i y x st' hm
      obtain ⟨h1, h2⟩ := h
      refine zv_g0 hS h2 hl (zv_kc trivial (k2 hk)) fun K' h' => ?_
      show rj_s1 own ini (.invokestatic k) len pc (zv_L φ ls) (.inl y :: .inl x :: zv_K φ st') G K'
      unfold rj_s1
      dsimp only
      rw [ta_me ho, hm]
      exact ⟨by rw [zv_w]; exact h1, h'⟩
    · rename_i n dp a sp a0 st' hm
      obtain ⟨h1, h2, h3, h4, h5, h6, h7, h8, h9, h10, h11⟩ := h
      have hk3 := k3 hk
      have ne : mj_k H a ≠ 0 := by omega
      obtain ⟨hD, e⟩ := zv_at hS (zv_kh (k2 hk)) ne
      obtain ⟨hD0, e0⟩ := zv_at hS (zv_kh (k1 hk3)) (by rw [h3]; exact ne)
      obtain ⟨-, c2, c3, -⟩ := hS.1 a hD
      obtain ⟨d1, d2, d3, -⟩ := hS.1 a0 hD0
      obtain ⟨w1, w2⟩ := zv_wC (sp := sp.toNatClampNeg) (dp := dp.toNatClampNeg) (m := n.toNatClampNeg) hS hD h5 hD0
      refine zv_gw w1 w2 h11 hl (k2 hk3) fun K' h' => ?_
      show rj_s1 own ini (.invokestatic k) len pc (zv_L φ ls) (.inl n :: .inl dp :: .inr (.inr (zv_r φ a)) :: .inl sp :: .inr (.inr (zv_r φ a0)) :: zv_K φ st') G K'
      unfold rj_s1
      dsimp only
      rw [ta_me ho, hm]
      refine ⟨by rw [zv_w]; exact h1, by rw [e, c2]; exact h2, by rw [e, e0, c2, d2]; exact h3, by rw [e0]; omega, by rw [e]; exact zv_3 hS hD h5, h6, h7, h8, by rw [e0, d3]; exact h9, by rw [e, c3]; exact h10, ?_⟩
      rw [e, e0]
      exact h'
    · exact h.elim
  | invokevirtual k =>
    unfold mj_s1 at h
    dsimp only at h
    split at h
    · rename_i a st' hm
      obtain ⟨h1, h2, h3, h4, h5⟩ := h
      obtain ⟨hD, e⟩ := zv_at hS (zv_kh hk) (by rw [h2]; decide)
      obtain ⟨-, c2, c3, c4, -⟩ := hS.1 a hD
      refine zv_ga (row' := mj_i G (φ a)) hS (fun j => c4 j) (by decide) h5 hl (k1 hk) fun K' h' => ?_
      show rj_s1 own ini (.invokevirtual k) len pc (zv_L φ ls) (.inr (.inr (zv_r φ a)) :: zv_K φ st') G K'
      unfold rj_s1
      dsimp only
      rw [ta_me ho, hm]
      refine ⟨by rw [zv_w]; exact h1, by rw [e, c2]; exact h2, by rw [e]; exact zv_3 hS hD h3, by rw [e, c3]; exact h4, ?_⟩
      rw [e, c3]
      exact h'
    · exact h.elim
  | _ => exact h.elim
end SX
-- methods
theorem ta_M : ∀ c, c < 13 → (rj_M c).map (fun m => m.2) = (mj_M c).map (fun m => m.2)
  | 0, _ => rfl
  | 1, _ => rfl
  | 2, _ => rfl
  | 3, _ => rfl
  | 4, _ => rfl
  | 5, _ => rfl
  | 6, _ => rfl
  | 7, _ => rfl
  | 8, _ => rfl
  | 9, _ => rfl
  | 10, _ => rfl
  | 11, _ => rfl
  | 12, _ => rfl
  | n + 13, h => absurd h (by omega)
theorem ta_C : ∀ c, c < 13 → rj_C c = mj_C c
  | 0, _ => rfl
  | 1, _ => rfl
  | 2, _ => rfl
  | 3, _ => rfl
  | 4, _ => rfl
  | 5, _ => rfl
  | 6, _ => rfl
  | 7, _ => rfl
  | 8, _ => rfl
  | 9, _ => rfl
  | 10, _ => rfl
  | 11, _ => rfl
  | 12, _ => rfl
  | n + 13, h => absurd h (by omega)
theorem ta_m {mi : Nat} (h : mi / 1000 < 13) : (rj_m mi).2 = (mj_m mi).2 := by
  have e := congrArg (fun l => l[mi % 1000]?) (ta_M _ h)
  simp only [List.getElem?_map] at e
  unfold rj_m mj_m
  rw [List.getD_eq_getElem?_getD, List.getD_eq_getElem?_getD]
  cases h1 : (rj_M (mi / 1000))[mi % 1000]? <;> cases h2 : (mj_M (mi / 1000))[mi % 1000]? <;> rw [h1, h2] at e <;> first | rfl | (exact Option.some.inj e) | cases e
section MI
variable {mi pc : Nat} (h : mi / 1000 < 13)
theorem ta_mL {mi : Nat} (h : mi / 1000 < 13) : rj_mL mi = mj_mL mi := congrArg (fun m => m.1) (ta_m h)
theorem ta_rt {mi : Nat} (h : mi / 1000 < 13) : rj_rt mi = mj_rt mi := congrArg (fun m => m.2.1) (ta_m h)
theorem ta_y {mi : Nat} (h : mi / 1000 < 13) : rj_y mi = mj_y mi := congrArg (fun m => m.2.2.1) (ta_m h)
theorem ta_sc {mi : Nat} (h : mi / 1000 < 13) : rj_sc mi = mj_sc mi := congrArg (fun m => m.2.2.2.1) (ta_m h)
theorem ta_na {mi : Nat} (h : mi / 1000 < 13) : rj_na mi = mj_na mi := congrArg (fun m => m.2.2.2.2.1) (ta_m h)
theorem ta_kd {mi : Nat} (h : mi / 1000 < 13) : rj_kd mi = mj_kd mi := congrArg (fun m => m.2.2.2.2.2.1) (ta_m h)
theorem ta_at {mi pc : Nat} (h : mi / 1000 < 13) : rj_at mi pc = mj_at mi pc := by
  unfold rj_at mj_at
  rw [ta_C _ h]
theorem ta_tg {own : Nat} {i : Instr} (h : own < 13) : rj_tg own i = mj_tg own i := by
  unfold rj_tg mj_tg
  cases i <;> first | rfl | (dsimp only; rw [ta_me h]; rfl)
theorem ta_ro {mi : Nat} {x : Int32} (h : mi / 1000 < 13) : rj_ro mi x = mj_ro mi x := by
  unfold rj_ro mj_ro
  rw [ta_rt h]
  generalize mj_rt mi = t
  rcases t with _ | t
  · rfl
  · cases t <;> rfl
theorem ta_rr {mi : Nat} (h : mi / 1000 < 13) : rj_rr mi = mj_rr mi := by
  unfold rj_rr mj_rr
  rw [ta_rt h]
  generalize mj_rt mi = t
  rcases t with _ | t
  · rfl
  · cases t <;> rfl
theorem ta_k2a : ∀ c, c < 13 → (mj_M c).all (fun m => !(Nat.beq m.2.2.2.2.2.2.1 2)) = true := by decide +kernel
theorem ta_k2 {mi : Nat} (h : mi / 1000 < 13) : mj_kd mi ≠ 2 := fun e => by
  unfold mj_kd mj_m at e
  rw [List.getD_eq_getElem?_getD] at e
  cases h1 : (mj_M (mi / 1000))[mi % 1000]? with
  | none => rw [h1] at e; exact absurd e (by decide)
  | some m =>
    rw [h1] at e
    have h2 := List.all_eq_true.mp (ta_k2a _ h) m (List.mem_of_getElem? h1)
    have e' : m.2.2.2.2.2.2.1 = 2 := e
    rw [e'] at h2
    cases h2
theorem ta_meM : ∀ o, o < 13 → (mj_meL o).all (fun r => Nat.ble 900000 r.2.1 || Nat.blt (r.2.1 / 1000) 13) = true := by decide +kernel
theorem ta_mt {own mt : Nat} {i : Instr} (h : own < 13) (ht : mj_tg own i = some mt) : mt / 1000 < 13 := by
  have key : ∀ k, (match mj_me own k with | some t => bif Nat.ble 900000 t then none else some t | none => none) = some mt → mt / 1000 < 13 := fun k hk => by
    cases hm : mj_me own k with
    | none => rw [hm] at hk; cases hk
    | some t =>
      rw [hm] at hk
      unfold mj_me at hm
      split at hm
      · rename_i r hr
        cases hm
        have h1 : (Nat.ble 900000 r.1 || Nat.blt (r.1 / 1000) 13) = true := List.all_eq_true.mp (ta_meM own h) _ (rj_lk_mem hr)
        cases hb : Nat.ble 900000 r.1 with
        | true => dsimp only at hk; rw [hb] at hk; cases hk
        | false =>
          dsimp only at hk
          rw [hb] at hk h1
          cases hk
          exact Nat.blt_eq.mp h1
      · cases hm
  unfold mj_tg at ht
  split at ht
  · exact key _ ht
  · exact key _ ht
  · exact key _ ht
  · cases ht
theorem ta_ok {mi pc len : Nat} {i : Instr} (h : mi / 1000 < 13) (hat : mj_at mi pc = some (i, len)) : zv_ok i = true := by
  unfold mj_at at hat
  have hm := rj_fd_mem hat
  have hC := zv_okA _ h
  by_cases q : mi % 1000 < (mj_C (mi / 1000)).length
  · have e := rj_nth_e _ _ q
    exact List.all_eq_true.mp (List.all_eq_true.mp hC _ (List.mem_of_getElem? e)) _ hm
  · have : ∀ (l : List (List (Nat × Instr × Nat))) (n : Nat), ¬ n < l.length → mj_nth l n = [] := fun l => by
      induction l with
      | nil => exact fun _ _ => rfl
      | cons x xs ih =>
        intro n hn
        cases n with
        | zero => exact absurd (Nat.zero_lt_succ _) hn
        | succ n => exact ih n fun t => hn (Nat.succ_lt_succ t)
    rw [this _ _ q] at hm
    cases hm
end MI
/-- an outcome of the ghost's, as the real one has it -/
def zv_o (φ : Nat → Nat) : mj_O → mj_O
  | .inl v => .inl (v.map (zv_m φ))
  | .inr k => .inr k
def zv_od (D : Nat → Prop) : mj_O → Prop
  | .inl (some v) => zv_d D v
  | _ => True
theorem zv_rc {φ : Nat → Nat} {D : Nat → Prop} {H G : mj_G} {mt : Nat} {as : List mj_V} (hm : mt / 1000 < 13) (hS : zv_S φ D H G) (hd : zv_kD D as) (h : mj_rc H mt as) : rj_rc G mt (zv_K φ as) := by
  unfold mj_rc at h
  unfold rj_rc
  rw [ta_mL hm, ta_sc hm, ← zv_e, zv_len]
  refine ⟨h.1, ?_⟩
  obtain ⟨-, h2⟩ := h
  cases hs : mj_sc mt with
  | true => trivial
  | false =>
    rw [hs] at h2
    match as, h2, hd with
    | .inr (.inr a) :: as', h2, hd =>
      have h3 : mj_k H a = mt / 1000 + 1 := h2
      obtain ⟨hD, e⟩ := zv_at hS (zv_kh hd) (by rw [h3]; exact Nat.succ_ne_zero _)
      show mj_k G (zv_r φ a) = mt / 1000 + 1
      rw [e, (hS.1 a hD).2.1]
      exact h3
theorem zv_XF : ∀ {f d mi pc : Nat} {ls : List (Option mj_V)} {st : List mj_V} {H G : mj_G} {φ : Nat → Nat} {D : Nat → Prop} {Q : mj_O → mj_G → Prop}, mi / 1000 < 13 → mj_XF f d mi pc ls st H Q → zv_S φ D H G → zv_lD D ls → zv_kD D st →
    rj_XF f d mi pc (zv_L φ ls) (zv_K φ st) G (fun o' G' => ∃ o H' φ' D', Q o H' ∧ zv_S φ' D' H' G' ∧ zv_E φ D H G φ' D' H' G' ∧ zv_od D' o ∧ o' = zv_o φ' o)
  | 0, _, _, _, _, _, _, _, _, _, _, _, h, _, _, _ => h.elim
  | f + 1, d, mi, pc, ls, st, H, G, φ, D, Q, ho, h, hS, hl, hk => by
    unfold mj_XF at h
    unfold rj_XF
    rw [ta_at ho]
    cases hat : mj_at mi pc with
    | none => rw [hat] at h; exact h.elim
    | some il =>
      obtain ⟨i, len⟩ := il
      rw [hat] at h
      dsimp only at h ⊢
      rw [ta_tg ho]
      have hok := ta_ok ho hat
      cases htg : mj_tg (mi / 1000) i with
      | some mt =>
        rw [htg] at h
        dsimp only at h ⊢
        have hmt := ta_mt ho htg
        cases htk : mj_tk (mj_na mt) [] st with
        | none => rw [htk] at h; exact h.elim
        | some ar =>
          obtain ⟨as, rest⟩ := ar
          rw [htk] at h
          dsimp only at h
          obtain ⟨hw, hrc, d', hd, hX⟩ := h
          obtain ⟨t1, t2⟩ := zv_tkD htk (fun v hv => by cases hv) hk
          rw [ta_na hmt, show mj_tk (mj_na mt) [] (zv_K φ st) = some (zv_K φ as, zv_K φ rest) from zv_tk (φ := φ) htk]
          dsimp only
          refine ⟨by rw [zv_w]; exact hw, zv_rc hmt hS t1 hrc, d', hd, ?_⟩
          rw [ta_mL hmt, ← zv_en]
          refine rj_XF_mono (zv_XF hmt hX hS (zv_enD t1) (fun v hv => by cases hv)) fun o' G' hm => ?_
          obtain ⟨o, H', φ', D', hQ, hS', hE, hod, rfl⟩ := hm
          have up : ∀ {q : Nat} {s : List mj_V}, zv_kD D' s → mj_XF f d mi q ls s H' Q → rj_XF f d mi q (zv_L φ ls) (zv_K φ' s) G' (fun o' G' => ∃ o H' φ' D', Q o H' ∧ zv_S φ' D' H' G' ∧ zv_E φ D H G φ' D' H' G' ∧ zv_od D' o ∧ o' = zv_o φ' o) := fun {q s} hs hq => by
            have := zv_XF ho hq hS' (zv_LE hE hl).2 hs
            rw [(zv_LE hE hl).1] at this
            refine rj_XF_mono this fun o' G2 hm2 => ?_
            obtain ⟨o, H2, φ2, D2, a1, a2, a3, a4, a5⟩ := hm2
            exact ⟨o, H2, φ2, D2, a1, a2, zv_Et hS hE a3, a4, a5⟩
          rcases o with (_ | v) | k
          · have := up (zv_KE hE t2).2 hQ
            rw [(zv_KE hE t2).1] at this
            exact this
          · have := up (zv_kc hod (zv_KE hE t2).2) hQ
            have e : zv_K φ' (v :: rest) = zv_m φ' v :: zv_K φ rest := by
              show zv_m φ' v :: zv_K φ' rest = _
              rw [(zv_KE hE t2).1]
            rw [e] at this
            exact this
          · exact absurd hQ.1 (ta_k2 ho)
      | none =>
        rw [htg] at h
        dsimp only at h ⊢
        have gen : ∀ {i : Instr}, zv_ok i = true → mj_s1 (mi / 1000) (bif (mj_y mi).name == "<init>" then true else false) i len pc ls st H (fun pc ls st G => mj_XF f d mi pc ls st G Q) → rj_s1 (mi / 1000) (bif (rj_y mi).name == "<init>" then true else false) i len pc (zv_L φ ls) (zv_K φ st) G (fun pc ls st G1 => rj_XF f d mi pc ls st G1 (fun o' G' => ∃ o H' φ' D', Q o H' ∧ zv_S φ' D' H' G' ∧ zv_E φ D H G φ' D' H' G' ∧ zv_od D' o ∧ o' = zv_o φ' o)) := fun {i} hok h1 => by
          rw [ta_y ho]
          obtain ⟨q, ls2, st2, H1, φ1, D1, G1, a1, a2, a3, a4, a5, a6⟩ := zv_s1 ho hok h1 hS hl hk
          refine a6 _ (rj_XF_mono (zv_XF ho a1 a2 a4 a5) fun o' G2 hm2 => ?_)
          obtain ⟨o, H2, φ2, D2, b1, b2, b3, b4, b5⟩ := hm2
          exact ⟨o, H2, φ2, D2, b1, b2, zv_Et hS a3 b3, b4, b5⟩
        split at h
        · split at h
          · rename_i x
            exact ⟨by rw [ta_ro ho]; exact h.1, _, H, φ, D, h.2, hS, zv_Er, trivial, rfl⟩
          · exact h.elim
        · split at h
          · rename_i x
            exact ⟨by rw [ta_rt ho]; exact h.1, _, H, φ, D, h.2, hS, zv_Er, trivial, rfl⟩
          · exact h.elim
        · split at h
          · rename_i x
            exact ⟨by rw [ta_rr ho]; exact h.1, _, H, φ, D, h.2, hS, zv_Er, zv_kh hk, rfl⟩
          · exact h.elim
        · split at h
          · exact ⟨by rw [ta_rt ho]; exact h.1, _, H, φ, D, h.2, hS, zv_Er, trivial, rfl⟩
          · exact h.elim
        · rename_i k
          cases hc : mj_cl (mi / 1000) k with
          | none => rw [hc] at h; exact h.elim
          | some c =>
            rw [hc] at h
            dsimp only at h ⊢
            rw [ta_cl ho, hc]
            dsimp only
            cases hb : Nat.ble 15 c with
            | true =>
              rw [hb] at h
              obtain ⟨e1, h2, h3, h4⟩ := h
              obtain ⟨x1, x2⟩ := zv_al (len := 6) (row := fun _ => 0) (row' := fun _ => 0) hS (fun _ => rfl) (Nat.succ_ne_zero c)
              exact ⟨by rw [e1]; rfl, by rw [ta_kd ho]; exact h2, h3, _, _, _, _, h4, x1, x2, trivial, rfl⟩
            | false =>
              rw [hb] at h
              exact gen hok h
        · rename_i j1 j2 j3 j4 j5
          have h9 := gen hok h
          revert h9
          cases i <;> first | exact fun h9 => h9 | exact absurd rfl (j5 _) | exact absurd rfl j1 | exact absurd rfl j2 | exact absurd rfl j3 | exact absurd rfl j4
theorem zv_X {d mi pc : Nat} {ls : List (Option mj_V)} {st : List mj_V} {H G : mj_G} {φ : Nat → Nat} {D : Nat → Prop} {Q : mj_O → mj_G → Prop} (ho : mi / 1000 < 13) (h : mj_X d mi pc ls st H Q) (hS : zv_S φ D H G) (hl : zv_lD D ls) (hk : zv_kD D st) : rj_X d mi pc (zv_L φ ls) (zv_K φ st) G (fun o' G' => ∃ o H' φ' D', Q o H' ∧ zv_S φ' D' H' G' ∧ zv_E φ D H G φ' D' H' G' ∧ zv_od D' o ∧ o' = zv_o φ' o) := by
  obtain ⟨f, hf⟩ := h
  exact ⟨f, zv_XF ho hf hS hl hk⟩
