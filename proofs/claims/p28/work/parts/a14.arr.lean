/-! ARRAYS: ELEMENTS, LENGTHS -/
theorem rj_Re.k0 {κ : rj_E} {G : mj_G} {H : Heap} (h : rj_Re κ G H) : mj_k G 0 = 0 := h.2.2.2.2.1
theorem rj_Re.k1 {κ : rj_E} {G : mj_G} {H : Heap} (h : rj_Re κ G H) : mj_k G 1 = 20 := h.2.2.2.2.2.1
theorem rj_Re.l1 {κ : rj_E} {G : mj_G} {H : Heap} (h : rj_Re κ G H) : mj_l G 1 = rj_eL κ := h.2.2.2.2.2.2.1
theorem rj_Re.i1 {κ : rj_E} {G : mj_G} {H : Heap} (h : rj_Re κ G H) : ∀ j, j < rj_eL κ → mj_i G 1 j = rj_ex κ j := h.2.2.2.2.2.2.2.1
theorem rj_Re.k2 {κ : rj_E} {G : mj_G} {H : Heap} (h : rj_Re κ G H) : mj_k G 2 = 22 := h.2.2.2.2.2.2.2.2.1
theorem rj_Re.l2 {κ : rj_E} {G : mj_G} {H : Heap} (h : rj_Re κ G H) : mj_l G 2 = 0 := h.2.2.2.2.2.2.2.2.2
theorem rj_Re.ge3 {κ : rj_E} {G : mj_G} {H : Heap} (h : rj_Re κ G H) {a : Nat} (h20 : 20 ≤ mj_k G a) (h1 : a ≠ 1) (h2 : a ≠ 2) : 3 ≤ a := by
  have h0 : a ≠ 0 := fun e => by rw [e, h.k0] at h20; omega
  omega
theorem rj_lt_in {i : Int32} {n : Nat} (h : vp_in i n) : i.toNatClampNeg < n ∧ ¬ i < 0 := ⟨Nat.not_le.mp fun q => h (Or.inr q), fun q => h (Or.inl q)⟩
theorem rj_ev_i {κ : rj_E} {G : mj_G} {k a j : Nat} (h : k = 20 ∨ k = 22 ∨ k = 23) : rj_ev κ G k a j = .int (mj_i G a j) := by
  unfold rj_ev
  rw [if_neg (by omega), if_neg (by omega)]
theorem rj_ev_r {κ : rj_E} {G : mj_G} {k a j : Nat} (h : 30 ≤ k) : rj_ev κ G k a j = rj_rv κ (mj_r G a j) := by
  unfold rj_ev
  rw [if_neg (by omega), if_pos h]
theorem rj_ev_j {κ : rj_E} {G : mj_G} {a j : Nat} : rj_ev κ G 21 a j = .long (mj_j G a j) := by
  unfold rj_ev
  rw [if_pos rfl]
theorem rj_aK_obj {k : Nat} (h : k ∈ rj_aK) (h30 : 30 ≤ k) : rj_aT k = .object (rj_R (k - 30)) ∧ k - 30 < 18 ∧ k - 30 ≠ 2 ∧ rj_no (k - 30) := by
  simp only [rj_aK, List.mem_cons, List.not_mem_nil, or_false] at h
  rcases h with rfl | rfl | rfl | rfl | rfl | rfl | rfl | rfl | rfl <;> first | (exact absurd h30 (by decide)) | exact ⟨rfl, by decide, by decide, by decide⟩
section MJA
variable {p : Program} {l : Launch} {e : Env} {R : Room} {s : State} {m : MethodId} {args : Array Value} {below : List Frame} {meth : Method} {c : Code} {H : Heap} {locs : List Loc} {cells slots : Nat} {Q : State → Prop}
variable {cc : ByteArray} {κ : rj_E} {G : mj_G} {lsA : Array Slot} {nL pc : Nat} {ls : List (Option mj_V)} {st : List mj_V} {K : mj_K}
/-- an array's cell, its elements, none outside -/
theorem rj_acell (hA : rj_Am κ s) (hR : rj_Re κ G H) {a k : Nat} (h3 : 3 ≤ a) (hk : mj_k G a = k) (h20 : 20 ≤ k) {i : Int32} (hin : vp_in i (mj_l G a)) :
    ∃ cell : Cell, H[rj_ph κ a]? = some cell ∧ s.isArrayOf cell (rj_aT k) ∧ cell.vm = .none ∧ ¬ (i < 0 ∨ cell.slots.size ≤ i.toNatClampNeg) ∧ cell.slots[i.toNatClampNeg]? = some (rj_ev κ G k a i.toNatClampNeg) ∧ cell = arrV (rj_eA κ k) (mj_l G a) (rj_ev κ G k a) := by
  obtain ⟨d1, d2, d3⟩ := rj_arr hA hR h3 (by omega)
  rw [hk] at d1 d2
  exact ⟨_, d1, d2, rfl, by rw [arrV_size]; exact hin, arrV_read _ _ (rj_lt_in hin).1, rfl⟩
theorem rj_W_iaload (hx : p.tables.exec = Jvm.exec) (hb : c.code = cc) (hA : rj_Am κ s) (hS : va_S (fun q => rj_eb κ ≤ q) s.heap H locs) (hR : rj_Re κ G H) (hd : decode cc pc = .ok (.iaload, 1)) {K' : List mj_V → Prop} (h : mj_ald G 20 st K') (kk : ∀ st', K' st' → W p l e R s m args below meth c H locs cells slots Q (F0 m (pc + 1) lsA (st'.map (rj_vm κ)))) : W p l e R s m args below meth c H locs cells slots Q (F0 m pc lsA (st.map (rj_vm κ))) := by
  unfold mj_ald at h
  split at h
  · rename_i i a st'
    obtain ⟨h1, h2, h3⟩ := h
    have h9 := kk _ h3
    by_cases ha : a = 1
    · subst ha
      obtain ⟨-, -, -, -, -, hX, -, q1, q2, q3, -⟩ := hA
      rw [hR.l1] at h2
      refine va_sld hx hb hX (by omega) (by omega) hS h2 hd ?_
      rw [← hR.i1 _ (rj_lt_in h2).1]
      exact h9
    · have g3 : 3 ≤ a := hR.ge3 (by omega) (fun e => ha e) (fun e => by rw [e, hR.k2] at h1; omega)
      obtain ⟨cell, c1, c2, c3, c4, c5, -⟩ := rj_acell hA hR g3 h1 (by omega) h2
      rw [rj_ev_i (by omega)] at c5
      show W p l e R s m args below meth c H locs cells slots Q (F0 m pc lsA (.int i :: rj_rv κ a :: st'.map (rj_vm κ)))
      rw [rj_rvn (by omega)]
      exact W.iald hx hb c1 c2 (by rw [c3]; exact fun h => by cases h) c4 c5 rfl rfl hd h9
  · exact h.elim
theorem rj_W_caload (hx : p.tables.exec = Jvm.exec) (hb : c.code = cc) (hA : rj_Am κ s) (hS : va_S (fun q => rj_eb κ ≤ q) s.heap H locs) (hR : rj_Re κ G H) (hd : decode cc pc = .ok (.caload, 1)) {K' : List mj_V → Prop} (h : mj_ald G 22 st K') (kk : ∀ st', K' st' → W p l e R s m args below meth c H locs cells slots Q (F0 m (pc + 1) lsA (st'.map (rj_vm κ)))) : W p l e R s m args below meth c H locs cells slots Q (F0 m pc lsA (st.map (rj_vm κ))) := by
  unfold mj_ald at h
  split at h
  · rename_i i a st'
    obtain ⟨h1, h2, h3⟩ := h
    have h9 := kk _ h3
    by_cases ha : a = 2
    · subst ha
      rw [hR.l2] at h2
      exact absurd (rj_lt_in h2).1 (by omega)
    · have g3 : 3 ≤ a := hR.ge3 (by omega) (fun e => by rw [e, hR.k1] at h1; omega) (fun e => ha e)
      obtain ⟨cell, c1, c2, c3, c4, c5, -⟩ := rj_acell hA hR g3 h1 (by omega) h2
      rw [rj_ev_i (by omega)] at c5
      show W p l e R s m args below meth c H locs cells slots Q (F0 m pc lsA (.int i :: rj_rv κ a :: st'.map (rj_vm κ)))
      rw [rj_rvn (by omega)]
      exact W.cald hx hb c1 c2 (by rw [c3]; exact fun h => by cases h) c4 c5 rfl rfl hd h9
  · exact h.elim
theorem rj_W_baload (hx : p.tables.exec = Jvm.exec) (hb : c.code = cc) (hA : rj_Am κ s) (hS : va_S (fun q => rj_eb κ ≤ q) s.heap H locs) (hR : rj_Re κ G H) (hd : decode cc pc = .ok (.baload, 1)) {K' : List mj_V → Prop} (h : mj_ald G 23 st K') (kk : ∀ st', K' st' → W p l e R s m args below meth c H locs cells slots Q (F0 m (pc + 1) lsA (st'.map (rj_vm κ)))) : W p l e R s m args below meth c H locs cells slots Q (F0 m pc lsA (st.map (rj_vm κ))) := by
  unfold mj_ald at h
  split at h
  · rename_i i a st'
    obtain ⟨h1, h2, h3⟩ := h
    have h9 := kk _ h3
    · have g3 : 3 ≤ a := hR.ge3 (by omega) (fun e => by rw [e, hR.k1] at h1; omega) (fun e => by rw [e, hR.k2] at h1; omega)
      obtain ⟨cell, c1, c2, c3, c4, c5, -⟩ := rj_acell hA hR g3 h1 (by omega) h2
      rw [rj_ev_i (by omega)] at c5
      show W p l e R s m args below meth c H locs cells slots Q (F0 m pc lsA (.int i :: rj_rv κ a :: st'.map (rj_vm κ)))
      rw [rj_rvn (by omega)]
      exact W.zald hx hb c1 c2 (by rw [c3]; exact fun h => by cases h) c4 c5 rfl rfl hd h9
  · exact h.elim
theorem rj_W_laload (hx : p.tables.exec = Jvm.exec) (hb : c.code = cc) (hA : rj_Am κ s) (hS : va_S (fun q => rj_eb κ ≤ q) s.heap H locs) (hR : rj_Re κ G H) (hd : decode cc pc = .ok (.laload, 1)) {i : Int32} {a : Nat} (h1 : mj_k G a = 21) (h2 : vp_in i (mj_l G a)) (kk : W p l e R s m args below meth c H locs cells slots Q (F0 m (pc + 1) lsA (.long (mj_j G a i.toNatClampNeg) :: st.map (rj_vm κ)))) : W p l e R s m args below meth c H locs cells slots Q (F0 m pc lsA (.int i :: rj_rv κ a :: st.map (rj_vm κ))) := by
  have g3 : 3 ≤ a := hR.ge3 (by omega) (fun e => by rw [e, hR.k1] at h1; omega) (fun e => by rw [e, hR.k2] at h1; omega)
  obtain ⟨cell, c1, c2, c3, c4, c5, -⟩ := rj_acell hA hR g3 h1 (by omega) h2
  rw [rj_ev_j] at c5
  rw [rj_rvn (by omega)]
  exact W.lald hx hb c1 c2 (by rw [c3]; exact fun h => by cases h) c4 c5 rfl rfl hd kk
theorem rj_W_aaload (hx : p.tables.exec = Jvm.exec) (hb : c.code = cc) (hA : rj_Am κ s) (hS : va_S (fun q => rj_eb κ ≤ q) s.heap H locs) (hR : rj_Re κ G H) (hd : decode cc pc = .ok (.aaload, 1)) {i : Int32} {a : Nat} (h1 : 30 ≤ mj_k G a) (h2 : vp_in i (mj_l G a)) (kk : W p l e R s m args below meth c H locs cells slots Q (F0 m (pc + 1) lsA (rj_rv κ (mj_r G a i.toNatClampNeg) :: st.map (rj_vm κ)))) : W p l e R s m args below meth c H locs cells slots Q (F0 m pc lsA (.int i :: rj_rv κ a :: st.map (rj_vm κ))) := by
  have g3 : 3 ≤ a := hR.ge3 (by omega) (fun e => by rw [e, hR.k1] at h1; omega) (fun e => by rw [e, hR.k2] at h1; omega)
  obtain ⟨cell, c1, c2, c3, c4, c5, -⟩ := rj_acell hA hR g3 rfl (by omega) h2
  obtain ⟨-, hmem, -⟩ := hR.arr g3 (by omega)
  rw [rj_ev_r h1] at c5
  rw [rj_rvn (by omega)]
  exact W.aald hx hb c1 c2 (by rw [(rj_aK_obj hmem h1).1]; rfl) (by rw [c3]; exact fun h => by cases h) c4 c5 rfl rfl hd kk
theorem rj_W_alen (hx : p.tables.exec = Jvm.exec) (hb : c.code = cc) (hA : rj_Am κ s) (hS : va_S (fun q => rj_eb κ ≤ q) s.heap H locs) (hR : rj_Re κ G H) (hd : decode cc pc = .ok (.arraylength, 1)) {a : Nat} (h1 : 20 ≤ mj_k G a) (kk : W p l e R s m args below meth c H locs cells slots Q (F0 m (pc + 1) lsA (.int (Int32.ofNat (mj_l G a)) :: st.map (rj_vm κ)))) : W p l e R s m args below meth c H locs cells slots Q (F0 m pc lsA (rj_rv κ a :: st.map (rj_vm κ))) := by
  by_cases ha1 : a = 1
  · subst ha1
    obtain ⟨-, -, -, -, -, hX, -, q1, q2, q3, -⟩ := hA
    rw [hR.l1] at kk
    exact va_slen (b := rj_es κ) hx hb hX (by omega) (by omega) hS hd kk
  · by_cases ha2 : a = 2
    · subst ha2
      obtain ⟨-, -, -, -, -, -, ⟨cell, c1, c2, c3, c4⟩, q1, q2, q3, -⟩ := hA
      rw [hR.l2] at kk
      refine W.alen (cell := cell) hx hb (a := rj_ec κ) ?_ c2 (by rw [c4]) rfl rfl hd kk
      rw [hS.2.1 _ (by omega) (by omega)]
      exact c1
    · have g3 : 3 ≤ a := hR.ge3 h1 ha1 ha2
      obtain ⟨d1, d2, d3⟩ := rj_arr hA hR g3 h1
      rw [rj_rvn (by omega)]
      exact W.alen hx hb d1 d2 (by rw [arrV_size]) rfl rfl hd kk
theorem rj_W_iastore (hx : p.tables.exec = Jvm.exec) (hb : c.code = cc) (hA : rj_Am κ s) (hS : va_S (fun q => rj_eb κ ≤ q) s.heap H locs) (hR : rj_Re κ G H) (hd : decode cc pc = .ok (.iastore, 1)) {K' : List mj_V → mj_G → Prop} (h : mj_ast G 20 0 st K') (kk : ∀ st' G' H' locs', K' st' G' → va_S (fun q => rj_eb κ ≤ q) s.heap H' locs' → rj_Re κ G' H' → mj_n G' = mj_n G → mj_u G' = mj_u G → W p l e R s m args below meth c H' locs' cells slots Q (F0 m (pc + 1) lsA (st'.map (rj_vm κ)))) : W p l e R s m args below meth c H locs cells slots Q (F0 m pc lsA (st.map (rj_vm κ))) := by
  unfold mj_ast at h
  split at h
  · rename_i x i a st'
    obtain ⟨h1, g3, h2, hf, h3⟩ := h
    obtain ⟨cell, c1, c2, c3, c4, c5, c6⟩ := rj_acell hA hR g3 h1 (by omega) h2
    show W p l e R s m args below meth c H locs cells slots Q (F0 m pc lsA (.int x :: .int i :: rj_rv κ a :: st'.map (rj_vm κ)))
    rw [rj_rvn (by omega)]
    refine W.iast hx hb c1 c2 (by rw [c3]; exact fun h => by cases h) c4 rfl rfl hd fun H1 e z oq => ?_
    obtain ⟨r1, r2⟩ := hR.elt (G' := mj_pI G a i.toNatClampNeg x) hA hS g3 (by omega) (k := i.toNatClampNeg) (v := .int x) (H1 := H1) (by rw [e, c6, h1]) z oq rfl rfl rfl rj_up_i (fun y => by
      rw [rj_ev_i (by omega), rj_ev_i (by omega), rj_at_i]
      split <;> rfl) (fun h22 y => by
      omega)
    exact kk _ _ _ _ h3 r1 r2 rfl rfl
  · exact h.elim
theorem rj_W_castore (hx : p.tables.exec = Jvm.exec) (hb : c.code = cc) (hA : rj_Am κ s) (hS : va_S (fun q => rj_eb κ ≤ q) s.heap H locs) (hR : rj_Re κ G H) (hd : decode cc pc = .ok (.castore, 1)) {K' : List mj_V → mj_G → Prop} (h : mj_ast G 22 2 st K') (kk : ∀ st' G' H' locs', K' st' G' → va_S (fun q => rj_eb κ ≤ q) s.heap H' locs' → rj_Re κ G' H' → mj_n G' = mj_n G → mj_u G' = mj_u G → W p l e R s m args below meth c H' locs' cells slots Q (F0 m (pc + 1) lsA (st'.map (rj_vm κ)))) : W p l e R s m args below meth c H locs cells slots Q (F0 m pc lsA (st.map (rj_vm κ))) := by
  unfold mj_ast at h
  split at h
  · rename_i x i a st'
    obtain ⟨h1, g3, h2, hf, h3⟩ := h
    obtain ⟨cell, c1, c2, c3, c4, c5, c6⟩ := rj_acell hA hR g3 h1 (by omega) h2
    show W p l e R s m args below meth c H locs cells slots Q (F0 m pc lsA (.int x :: .int i :: rj_rv κ a :: st'.map (rj_vm κ)))
    rw [rj_rvn (by omega)]
    refine W.cast hx hb c1 c2 (by rw [c3]; exact fun h => by cases h) c4 rfl rfl hd fun H1 e z oq => ?_
    rw [(rj_nf (t := 2) (y := .char) rfl (by decide) hf).1] at e
    obtain ⟨r1, r2⟩ := hR.elt (G' := mj_pI G a i.toNatClampNeg x) hA hS g3 (by omega) (k := i.toNatClampNeg) (v := .int x) (H1 := H1) (by rw [e, c6, h1]) z oq rfl rfl rfl rj_up_i (fun y => by
      rw [rj_ev_i (by omega), rj_ev_i (by omega), rj_at_i]
      split <;> rfl) (fun h22 y => by
      rw [rj_at_i]
      split
      · exact hf
      · exact (hR.arr g3 (by omega)).2.2.2.1 h1 y)
    exact kk _ _ _ _ h3 r1 r2 rfl rfl
  · exact h.elim
theorem rj_W_bastore (hx : p.tables.exec = Jvm.exec) (hb : c.code = cc) (hA : rj_Am κ s) (hS : va_S (fun q => rj_eb κ ≤ q) s.heap H locs) (hR : rj_Re κ G H) (hd : decode cc pc = .ok (.bastore, 1)) {K' : List mj_V → mj_G → Prop} (h : mj_ast G 23 1 st K') (kk : ∀ st' G' H' locs', K' st' G' → va_S (fun q => rj_eb κ ≤ q) s.heap H' locs' → rj_Re κ G' H' → mj_n G' = mj_n G → mj_u G' = mj_u G → W p l e R s m args below meth c H' locs' cells slots Q (F0 m (pc + 1) lsA (st'.map (rj_vm κ)))) : W p l e R s m args below meth c H locs cells slots Q (F0 m pc lsA (st.map (rj_vm κ))) := by
  unfold mj_ast at h
  split at h
  · rename_i x i a st'
    obtain ⟨h1, g3, h2, hf, h3⟩ := h
    obtain ⟨cell, c1, c2, c3, c4, c5, c6⟩ := rj_acell hA hR g3 h1 (by omega) h2
    show W p l e R s m args below meth c H locs cells slots Q (F0 m pc lsA (.int x :: .int i :: rj_rv κ a :: st'.map (rj_vm κ)))
    rw [rj_rvn (by omega)]
    refine W.zast hx hb c1 c2 (by rw [c3]; exact fun h => by cases h) c4 rfl rfl hd fun H1 e z oq => ?_
    rw [(rj_nf (t := 1) (y := .boolean) rfl (by decide) hf).1] at e
    obtain ⟨r1, r2⟩ := hR.elt (G' := mj_pI G a i.toNatClampNeg x) hA hS g3 (by omega) (k := i.toNatClampNeg) (v := .int x) (H1 := H1) (by rw [e, c6, h1]) z oq rfl rfl rfl rj_up_i (fun y => by
      rw [rj_ev_i (by omega), rj_ev_i (by omega), rj_at_i]
      split <;> rfl) (fun h22 y => by
      omega)
    exact kk _ _ _ _ h3 r1 r2 rfl rfl
  · exact h.elim
theorem rj_W_lastore (hx : p.tables.exec = Jvm.exec) (hb : c.code = cc) (hA : rj_Am κ s) (hS : va_S (fun q => rj_eb κ ≤ q) s.heap H locs) (hR : rj_Re κ G H) (hd : decode cc pc = .ok (.lastore, 1)) {i : Int32} {a : Nat} {x : Int64} (h1 : mj_k G a = 21) (h2 : vp_in i (mj_l G a)) (kk : ∀ H' locs', va_S (fun q => rj_eb κ ≤ q) s.heap H' locs' → rj_Re κ (mj_pJ G a i.toNatClampNeg x) H' → W p l e R s m args below meth c H' locs' cells slots Q (F0 m (pc + 1) lsA (st.map (rj_vm κ)))) : W p l e R s m args below meth c H locs cells slots Q (F0 m pc lsA (.long x :: .int i :: rj_rv κ a :: st.map (rj_vm κ))) := by
  have g3 : 3 ≤ a := hR.ge3 (by omega) (fun e => by rw [e, hR.k1] at h1; omega) (fun e => by rw [e, hR.k2] at h1; omega)
  obtain ⟨cell, c1, c2, c3, c4, c5, c6⟩ := rj_acell hA hR g3 h1 (by omega) h2
  rw [rj_rvn (by omega)]
  refine W.last hx hb c1 c2 (by rw [c3]; exact fun h => by cases h) c4 rfl rfl hd fun H1 e z oq => ?_
  obtain ⟨r1, r2⟩ := hR.elt (G' := mj_pJ G a i.toNatClampNeg x) hA hS g3 (by omega) (k := i.toNatClampNeg) (v := .long x) (H1 := H1) (by rw [e, c6, h1]) z oq rfl rfl rfl rj_up_j (fun y => by
    rw [h1, rj_ev_j, rj_ev_j, rj_at_j]
    split <;> rfl) (fun h22 y => by omega)
  exact kk _ _ r1 r2
theorem rj_W_aastore (hx : p.tables.exec = Jvm.exec) (hb : c.code = cc) (hA : rj_Am κ s) (hS : va_S (fun q => rj_eb κ ≤ q) s.heap H locs) (hR : rj_Re κ G H) (hd : decode cc pc = .ok (.aastore, 1)) {i : Int32} {a x : Nat} (h1 : 30 ≤ mj_k G a) (h2 : vp_in i (mj_l G a)) (hx0 : x = 0 ∨ mj_k G x + 29 = mj_k G a) (kk : ∀ H' locs', va_S (fun q => rj_eb κ ≤ q) s.heap H' locs' → rj_Re κ (mj_pR G a i.toNatClampNeg x) H' → W p l e R s m args below meth c H' locs' cells slots Q (F0 m (pc + 1) lsA (st.map (rj_vm κ)))) : W p l e R s m args below meth c H locs cells slots Q (F0 m pc lsA (rj_rv κ x :: .int i :: rj_rv κ a :: st.map (rj_vm κ))) := by
  have g3 : 3 ≤ a := hR.ge3 (by omega) (fun e => by rw [e, hR.k1] at h1; omega) (fun e => by rw [e, hR.k2] at h1; omega)
  obtain ⟨cell, c1, c2, c3, c4, c5, c6⟩ := rj_acell hA hR g3 rfl (by omega) h2
  obtain ⟨-, hmem, -⟩ := hR.arr g3 (by omega)
  obtain ⟨o1, o2, o3, o4⟩ := rj_aK_obj hmem h1
  have fin : ∀ H1 : Heap, H1[rj_ph κ a]? = some (cell.setSlot i.toNatClampNeg (rj_rv κ x)) → H1.size = H.size → (∀ q, q ≠ rj_ph κ a → H1[q]? = H[q]?) → W p l e R s m args below meth c H1 (locs ++ [⟨rj_ph κ a, i.toNatClampNeg⟩]) cells slots Q (F0 m (pc + 1) lsA (st.map (rj_vm κ))) := by
    intro H1 e z oq
    obtain ⟨r1, r2⟩ := hR.elt (G' := mj_pR G a i.toNatClampNeg x) hA hS g3 (by omega) (k := i.toNatClampNeg) (v := rj_rv κ x) (H1 := H1) (by rw [e, c6]) z oq rfl rfl rfl rj_up_r (fun y => by
      rw [rj_ev_r h1, rj_ev_r h1, rj_at_r]
      split <;> rfl) (fun h22 y => by omega)
    exact kk _ _ r1 r2
  rw [rj_rvn (r := a) (by omega)]
  by_cases hx1 : x = 0
  · subst hx1
    rw [o1] at c2
    exact va_WaastN hx hb c1 c2 (by rw [c3]; exact fun h => by cases h) c4 rfl rfl hd fin
  · have hkx : mj_k G x = (mj_k G a - 30) + 1 := by omega
    obtain ⟨x3, xlt, -, -, cv, v1, v2, v3, -⟩ := hR.obj hkx o2
    obtain ⟨-, hfc, kC, hkC, hkind⟩ := hA.1.1 _ o2 o3 o4
    have hra := (hA.1.2 _ hmem).2
    rw [o1] at hra
    obtain ⟨kA, comp, k1, k2, k3, -⟩ := hra
    have ecomp : (rj_eD κ).1 (mj_k G a - 30) = comp := Option.some.inj (hfc.symm.trans k3)
    rw [rj_rvn hx1] at fin ⊢
    refine W.aast hx hb c1 (fun q h => by rw [c3] at h; cases h) (by rw [c3]; exact fun h => by cases h) (by rw [c6]; exact k1) k2 rfl (by rw [← ecomp]; exact hkC) ⟨(rj_lt_in h2).2, Nat.not_le.mp fun q => c4 (Or.inr q)⟩ v1 (fun q h => by rw [v2] at h; cases h) (by rw [v3]; exact hkC) (by rw [v3, ecomp]; exact va_asg _ _) rfl rfl hd fin
end MJA
