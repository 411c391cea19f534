/-! NEW CELLS, THE JDK'S OWN METHODS -/
section MJT
variable {p : Program} {l : Launch} {e : Env} {R : Room} {s : State} {m : MethodId} {args : Array Value} {below : List Frame} {meth : Method} {c : Code} {H : Heap} {locs : List Loc} {cells slots : Nat} {Q : State → Prop}
variable {cc : ByteArray} {κ : rj_E} {G : mj_G} {lsA : Array Slot} {nL pc : Nat} {ls : List (Option mj_V)} {st : List mj_V} {K : mj_K}
theorem rj_RA_eq {U : State} {cA cB : ClassId} {ty : FieldType} (h : va_RA U cB ty) (hf : U.vm.findClass ("[" ++ ty.toString) = some cA) : cA = cB := by
  cases ty with
  | object C =>
    obtain ⟨kA, comp, -, -, -, h4⟩ := h
    exact Option.some.inj (hf.symm.trans h4)
  | _ => exact Option.some.inj (hf.symm.trans h)
theorem rj_al_ks {G : mj_G} {k n : Nat} {row : Nat → Int32} : mj_k (mj_al G k n row) (mj_n G) = k := by show mj_u1 _ _ _ _ = _; unfold mj_u1; rw [if_pos rfl]
theorem rj_al_ls {G : mj_G} {k n : Nat} {row : Nat → Int32} : mj_l (mj_al G k n row) (mj_n G) = n := by show mj_u1 _ _ _ _ = _; unfold mj_u1; rw [if_pos rfl]
theorem rj_al_is {G : mj_G} {k n : Nat} {row : Nat → Int32} : mj_i (mj_al G k n row) (mj_n G) = row := by funext y; show (if mj_n G = mj_n G then _ else _) = _; rw [if_pos rfl]
theorem rj_al_rs {G : mj_G} {k n : Nat} {row : Nat → Int32} (y : Nat) : mj_r (mj_al G k n row) (mj_n G) y = 0 := by show (if mj_n G = mj_n G then _ else _) = _; rw [if_pos rfl]
theorem rj_al_js {G : mj_G} {k n : Nat} {row : Nat → Int32} (y : Nat) : mj_j (mj_al G k n row) (mj_n G) y = 0 := by show (if mj_n G = mj_n G then _ else _) = _; rw [if_pos rfl]
theorem rj_new_arr (hA : rj_Am κ s) (hS : va_S (fun q => rj_eb κ ≤ q) s.heap H locs) (hR : rj_Re κ G H) {k n : Nat} {row : Nat → Int32} {z : Nat → Value} {cA : ClassId} {H' : Heap} (hk : 20 ≤ k) (hK : k ∈ rj_aK) (hn : n ≤ 1000000) (hf : s.vm.findClass ("[" ++ (rj_aT k).toString) = some cA)
    (e : H'[H.size]? = some (arrV cA n z)) (hz : ∀ j, z j = if k = 21 then .long 0 else if 30 ≤ k then .null else .int (row j)) (hc : k = 22 → ∀ j, mj_c (row j)) (zz : H'.size = H.size + 1) (oq : ∀ q, q < H.size → H'[q]? = H[q]?) : va_S (fun q => rj_eb κ ≤ q) s.heap H' locs ∧ rj_Re κ (mj_al G k n row) H' ∧ rj_rv κ (mj_n G) = .ref H.size := by
  have hcA := rj_RA_eq (hA.1.2 k hK).2 hf
  obtain ⟨r1, r2⟩ := hR.new (k := k) (n := n) (row := row) (by omega) zz oq ⟨fun h => by rw [rj_al_ks] at h; omega, fun _ => by
    rw [rj_al_ks, rj_al_ls, rj_al_is]
    refine ⟨hK, ?_, hc, hn⟩
    rw [e, hcA]
    congr 2
    funext y
    rw [hz y]
    unfold rj_ev
    rw [rj_al_is, rj_al_rs, rj_al_js]
    rfl⟩
  exact ⟨rj_Snew hS zz oq, r1, by rw [rj_rvn (by have := hR.2.1; omega), r2]⟩
theorem rj_newarr (hx : p.tables.exec = Jvm.exec) (hb : c.code = cc) (hA : rj_Am κ s) (hS : va_S (fun q => rj_eb κ ≤ q) s.heap H locs) (hR : rj_Re κ G H) (hL : rj_LR κ lsA nL ls) {t : ArrayType} {n : Int32} (ht : rj_aty t ≠ 0) (h0 : ¬ n < 0) (hn : n.toNatClampNeg ≤ 1000000) (hd : decode cc pc = .ok (.newarray t, 2))
    (hroom : cells + 1 ≤ R.cells ∧ slots + n.toNatClampNeg ≤ R.slots) (go : rj_Go p l e R s m args below meth c cells slots Q κ nL G K) (hK : K (pc + 2) ls (.inr (.inr (mj_n G)) :: st) (mj_al G (rj_aty t) n.toNatClampNeg (fun _ => 0))) :
    W p l e R s m args below meth c H locs cells slots Q (F0 m pc lsA (.int n :: st.map (rj_vm κ))) := by
  have key : ∀ {ty : FieldType} {k : Nat}, newarray.typeOf t = ty → rj_aty t = k → rj_aT k = ty → 20 ≤ k → k ∈ rj_aK → componentBytes ty ≤ 8 → (∀ j : Nat, defaultValue ty = if k = 21 then .long 0 else if 30 ≤ k then .null else .int ((fun _ => 0 : Nat → Int32) j)) → Jvm.Cond.arrayClass ty ∈ rj_W → W p l e R s m args below meth c H locs cells slots Q (F0 m pc lsA (.int n :: st.map (rj_vm κ))) := by
    intro ty k e1 e2 e3 hk hkm hby hdv hw
    refine va_newaK (atype := t) hx hb (by rw [e1]; exact hA.word hw) rfl hd rfl h0 rfl (by
        rw [e1]
        have := Nat.mul_le_mul hn hby
        omega) hroom.1 hroom.2 rfl (fun H' cA q1 q2 q3 q4 q5 => ?_)
    rw [e1] at q1 q5
    obtain ⟨a1, a2, a3⟩ := rj_new_arr hA hS hR (k := k) (n := n.toNatClampNeg) (row := fun _ => 0) hk hkm hn (by rw [e3]; exact q5) q1 hdv (fun _ _ => ⟨by decide, by decide⟩) q2 q3
    rw [e2] at hK
    have h9 := go _ _ _ _ H' locs lsA hK a1 a2 hL
    have en : mj_n (mj_al G k n.toNatClampNeg (fun _ => 0)) = mj_n G + 1 := rfl
    have eu : mj_u (mj_al G k n.toNatClampNeg (fun _ => 0)) = mj_u G + n.toNatClampNeg := rfl
    have h10 : W p l e R s m args below meth c H' locs (cells + 1) (slots + n.toNatClampNeg) Q (F0 m (pc + 2) lsA (rj_rv κ (mj_n G) :: st.map (rj_vm κ))) := W.cs (by omega) (by omega) h9
    rw [a3] at h10
    exact h10
  cases t <;> first | (exact absurd rfl ht) | skip
  · exact key rfl rfl rfl (by decide) (by decide) (by decide) (fun _ => rfl) rj_x_ac_char
  · exact key rfl rfl rfl (by decide) (by decide) (by decide) (fun _ => rfl) rj_x_ac_int
theorem rj_ao_k {cI : Nat} (h : mj_ao cI = true) : cI + 30 ∈ rj_aK ∧ Jvm.Cond.arrayOver (.object (rj_R cI)) ∈ rj_W ∧ rj_aT (cI + 30) = .object (rj_R cI) := by
  unfold mj_ao at h
  split at h <;> first | (cases h; done) | skip
  · exact ⟨by decide, rj_x_ao_3, rfl⟩
  · exact ⟨by decide, rj_x_ao_4, rfl⟩
  · exact ⟨by decide, rj_x_ao_5, rfl⟩
  · exact ⟨by decide, rj_x_ao_10, rfl⟩
  · exact ⟨by decide, rj_x_ao_11, rfl⟩
theorem rj_anewarr (hx : p.tables.exec = Jvm.exec) (hb : c.code = cc) (hA : rj_Am κ s) (hS : va_S (fun q => rj_eb κ ≤ q) s.heap H locs) (hR : rj_Re κ G H) (hL : rj_LR κ lsA nL ls) {own k cI : Nat} {n : Int32} (hown : s.vm.findClass (rj_R own) = some m.cls) (hcl : rj_cl own k = some cI) (hao : mj_ao cI = true) (h0 : ¬ n < 0) (hn : n.toNatClampNeg ≤ 1000000) (hd : decode cc pc = .ok (.anewarray k, 3))
    (hroom : cells + 1 ≤ R.cells ∧ slots + n.toNatClampNeg ≤ R.slots) (go : rj_Go p l e R s m args below meth c cells slots Q κ nL G K) (hK : K (pc + 3) ls (.inr (.inr (mj_n G)) :: st) (mj_al G (cI + 30) n.toNatClampNeg (fun _ => 0))) :
    W p l e R s m args below meth c H locs cells slots Q (F0 m pc lsA (.int n :: st.map (rj_vm κ))) := by
  obtain ⟨k1, k2, k3⟩ := rj_ao_k hao
  refine W.anew hx hb hown (hA.word (rj_cl_w hcl).1) (hA.word k2) rfl hd rfl h0 (by omega) hroom.1 hroom.2 fun cA kA comp f1 f2 f3 f4 => ?_
  generalize hH1 : H.push ({ cls := cA, slots := Array.replicate n.toNatClampNeg .null, vm := .none } : Cell) = H1
  have z1 : H1.size = H.size + 1 := by rw [← hH1, Array.size_push]
  have e1 : H1[H.size]? = some (arrV cA n.toNatClampNeg (fun _ => .null)) := by rw [← hH1, Array.getElem?_push_size, ← arrV_new]
  have o1 : ∀ q : Nat, q < H.size → H1[q]? = H[q]? := fun q hq => by rw [← hH1, Array.getElem?_push, if_neg (Nat.ne_of_lt hq)]
  obtain ⟨a1, a2, a3⟩ := rj_new_arr hA hS hR (k := cI + 30) (n := n.toNatClampNeg) (row := fun _ => 0) (by omega) k1 hn (by rw [k3]; exact f1) e1 (fun j => by rw [if_neg (by omega), if_pos (by omega)]) (fun h => by omega) z1 o1
  have h9 := go _ _ _ _ H1 locs lsA hK a1 a2 hL
  have en : mj_n (mj_al G (cI + 30) n.toNatClampNeg (fun _ => 0)) = mj_n G + 1 := rfl
  have eu : mj_u (mj_al G (cI + 30) n.toNatClampNeg (fun _ => 0)) = mj_u G + n.toNatClampNeg := rfl
  have h10 : W p l e R s m args below meth c H1 locs (cells + 1) (slots + n.toNatClampNeg) Q (F0 m (pc + 3) lsA (rj_rv κ (mj_n G) :: st.map (rj_vm κ))) := W.cs (by omega) (by omega) h9
  rw [a3] at h10
  exact h10
theorem rj_newobj (hx : p.tables.exec = Jvm.exec) (hb : c.code = cc) (hA : rj_Am κ s) (hS : va_S (fun q => rj_eb κ ≤ q) s.heap H locs) (hR : rj_Re κ G H) (hL : rj_LR κ lsA nL ls) {own k cI : Nat} (hown : s.vm.findClass (rj_R own) = some m.cls) (hcl : rj_cl own k = some cI) (h15 : cI < 15) (hd : decode cc pc = .ok (.new k, 3))
    (hroom : cells + 1 ≤ R.cells ∧ slots + rj_N cI ≤ R.slots) (go : rj_Go p l e R s m args below meth c cells slots Q κ nL G K) (hK : K (pc + 3) ls (.inr (.inr (mj_n G)) :: st) (mj_al G (cI + 1) (rj_N cI) (fun _ => 0))) :
    W p l e R s m args below meth c H locs cells slots Q (F0 m pc lsA (st.map (rj_vm κ))) := by
  obtain ⟨hw, h18, n2, n14⟩ := rj_cl_w hcl
  obtain ⟨w1, w2, w3⟩ := rj_qc_w h18 n2 n14
  have hKn := hA.1.1 cI h18 n2 n14
  have hisz : rj_isz cI = rj_N cI := by
    unfold rj_isz
    cases hbb : Nat.ble 15 cI with
    | true => have := Nat.le_of_ble_eq_true hbb; omega
    | false => rfl
  rw [hisz] at w2
  refine W.newcK hx hb hown (hA.word hw) (hA.word w2) (hA.word w1) rfl hd hroom.1 hroom.2 hKn.2.1 rfl fun H1 kC hkC e1 z1 o1 => ?_
  have hborn := u_born (rj_Y cI) hA.2.1 w3 hKn hkC e1 (fun j hj => (rj_f_y h18 hj).1)
  obtain ⟨cell, b1, b2, b3, b4⟩ := hborn
  obtain ⟨r1, r2⟩ := hR.new (k := cI + 1) (n := rj_N cI) (row := fun _ => 0) (by omega) z1 o1 ⟨fun _ => by
    rw [rj_al_ks, Nat.add_sub_cancel]
    refine ⟨h18, n2, n14, cell, b1, b3, b2, fun j hj => ?_⟩
    rw [b4 j hj]
    have hty := List.all_eq_true.mp (rj_f_t cI h18) j (List.mem_range.mpr hj)
    unfold rj_sv
    rw [rj_al_rs, rj_al_is]
    congr 1
    unfold rj_ty at hty
    split at hty <;> first | (cases hty; done) | skip
    all_goals (rename_i q1 q2; show defaultValue (rj_Y cI j) = _; rw [q2, q1]; rfl), fun h => by rw [rj_al_ks] at h; omega⟩
  have h9 := go _ _ _ _ H1 locs lsA hK (rj_Snew hS z1 o1) r1 hL
  have en : mj_n (mj_al G (cI + 1) (rj_N cI) (fun _ => 0)) = mj_n G + 1 := rfl
  have eu : mj_u (mj_al G (cI + 1) (rj_N cI) (fun _ => 0)) = mj_u G + rj_N cI := rfl
  have h10 : W p l e R s m args below meth c H1 locs (cells + 1) (slots + rj_N cI) Q (F0 m (pc + 3) lsA (rj_rv κ (mj_n G) :: st.map (rj_vm κ))) := W.cs (by omega) (by omega) h9
  rw [rj_rvn (by have := hR.2.1; omega), r2] at h10
  exact h10
theorem rj_nn (z : Int32) (hz : ¬ z < 0) : z.toInt = (z.toNatClampNeg : Int) := by
  have hz0 : (0 : Int) ≤ z.toInt := by
    have := Int32.not_lt.mp hz
    simpa using Int32.le_iff_toInt_le.mp this
  show z.toInt = ((z.toInt.toNat : Nat) : Int)
  omega
theorem rj_copy (hx : p.tables.exec = Jvm.exec) (hb : c.code = cc) (hml : c.maxLocals = lsA.size) (hA : rj_Am κ s) (hS : va_S (fun q => rj_eb κ ≤ q) s.heap H locs) (hR : rj_Re κ G H) (hL : rj_LR κ lsA nL ls) {own k a a0 : Nat} {sp dp n : Int32} (hown : s.vm.findClass (rj_R own) = some m.cls) (hme : rj_me own k = some 900004) (hw : mj_w st ≤ 8) (hfr : 1 ≤ R.frames) (hlo : 41 ≤ R.locals)
    (hk : mj_k G a = 20 ∨ mj_k G a = 22) (hk0 : mj_k G a0 = mj_k G a) (ha0 : 2 ≤ a0) (h3 : 3 ≤ a) (g1 : ¬ sp < 0) (g2 : ¬ dp < 0) (g3 : ¬ n < 0) (g4 : sp.toNatClampNeg + n.toNatClampNeg ≤ mj_l G a0) (g5 : dp.toNatClampNeg + n.toNatClampNeg ≤ mj_l G a) (hd : decode cc pc = .ok (.invokestatic k, 3))
    (go : rj_Go p l e R s m args below meth c cells slots Q κ nL G K) (hK : K (pc + 3) ls st (mj_cp G a0 sp.toNatClampNeg a dp.toNatClampNeg n.toNatClampNeg)) :
    W p l e R s m args below meth c H locs cells slots Q (F0 m pc lsA (.int n :: .int dp :: rj_rv κ a :: .int sp :: rj_rv κ a0 :: st.map (rj_vm κ))) := by
  have hk20 : 20 ≤ mj_k G a := by omega
  obtain ⟨d1, d2, d3⟩ := rj_arr hA hR h3 hk20
  obtain ⟨-, dk, -, dc, -⟩ := hR.arr h3 hk20
  have hprim : refKind (rj_aT (mj_k G a)) = false := by rcases hk with e | e <;> rw [e] <;> rfl
  have hev : ∀ (G' : mj_G) (x : Nat), rj_ev κ G' (mj_k G a) x = fun j => .int (mj_i G' x j) := fun G' x => by
    funext j
    unfold rj_ev
    rw [if_neg (by omega), if_neg (by omega)]
  have hsrc : ∃ cs : Cell, H[rj_ph κ a0]? = some cs ∧ s.isArrayOf cs (rj_aT (mj_k G a)) ∧ cs.vm ≠ .unknown ∧ cs.slots.size = mj_l G a0 ∧ (∀ j, j < mj_l G a0 → cs.slots[j]? = some (.int (mj_i G a0 j))) ∧ (mj_k G a = 22 → ∀ j, j < mj_l G a0 → mj_c (mj_i G a0 j)) := by
    by_cases h2 : a0 = 2
    · subst h2
      obtain ⟨-, -, -, -, -, -, ⟨cell, c1, c2, c3, c4⟩, q1, q2, q3, -⟩ := hA
      obtain ⟨-, -, -, -, -, -, -, -, r1, r2⟩ := hR
      have e22 : mj_k G a = 22 := by rw [← hk0]; exact r1
      refine ⟨cell, ?_, by rw [e22]; exact c2, c3, by rw [c4, r2], fun j hj => by rw [r2] at hj; omega, fun _ j hj => by rw [r2] at hj; omega⟩
      have : rj_ph κ 2 = rj_ec κ := rfl
      rw [this, hS.2.1 _ (by omega) (by omega)]
      exact c1
    · obtain ⟨s1, s2, s3⟩ := rj_arr hA hR (a := a0) (by omega) (by omega)
      obtain ⟨-, -, -, sc, -⟩ := hR.arr (a := a0) (by omega) (by omega)
      rw [hk0] at s1 s2
      exact ⟨_, s1, s2, (fun h => by cases h), arrV_size _ _ _, fun j hj => by rw [arrV_read _ _ hj, hev], fun h j _ => sc (by omega) j⟩
  obtain ⟨cs, s1, s2, s3, s4, s5, s6⟩ := hsrc
  rw [rj_rvn (by omega), rj_rvn (by omega)]
  have hlink : (Jvm.Cond.methodLink (rj_R own) k arraycopyName).before args s = true := by
    rcases (rj_me_w hme).1 with h | h
    · exact hA.word h
    · exact absurd h.2 (by decide)
  have hvs : ∀ q, cs.vm ≠ .statics q := s2.1
  intro T hT X
  obtain ⟨-, k0, hk0', cm0, hkk0⟩ := s2
  obtain ⟨-, k1, hk1, cm1, hkk1⟩ := d2
  obtain ⟨vm', X', step⟩ := X.arraycopy hx hown hlink (hA.word rj_x_cp_n) (hA.word rj_x_cp_s) (hA.word rj_x_cp_i) (src := rj_ph κ a0) (dst := rj_ph κ a) (cs := cs) (cd := arrV (rj_eA κ (mj_k G a)) (mj_l G a) (rj_ev κ G (mj_k G a) a)) (srcPos := sp) (destPos := dp) (n := n) (by rw [hT]; exact s1) (by rw [hT]; exact d1)
    hvs (fun _ h => by cases h) s3 (fun h => by cases h) hk0' hk1 hkk0 hkk1 (by simp [hprim]) g1 g2 g3
    (by rw [rj_nn sp g1, rj_nn n g3, s4]; omega)
    (by rw [rj_nn dp g2, rj_nn n g3, arrV_size]; omega)
    (fun vm₁ _ i hi => by
      have e : cs.slots.getD (sp.toNatClampNeg + i) .null = .int (mj_i G a0 (sp.toNatClampNeg + i)) := by
        rw [Array.getD_eq_getD_getElem?, s5 _ (by omega)]
        rfl
      refine ⟨?_, ?_⟩
      · rw [e]
        rcases hk with e20 | e22
        · rw [e20]; rfl
        · have := s6 e22 (sp.toNatClampNeg + i) (by omega)
          rw [e22]
          simp only [rj_aT, fits, Bool.and_eq_true, decide_eq_true_eq]
          exact this
      · rw [e]
        exact trivial)
    (g := F0 m pc lsA (.int n :: .int dp :: .ref (rj_ph κ a) :: .int sp :: .ref (rj_ph κ a0) :: st.map (rj_vm κ))) rfl (by rw [hml]) (rest := st.map (rj_vm κ)) rfl (by rw [hb]; exact hd) hfr (by
      show 2 * 0 + _ + _ ≤ _
      rw [rj_w_sum]
      have : nativeFrameWords "java/lang/System" "arraycopy" 5 = 7 := by decide +kernel
      omega)
  have e1 : copied cs (arrV (rj_eA κ (mj_k G a)) (mj_l G a) (rj_ev κ G (mj_k G a) a)) sp dp n = arrV (rj_eA κ (mj_k G a)) (mj_l G a) (fun j => .int (va_cpy (mj_i G a0) (mj_i G a) sp.toNatClampNeg dp.toNatClampNeg n.toNatClampNeg j)) := by
    rw [hev]
    exact va_copiedX (fun z => .int z) cs _ (mj_i G a0) (mj_i G a) s5 g4
  rw [e1] at X' step
  have hl : rj_ph κ a < H.size := (Array.getElem?_eq_some_iff.mp d1).1
  generalize hC : arrV (rj_eA κ (mj_k G a)) (mj_l G a) (fun j => .int (va_cpy (mj_i G a0) (mj_i G a) sp.toNatClampNeg dp.toNatClampNeg n.toNatClampNeg j)) = C at X' step
  have hheap : ((T.setVm vm').setCell (rj_ph κ a) C).heap = H.setIfInBounds (rj_ph κ a) C := by rw [← hT]; rfl
  have oq : ∀ q : Nat, q ≠ rj_ph κ a → (H.setIfInBounds (rj_ph κ a) C)[q]? = H[q]? := fun q hq => by simp [Array.getElem?_setIfInBounds, Ne.symm hq]
  have es : (H.setIfInBounds (rj_ph κ a) C)[rj_ph κ a]? = some C := by simp [Array.getElem?_setIfInBounds, hl]
  have hne : ∀ x, x ≠ a → mj_i (mj_cp G a0 sp.toNatClampNeg a dp.toNatClampNeg n.toNatClampNeg) x = mj_i G x ∧ mj_r (mj_cp G a0 sp.toNatClampNeg a dp.toNatClampNeg n.toNatClampNeg) x = mj_r G x ∧ mj_j (mj_cp G a0 sp.toNatClampNeg a dp.toNatClampNeg n.toNatClampNeg) x = mj_j G x := fun x hx => ⟨by
    funext y
    show (if x = a ∧ _ then _ else _) = _
    rw [if_neg (fun h => hx h.1)], rfl, rfl⟩
  have hat : ∀ y, mj_i (mj_cp G a0 sp.toNatClampNeg a dp.toNatClampNeg n.toNatClampNeg) a y = va_cpy (mj_i G a0) (mj_i G a) sp.toNatClampNeg dp.toNatClampNeg n.toNatClampNeg y := fun y => by
    show (if a = a ∧ _ then _ else _) = _
    unfold va_cpy
    by_cases hy : dp.toNatClampNeg ≤ y ∧ y < dp.toNatClampNeg + n.toNatClampNeg
    · rw [if_pos ⟨rfl, hy⟩, if_pos hy]
    · rw [if_neg (fun h => hy h.2), if_neg hy]
  have hS1 : ∀ L : List Loc, (∀ z ∈ L, z.base = rj_ph κ a) → va_S (fun q => rj_eb κ ≤ q) s.heap (H.setIfInBounds (rj_ph κ a) C) (locs ++ L) := fun L hL => ⟨by simp; exact hS.1, fun q z1 z2 => by
      rw [oq q (fun e => z2 (by rw [e]; exact d3))]
      exact hS.2.1 q z1 z2, fun q hq => by
      rcases List.mem_append.mp hq with h | h
      · exact hS.2.2 q h
      · show rj_eb κ ≤ q.base
        rw [hL q h]; exact d3⟩
  have hR1 : rj_Re κ (mj_cp G a0 sp.toNatClampNeg a dp.toNatClampNeg n.toNatClampNeg) (H.setIfInBounds (rj_ph κ a) C) := by
    refine hR.upd h3 (by omega) rfl rfl rfl hne (by simp) oq ⟨fun h20 => ?_, fun _ => ?_⟩
    · have : mj_k (mj_cp G a0 sp.toNatClampNeg a dp.toNatClampNeg n.toNatClampNeg) a = mj_k G a := rfl
      omega
    · show mj_k G a ∈ rj_aK ∧ _ = some (arrV (rj_eA κ (mj_k G a)) (mj_l G a) (rj_ev κ (mj_cp G a0 sp.toNatClampNeg a dp.toNatClampNeg n.toNatClampNeg) (mj_k G a) a)) ∧ (mj_k G a = 22 → _) ∧ mj_l G a ≤ _
      refine ⟨dk, ?_, fun h22 y => ?_, (hR.arr h3 hk20).2.2.2.2⟩
      · rw [es, ← hC, hev]
        congr 2
        funext y
        rw [hat y]
      · rw [hat y]
        unfold va_cpy
        split
        · exact s6 h22 _ (by omega)
        · exact dc h22 y
  have h9 : ∀ L : List Loc, (∀ z ∈ L, z.base = rj_ph κ a) → W p l e R s m args below meth c (H.setIfInBounds (rj_ph κ a) C) (locs ++ L) cells slots Q (F0 m (pc + 3) lsA (st.map (rj_vm κ))) := fun L hL0 => go.z (hS1 L hL0) hR1 hL rfl rfl hK
  obtain ⟨t, a1, b1⟩ := h9 _ (fun z hz => by
      obtain ⟨w, -, hw2⟩ := List.mem_map.mp hz
      rw [← hw2]) _ hheap X'
  exact ⟨t, step t a1, b1⟩
theorem rj_clone (hx : p.tables.exec = Jvm.exec) (hb : c.code = cc) (hml : c.maxLocals = lsA.size) (hA : rj_Am κ s) (hS : va_S (fun q => rj_eb κ ≤ q) s.heap H locs) (hR : rj_Re κ G H) (hL : rj_LR κ lsA nL ls) {own k a : Nat} (hown : s.vm.findClass (rj_R own) = some m.cls) (hme : rj_me own k = some 900005) (hw : mj_w st ≤ 8) (hfr : 1 ≤ R.frames) (hlo : 41 ≤ R.locals)
    (hk : mj_k G a = 20) (h3 : 3 ≤ a) (hl : mj_l G a ≤ 1000000) (hd : decode cc pc = .ok (.invokevirtual k, 3)) (hroom : cells + 1 ≤ R.cells ∧ slots + mj_l G a ≤ R.slots)
    (go : rj_Go p l e R s m args below meth c cells slots Q κ nL G K) (hK : K (pc + 3) ls (.inr (.inr (mj_n G)) :: st) (mj_al G 20 (mj_l G a) (mj_i G a))) :
    W p l e R s m args below meth c H locs cells slots Q (F0 m pc lsA (rj_rv κ a :: st.map (rj_vm κ))) := by
  obtain ⟨d1, d2, d3⟩ := rj_arr hA hR h3 (by omega)
  rw [hk] at d1 d2
  have hnm : s.vm.findClass "[I" = some (rj_eA κ 20) := (hA.1.2 20 (by decide)).2
  rw [rj_rvn (by omega)]
  have hlink : (Jvm.Cond.methodLink (rj_R own) k ⟨"[I", "clone", "()Ljava/lang/Object;"⟩).before args s = true := by
    rcases (rj_me_w hme).1 with h | h
    · exact hA.word h
    · exact absurd h.2 (by decide)
  have hsz := arrV_size (rj_eA κ 20) (mj_l G a) (rj_ev κ G 20 a)
  obtain ⟨c0, t0', f1, f2, f3⟩ := Cond.castable_spec (hA.word (args := args) rj_x_cl_c)
  cases hnm.symm.trans f1
  intro T hT X
  generalize hC : arrV (rj_eA κ 20) (mj_l G a) (rj_ev κ G 20 a) = C at d1 d2 hsz
  have hvm0 : C.vm = .none := by rw [← hC]; rfl
  have hcl0 : C.cls = rj_eA κ 20 := by rw [← hC]; rfl
  have hcellE : ({ cls := C.cls, slots := C.slots } : Cell) = C := by rw [← hC]; rfl
  have hcellT : T.heap[rj_ph κ a]? = some C := by rw [hT]; exact d1
  obtain ⟨-, kA, hkA, comp, hkind⟩ := State.isArrayOf_alike X.warmed.alike d2
  obtain ⟨-, kS, hkS, compS, hkindS⟩ := d2
  obtain ⟨vm', X', st'⟩ := X.cloneArray hx hown hlink (hA.word rj_x_cl_m) (hA.word rj_x_cl_n) (hA.word rj_x_cl_i) (hA.word rj_x_cl_s) (a := rj_ph κ a) (cell := C) hcellT (fun k h => by rw [hvm0] at h; cases h) (by rw [hvm0]; exact fun h => by cases h) (by rw [hcl0]; exact hnm) f2 (by rw [hcl0]; exact f3)
    (fun i v hv => by
      have hk' : T.vm.classes[C.cls]? = some kA := hkA
      have hf : fits (rj_aT 20) v = true := by
        rw [← hC] at hv
        have hi : i < mj_l G a := by
          have := (Array.getElem?_eq_some_iff.mp hv).1
          rw [arrV_size] at this
          exact this
        rw [arrV_read _ _ hi] at hv
        cases hv
        unfold rj_ev
        rw [if_neg (by decide), if_neg (by decide)]
        rfl
      simpa [State.fitsSlot, State.slotType?, hk', hkind] using hf)
    (g := F0 m pc lsA (.ref (rj_ph κ a) :: st.map (rj_vm κ))) rfl (by rw [hml]) rfl (by rw [hb]; exact hd) hfr (by
      show 2 * 0 + _ + 14 ≤ _
      rw [rj_w_sum]
      omega) hroom.1 (by rw [hsz]; exact hroom.2) (hloader := Vm.clonesLoader_of_array hkS hkindS)
  rw [hcellE, hsz] at X'
  generalize hH1 : H.push C = H1
  have z1 : H1.size = H.size + 1 := by rw [← hH1, Array.size_push]
  have e1 : H1[H.size]? = some C := by rw [← hH1, Array.getElem?_push_size]
  have o1 : ∀ q : Nat, q < H.size → H1[q]? = H[q]? := fun q hq => by rw [← hH1, Array.getElem?_push, if_neg (Nat.ne_of_lt hq)]
  obtain ⟨a1, a2, a3⟩ := rj_new_arr hA hS hR (k := 20) (n := mj_l G a) (row := mj_i G a) (by decide) (by decide) hl hnm (by rw [e1, ← hC]) (fun j => by unfold rj_ev; rw [if_neg (by decide), if_neg (by decide), if_neg (by decide), if_neg (by decide)]) (fun h => by cases h) z1 o1
  have h9 := go _ _ _ _ H1 locs lsA hK a1 a2 hL
  have en : mj_n (mj_al G 20 (mj_l G a) (mj_i G a)) = mj_n G + 1 := rfl
  have eu : mj_u (mj_al G 20 (mj_l G a) (mj_i G a)) = mj_u G + mj_l G a := rfl
  have h10 : W p l e R s m args below meth c H1 locs (cells + 1) (slots + mj_l G a) Q (F0 m (pc + 3) lsA (rj_rv κ (mj_n G) :: st.map (rj_vm κ))) := W.cs (by omega) (by omega) h9
  rw [a3] at h10
  obtain ⟨t, b1, b2⟩ := h10 ((T.setVm vm').pushCell C) (by rw [← hH1, ← hT]; rfl) X'
  refine ⟨t, st' t ?_, b2⟩
  rw [hcellE, hT]
  exact b1
end MJT
