/-! ONE INSTRUCTION OF THE SMALL MACHINE IS ONE OF THE REAL ONE -/
def rj_ir (k : Int) : Bool := decide (-2147483648 ≤ k) && decide (k < 2147483648)
/-- an instruction's length, and that its ways lie in the code -/
def rj_okI (pc : Nat) (i : Instr) (len : Nat) : Bool := match i with
  | .bipush _ | .ldc _ | .iload _ | .lload _ | .aload _ | .istore _ | .lstore _ | .astore _ | .newarray _ => Nat.beq len 2
  | .sipush _ | .ldc_w _ | .ldc2_w _ | .iinc _ _ | .goto _ | .getstatic _ | .getfield _ | .putfield _ | .anewarray _ | .new _ | .checkcast _ | .invokespecial _ | .invokestatic _ | .invokevirtual _ => Nat.beq len 3
  | .ifCond _ off => Nat.beq len 3 && decide (0 ≤ (pc : Int) + off)
  | .if_icmp _ off => Nat.beq len 3 && decide (0 ≤ (pc : Int) + off)
  | .if_acmp _ off => Nat.beq len 3 && decide (0 ≤ (pc : Int) + off)
  | .ifnull off => Nat.beq len 3 && decide (0 ≤ (pc : Int) + off)
  | .ifnonnull off => Nat.beq len 3 && decide (0 ≤ (pc : Int) + off)
  | .tableswitch _ lo hi offs => decide (lo + (offs.toList.length : Int) = hi + 1) && rj_ir lo && rj_ir hi
  | .lookupswitch _ ps => (ps.toList.zip (ps.toList.drop 1)).all (fun (a, next) => a.1 < next.1) && ps.toList.all (fun q => rj_ir q.1)
  | _ => Nat.beq len 1
theorem rj_br_e {pc : Nat} {off : Int} {K : Nat → Prop} (h : mj_br pc off K) : ∃ t : Nat, (pc : Int) + off = (t : Int) ∧ K t := by
  unfold mj_br at h
  split at h
  · rename_i t ht
    exact ⟨t, ht, h⟩
  · exact h.elim
theorem rj_ir_e {k : Int} (h : rj_ir k = true) : (Int32.ofInt k).toInt = k := by
  simp only [rj_ir, Bool.and_eq_true, decide_eq_true_eq] at h
  rw [Int32.toInt_ofInt]
  unfold Int32.size
  rw [Int.bmod_eq_of_le] <;> omega
theorem rj_sw_l {x : Int32} {d : Int} {F : Int → Prop} : ∀ {l : List (Int × Int)}, l.all (fun q => rj_ir q.1) = true → mj_sw x (F d) F l → F (Op.lookupswitch.offset l d x.toInt)
  | [], _, h => h
  | (k, o) :: ps, hk, h => by
    rw [List.all_cons, Bool.and_eq_true] at hk
    rw [Op.lookupswitch.offset_cons]
    by_cases hx : x = Int32.ofInt k
    · rw [if_pos (by rw [hx, rj_ir_e hk.1])]
      exact h.1 hx
    · rw [if_neg (fun e => hx (by apply Int32.toInt_inj.mp; rw [rj_ir_e hk.1, e]))]
      exact rj_sw_l hk.2 (h.2 hx)
theorem rj_sw_t {x : Int32} {d : Prop} {F : Int → Prop} : ∀ {os : List Int} {lo : Int}, -2147483648 ≤ lo → lo + (os.length : Int) ≤ 2147483648 → mj_sw x d F (mj_tb2 lo os) → (∀ (j : Nat) (o : Int), os[j]? = some o → x.toInt = lo + j → F o) ∧ ((x.toInt < lo ∨ lo + (os.length : Int) ≤ x.toInt) → d)
  | [], lo, _, _, h => ⟨fun j o hj => by simp at hj, fun _ => h⟩
  | o :: os, lo, h1, h2, h => by
    simp only [List.length_cons, Int.natCast_add] at h2
    have hir : rj_ir lo = true := by
      simp only [rj_ir, Bool.and_eq_true, decide_eq_true_eq]
      omega
    by_cases hx : x = Int32.ofInt lo
    · have hxl : x.toInt = lo := by rw [hx, rj_ir_e hir]
      refine ⟨fun j o' hj he => ?_, fun hh => ?_⟩
      · have : j = 0 := by omega
        subst this
        simp at hj
        subst hj
        exact h.1 hx
      · simp only [List.length_cons, Int.natCast_add] at hh
        omega
    · have hne : x.toInt ≠ lo := fun e => hx (by apply Int32.toInt_inj.mp; rw [rj_ir_e hir, e])
      obtain ⟨g1, g2⟩ := rj_sw_t (os := os) (lo := lo + 1) (by omega) (by omega) (h.2 hx)
      refine ⟨fun j o' hj he => ?_, fun hh => g2 ?_⟩
      · cases j with
        | zero => exact absurd (by simpa using he) hne
        | succ j => exact g1 j o' (by simpa using hj) (by rw [he]; simp only [Int.natCast_add]; omega)
      · simp only [List.length_cons, Int.natCast_add] at hh
        omega
theorem rj_nf {t : Nat} {y : FieldType} {x : Int32} (hy : rj_ty t y = true) (ht : t ≠ 3) (hf : mj_fit t x) : narrow y (.int x) = .int x ∧ fits y (.int x) = true := by
  unfold rj_ty at hy
  split at hy <;> first | (exact absurd rfl ht) | (cases hy; done) | skip
  · exact ⟨rfl, rfl⟩
  · rcases hf with rfl | rfl <;> exact ⟨by decide, by decide⟩
  · have hc : mj_c x := hf
    obtain ⟨h0, h1⟩ := hc
    have g : fits .char (.int x) = true := by
      simp only [fits, Bool.and_eq_true, decide_eq_true_eq]
      exact ⟨h0, h1⟩
    have i0 : (0 : Int) ≤ x.toInt := by simpa using Int32.le_iff_toInt_le.mp h0
    have i1 : x.toInt ≤ 65535 := by simpa using Int32.le_iff_toInt_le.mp h1
    obtain ⟨q, hq⟩ : ∃ q : Nat, (q : Int) = x.toInt := ⟨x.toInt.toNat, Int.toNat_of_nonneg i0⟩
    have e : x = nI q := by
      apply Int32.toInt_inj.mp
      rw [nI_toInt (by omega)]
      exact hq.symm
    have hb : q < 65536 := by omega
    refine ⟨?_, g⟩
    rw [e]
    exact (pk_charN hb).1
theorem rj_nr {κ : rj_E} {y : FieldType} {r : Nat} (hy : rj_ty 3 y = true) : narrow y (rj_rv κ r) = rj_rv κ r ∧ fits y (rj_rv κ r) = true := by
  unfold rj_rv
  cases y with
  | object C => split <;> exact ⟨rfl, rfl⟩
  | array t => split <;> exact ⟨rfl, rfl⟩
  | _ => cases hy
section MJS
variable {p : Program} {l : Launch} {e : Env} {R : Room} {s : State} {m : MethodId} {args : Array Value} {below : List Frame} {meth : Method} {c : Code} {H : Heap} {locs : List Loc} {cells slots : Nat} {Q : State → Prop}
variable {cc : ByteArray} {κ : rj_E} {G : mj_G} {lsA : Array Slot} {nL pc : Nat} {ls : List (Option mj_V)} {st : List mj_V} {K : mj_K}
def rj_Go (p : Program) (l : Launch) (e : Env) (R : Room) (s : State) (m : MethodId) (args : Array Value) (below : List Frame) (meth : Method) (c : Code) (cells slots : Nat) (Q : State → Prop) (κ : rj_E) (nL : Nat) (G : mj_G) (K : mj_K) : Prop :=
  ∀ (q : Nat) (ls' : List (Option mj_V)) (st' : List mj_V) (G' : mj_G) (H' : Heap) (locs' : List Loc) (lsA' : Array Slot), K q ls' st' G' → va_S (fun q => rj_eb κ ≤ q) s.heap H' locs' → rj_Re κ G' H' → rj_LR κ lsA' nL ls' →
    W p l e R s m args below meth c H' locs' (cells + (mj_n G' - mj_n G)) (slots + (mj_u G' - mj_u G)) Q (F0 m q lsA' (st'.map (rj_vm κ)))
theorem rj_Go.z (go : rj_Go p l e R s m args below meth c cells slots Q κ nL G K) {q : Nat} {ls' : List (Option mj_V)} {st' : List mj_V} {G' : mj_G} {H' : Heap} {locs' : List Loc} {lsA' : Array Slot} (hS : va_S (fun q => rj_eb κ ≤ q) s.heap H' locs') (hR : rj_Re κ G' H') (hL : rj_LR κ lsA' nL ls') (hn : mj_n G' = mj_n G) (hu : mj_u G' = mj_u G) (hK : K q ls' st' G') :
    W p l e R s m args below meth c H' locs' cells slots Q (F0 m q lsA' (st'.map (rj_vm κ))) :=
  W.cs (by omega) (by omega) (go q ls' st' G' H' locs' lsA' hK hS hR hL)
theorem rj_Sput {A : Nat → Prop} {H0 H1 : Heap} {a k : Nat} (h : va_S A H0 H locs) (z : H1.size = H.size) (oq : ∀ q : Nat, q ≠ a → H1[q]? = H[q]?) (ha : A a) : va_S A H0 H1 (locs ++ [⟨a, k⟩]) := h.put z oq ha
theorem rj_Snew {A : Nat → Prop} {H0 H1 : Heap} (h : va_S A H0 H locs) (z : H1.size = H.size + 1) (oq : ∀ q : Nat, q < H.size → H1[q]? = H[q]?) : va_S A H0 H1 locs :=
  ⟨Nat.le_trans h.1 (by omega), fun x h1 h2 => (oq x (Nat.lt_of_lt_of_le h1 h.1)).trans (h.2.1 x h1 h2), h.2.2⟩
/-- a field's place: whose it is, its slot -/
theorem rj_fld (hA : rj_Am κ s) {cI j : Nat} (hc : cI < 18) (h2 : cI ≠ 2) (h14 : rj_no (cI)) (hj : j < rj_N cI) : ∃ (cf : ClassId) (kf : Class) (fi : Nat) (f : Field), s.fieldFound? (rj_R cI) (rj_F cI j).2.1 (rj_F cI j).2.2.1 = some (cf, kf, fi, f) ∧ f.isStatic = false ∧ f.slot = (rj_eD κ).2 cI j := by
  obtain ⟨hS, hfc, kC, hkC, hkind⟩ := hA.1.1 cI hc h2 h14
  obtain ⟨cf, kf, fi, f, hi, hsl⟩ := hS j hj
  have hst := (u_facts hfc hkC (u_lays hA.2.1 (rj_qc_w hc h2 h14).2.2 hj) hi).1
  rw [(rj_f_y hc hj).2] at hi
  exact ⟨cf, kf, fi, f, hi, hst, hsl⟩
theorem rj_getf (hx : p.tables.exec = Jvm.exec) (hb : c.code = cc) {own k cI j a : Nat} (hown : s.vm.findClass (rj_R own) = some m.cls) (hA : rj_Am κ s) (hR : rj_Re κ G H) (hf : rj_fl own k = some (cI, j)) (hk : mj_k G a = cI + 1) (hd : decode cc pc = .ok (.getfield k, 3)) {rest : List Value}
    (kk : W p l e R s m args below meth c H locs cells slots Q (F0 m (pc + 3) lsA (rj_sv κ G cI a j :: rest))) : W p l e R s m args below meth c H locs cells slots Q (F0 m pc lsA (rj_rv κ a :: rest)) := by
  obtain ⟨hw, hj, hc⟩ := rj_fl_w hf
  obtain ⟨h3, hlt, n2, n14, cell, e1, e2, e3, e4⟩ := hR.obj hk (by omega)
  obtain ⟨cf, kf, fi, f, hi, hst, hsl⟩ := rj_fld hA (by omega) n2 n14 hj
  rw [rj_rvn (by omega)]
  exact W.getf hx hb hown (hA.word hw) hi hst e1 (by rw [e2]; exact fun h => by cases h) (by rw [hsl]; exact e4 j hj) rfl rfl hd kk
/-- a field is written: what the heap is then -/
theorem rj_putf (hx : p.tables.exec = Jvm.exec) (hb : c.code = cc) {own k cI j a : Nat} {v : Value} {G' : mj_G} (hown : s.vm.findClass (rj_R own) = some m.cls) (hA : rj_Am κ s) (hS : va_S (fun q => rj_eb κ ≤ q) s.heap H locs) (hR : rj_Re κ G H) (hf : rj_fl own k = some (cI, j)) (hk : mj_k G a = cI + 1) (hd : decode cc pc = .ok (.putfield k, 3)) {rest : List Value}
    (hn : narrow (rj_Y cI j) v = v) (hv : fits (rj_Y cI j) v = true) (hfin : bif (rj_F cI j).2.2.2 then meth.name = "<init>" ∧ own = cI else True)
    (g1 : mj_n G' = mj_n G) (g2 : mj_k G' = mj_k G) (g3 : mj_l G' = mj_l G) (g4 : ∀ x, x ≠ a → mj_i G' x = mj_i G x ∧ mj_r G' x = mj_r G x ∧ mj_j G' x = mj_j G x) (g5 : ∀ y, rj_sv κ G' cI a y = if y = j then v else rj_sv κ G cI a y)
    (kk : ∀ (H1 : Heap) (locs1 : List Loc), va_S (fun q => rj_eb κ ≤ q) s.heap H1 locs1 → rj_Re κ G' H1 → W p l e R s m args below meth c H1 locs1 cells slots Q (F0 m (pc + 3) lsA rest)) : W p l e R s m args below meth c H locs cells slots Q (F0 m pc lsA (v :: rj_rv κ a :: rest)) := by
  obtain ⟨hw, hj, hc⟩ := rj_fl_w hf
  obtain ⟨h3, hlt, n2, n14, cell, e1, e2, e3, e4⟩ := hR.obj hk (by omega)
  have hc18 : cI < 18 := by omega
  obtain ⟨cf, kf, fi, f, hi, hst, hsl⟩ := rj_fld hA hc18 n2 n14 hj
  obtain ⟨-, hfc, kC, hkC, hkind⟩ := hA.1.1 cI hc18 n2 n14
  have hty := rj_f_y hc18 hj
  have hlay := hA.word (args := args) ((rj_qc_w hc18 n2 n14).2.2 _ (u_in_lay hj))
  unfold u_lay at hlay
  rw [hty.2] at hlay
  have hb3 : rj_eb κ ≤ rj_ph κ a := by rw [rj_ph3 h3]; omega
  have key : ∀ H' : Heap, H'[rj_ph κ a]? = some (cell.setSlot f.slot v) → H'.size = H.size → (∀ q, q ≠ rj_ph κ a → H'[q]? = H[q]?) → W p l e R s m args below meth c H' (locs ++ [⟨rj_ph κ a, f.slot⟩]) cells slots Q (F0 m (pc + 3) lsA rest) := by
    intro H' q1 q2 q3
    refine kk H' _ (rj_Sput hS q2 q3 hb3) (hR.upd h3 (by omega) g1 g2 g3 g4 q2 q3 ?_)
    refine ⟨fun _ => ?_, fun h20 => by rw [g2] at h20; omega⟩
    rw [g2, hk, Nat.add_sub_cancel]
    refine ⟨hc18, n2, n14, _, q1, e2, e3, fun y hy => ?_⟩
    rw [hsl, t_set e4 (rj_apart hA hc18 n2 n14) hj v y hy, g5]
    rfl
  rw [rj_rvn (by omega)]
  cases hff : (rj_F cI j).2.2.2 with
  | false =>
    rw [hff] at hlay
    rw [if_neg (by decide)] at hlay
    exact W.putK hx hb (f := f) ⟨hown, hA.word hw, ⟨_, _, _, hi⟩, hst⟩ (by rw [e3]; exact u_store hfc hkC hkind hlay hi hty.1 hn hv) e1 e2 (by rw [hsl]; exact k2_hasslot (e4 j hj)) rfl rfl hd key
  | true =>
    rw [hff] at hlay hfin
    rw [if_pos rfl] at hlay
    obtain ⟨hi1, hi2⟩ := hfin
    have hcf : m.cls = cf := by
      obtain ⟨_, _, c', _, _, _, -, -, hf', -, -, -, hown2, -⟩ := Cond.laysFinal_spec hlay
      have e1 : c' = cf := by have := hi.symm.trans hf'; simp at this; exact this.1.symm
      rw [← hi2] at hown2
      rw [← e1]; exact Option.some.inj (hown.symm.trans hown2)
    exact W.putFinK hx hb hown (hA.word hw) hi hst hcf hi1 (by rw [e3]; exact u_fits hfc hkC hkind (Or.inr hlay) hi hty.1 hn hv) e1 e2 (by rw [hsl]; exact k2_hasslot (e4 j hj)) rfl rfl hd key
/-- an array's cell -/
theorem rj_arr (hA : rj_Am κ s) (hR : rj_Re κ G H) {a : Nat} (h3 : 3 ≤ a) (hk : 20 ≤ mj_k G a) : H[rj_ph κ a]? = some (arrV (rj_eA κ (mj_k G a)) (mj_l G a) (rj_ev κ G (mj_k G a) a)) ∧ s.isArrayOf (arrV (rj_eA κ (mj_k G a)) (mj_l G a) (rj_ev κ G (mj_k G a) a)) (rj_aT (mj_k G a)) ∧ rj_eb κ ≤ rj_ph κ a := by
  obtain ⟨h1, h2, h4, -⟩ := hR.arr h3 hk
  exact ⟨h4, (hA.1.2 _ h2).1 _ _, by rw [rj_ph3 h3]; omega⟩
/-- an element is written -/
theorem rj_Re.elt (hA : rj_Am κ s) (hS : va_S (fun q => rj_eb κ ≤ q) s.heap H locs) (hR : rj_Re κ G H) {a k : Nat} {v : Value} {G' : mj_G} {H1 : Heap} (h3 : 3 ≤ a) (hk : 20 ≤ mj_k G a)
    (e : H1[rj_ph κ a]? = some ((arrV (rj_eA κ (mj_k G a)) (mj_l G a) (rj_ev κ G (mj_k G a) a)).setSlot k v)) (z : H1.size = H.size) (oq : ∀ q, q ≠ rj_ph κ a → H1[q]? = H[q]?)
    (g1 : mj_n G' = mj_n G) (g2 : mj_k G' = mj_k G) (g3 : mj_l G' = mj_l G) (g4 : ∀ x, x ≠ a → mj_i G' x = mj_i G x ∧ mj_r G' x = mj_r G x ∧ mj_j G' x = mj_j G x) (g5 : ∀ y, rj_ev κ G' (mj_k G a) a y = if y = k then v else rj_ev κ G (mj_k G a) a y) (g6 : mj_k G a = 22 → ∀ y, mj_c (mj_i G' a y)) :
    va_S (fun q => rj_eb κ ≤ q) s.heap H1 (locs ++ [⟨rj_ph κ a, k⟩]) ∧ rj_Re κ G' H1 := by
  obtain ⟨h1, h2, h4, h5, h6⟩ := hR.arr h3 hk
  have hb3 : rj_eb κ ≤ rj_ph κ a := by rw [rj_ph3 h3]; omega
  refine ⟨rj_Sput hS z oq hb3, hR.upd h3 (by omega) g1 g2 g3 g4 z oq ⟨fun h20 => by rw [g2] at h20; omega, fun _ => ?_⟩⟩
  rw [g2, g3]
  refine ⟨h2, ?_, g6, h6⟩
  rw [e, arrV_store]
  congr 2
  funext y
  rw [g5 y]
  rfl
theorem rj_up_i {G : mj_G} {a k : Nat} {v : Int32} : ∀ x, x ≠ a → mj_i (mj_pI G a k v) x = mj_i G x ∧ mj_r (mj_pI G a k v) x = mj_r G x ∧ mj_j (mj_pI G a k v) x = mj_j G x := fun x hx => ⟨by funext y; show mj_u2 _ _ _ _ _ _ = _; unfold mj_u2; rw [if_neg (fun h => hx h.1)], rfl, rfl⟩
theorem rj_up_r {G : mj_G} {a k v : Nat} : ∀ x, x ≠ a → mj_i (mj_pR G a k v) x = mj_i G x ∧ mj_r (mj_pR G a k v) x = mj_r G x ∧ mj_j (mj_pR G a k v) x = mj_j G x := fun x hx => ⟨rfl, by funext y; show mj_u2 _ _ _ _ _ _ = _; unfold mj_u2; rw [if_neg (fun h => hx h.1)], rfl⟩
theorem rj_up_j {G : mj_G} {a k : Nat} {v : Int64} : ∀ x, x ≠ a → mj_i (mj_pJ G a k v) x = mj_i G x ∧ mj_r (mj_pJ G a k v) x = mj_r G x ∧ mj_j (mj_pJ G a k v) x = mj_j G x := fun x hx => ⟨rfl, rfl, by funext y; show mj_u2 _ _ _ _ _ _ = _; unfold mj_u2; rw [if_neg (fun h => hx h.1)]⟩
theorem rj_at_i {G : mj_G} {a k y : Nat} {v : Int32} : mj_i (mj_pI G a k v) a y = if y = k then v else mj_i G a y := by
  show mj_u2 _ _ _ _ _ _ = _
  unfold mj_u2
  by_cases h : y = k <;> simp [h]
theorem rj_at_r {G : mj_G} {a k y v : Nat} : mj_r (mj_pR G a k v) a y = if y = k then v else mj_r G a y := by
  show mj_u2 _ _ _ _ _ _ = _
  unfold mj_u2
  by_cases h : y = k <;> simp [h]
theorem rj_at_j {G : mj_G} {a k y : Nat} {v : Int64} : mj_j (mj_pJ G a k v) a y = if y = k then v else mj_j G a y := by
  show mj_u2 _ _ _ _ _ _ = _
  unfold mj_u2
  by_cases h : y = k <;> simp [h]
end MJS
