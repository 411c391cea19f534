/-! WHAT THE TABLES SAY OF A METHOD, TOGETHER -/
def mj_ok (mi : Nat) : Prop := mi % 1000 < (mj_M (mi / 1000)).length
def mj_hh (mi : Nat) : List (Nat × Nat × Nat × Nat) := (mj_m mi).2.2.2.2.2.2.2
theorem mj_dok_e {c : Nat} : ∀ {l : List (mj_MT × List (Nat × Instr × Nat))}, mj_dok c l → ∀ x ∈ l, x.2.all (fun r => decide (decode x.1.1 r.1 = .ok (r.2.1, r.2.2))) = true
  | [], _, x, hx => by cases hx
  | y :: l, h, x, hx => by
    rcases List.mem_cons.mp hx with e | e
    · rw [e]; exact h.1
    · exact mj_dok_e h.2 x e
theorem mj_nth_e : ∀ (l : List (List (Nat × Instr × Nat))) (j : Nat) (h : j < l.length), l[j]? = some (mj_nth l j)
  | [], j, h => by cases h
  | x :: l, 0, _ => rfl
  | x :: l, j + 1, h => by
    rw [List.getElem?_cons_succ]
    exact mj_nth_e l j (Nat.lt_of_succ_lt_succ h)
theorem mj_fd_mem {pc : Nat} {i : Instr} {n : Nat} : ∀ {l : List (Nat × Instr × Nat)}, mj_fd pc l = some (i, n) → (pc, i, n) ∈ l
  | [], h => by cases h
  | (q, i', n') :: l, h => by
    unfold mj_fd at h
    cases hq : Nat.beq q pc with
    | true =>
      rw [hq] at h
      obtain rfl := Nat.eq_of_beq_eq_true hq
      cases h
      exact List.mem_cons_self
    | false =>
      rw [hq] at h
      exact List.mem_cons_of_mem _ (mj_fd_mem h)
set_option maxRecDepth 100000 in
theorem mj_okI_all : ∀ c, c < 15 → (mj_C c).all (fun l => l.all (fun r => mj_okI r.1 r.2.1 r.2.2)) = true := by decide +kernel
theorem mj_m_at {mi : Nat} (h : mj_ok mi) : (mj_M (mi / 1000))[mi % 1000]? = some (mj_m mi) := by
  have h0 : mi % 1000 < (mj_M (mi / 1000)).length := h
  unfold mj_m
  rw [List.getD_eq_getElem?_getD, List.getElem?_eq_getElem h0]
  rfl
theorem mj_c15 {mi : Nat} (h : mj_ok mi) : mi / 1000 < 15 := mj_m_lt h
theorem mj_at_w {mi pc : Nat} {i : Instr} {len : Nat} (h : mj_ok mi) (hat : mj_at mi pc = some (i, len)) : decode (mj_bt mi) pc = .ok (i, len) ∧ mj_okI pc i len = true ∧ (pc, i, len) ∈ mj_nth (mj_C (mi / 1000)) (mi % 1000) ∧ mj_nth (mj_C (mi / 1000)) (mi % 1000) ∈ mj_C (mi / 1000) := by
  have hc := mj_c15 h
  have h0 : mi % 1000 < (mj_C (mi / 1000)).length := by rw [mj_c_len _ hc]; exact h
  have h1 := mj_nth_e _ _ h0
  have h2 := mj_fd_mem hat
  have h3 : (mj_m mi, mj_nth (mj_C (mi / 1000)) (mi % 1000)) ∈ (mj_M (mi / 1000)).zip (mj_C (mi / 1000)) :=
    List.mem_of_getElem? (i := mi % 1000) (List.getElem?_zip_eq_some.mpr ⟨mj_m_at h, h1⟩)
  have h4 := List.all_eq_true.mp (mj_dok_e (mj_dk _ hc) _ h3) _ h2
  have h5 := List.all_eq_true.mp (List.all_eq_true.mp (mj_okI_all _ hc) _ (List.mem_of_getElem? h1)) _ h2
  exact ⟨of_decide_eq_true h4, h5, h2, List.mem_of_getElem? h1⟩
theorem mj_row {mi : Nat} (h : mj_ok mi) (hn : mi ≠ 14018) : ∃ r, (mj_m mi, r) ∈ (mj_M (mi / 1000)).zip (mj_Q (mi / 1000)) ∧ (mj_tb r.1)[r.2.1]? = some (mj_cw (mj_m mi)) := by
  have hc := mj_c15 h
  have h0 : mi % 1000 < (mj_M (mi / 1000)).length := h
  have hq : mi % 1000 < (mj_Q (mi / 1000)).length := by
    rw [mj_q_len _ hc]
    cases hb : Nat.beq (mi / 1000) 14 with
    | true =>
      have e := Nat.eq_of_beq_eq_true hb
      rw [e, mj_m_14] at h0
      show _ < 18
      omega
    | false => exact h0
  refine ⟨(mj_Q (mi / 1000))[mi % 1000], List.mem_of_getElem? (i := mi % 1000) (List.getElem?_zip_eq_some.mpr ⟨mj_m_at h, List.getElem?_eq_getElem hq⟩), ?_⟩
  have h1 := congrArg (fun l => l[mi % 1000]?) (mj_ok_a _ hc)
  simp only [List.getElem?_map] at h1
  rw [List.getElem?_eq_getElem hq] at h1
  have h2 : (bif Nat.beq (mi / 1000) 14 then (mj_M (mi / 1000)).take 18 else mj_M (mi / 1000))[mi % 1000]? = some (mj_m mi) := by
    cases hb : Nat.beq (mi / 1000) 14 with
    | true =>
      rw [mj_q_len _ hc, hb] at hq
      have hq : mi % 1000 < 18 := hq
      show ((mj_M (mi / 1000)).take 18)[mi % 1000]? = _
      rw [List.getElem?_take, if_pos hq]
      exact mj_m_at h
    | false => exact mj_m_at h
  rw [h2] at h1
  exact Option.some.inj h1
theorem mj_mF {mi : Nat} (h : mj_ok mi) (hn : mi ≠ 14018) :
    mj_cw (mj_m mi) ∈ mj_W ∧ (match mj_sc mi with | true => Jvm.Cond.static (mj_y mi) | false => Jvm.Cond.instanceMethod (mj_y mi)) ∈ mj_W ∧
    (mj_sc mi = true ∨ (mj_y mi).name = "<init>" ∨ Jvm.Cond.selects (mj_y mi).cls (mj_y mi) (mj_y mi) ∈ mj_W) ∧ (mj_y mi).cls = mj_R (mi / 1000) ∧
    ((parseMethodDescriptor (mj_y mi).desc).map (fun d => d.parameters.length) = some (bif mj_sc mi then mj_na mi else mj_na mi - 1)) ∧ (mj_sc mi = true ∨ 0 < mj_na mi) ∧
    ((mj_y mi).cls ≠ "java/lang/invoke/MethodHandle" ∧ (mj_y mi).cls ≠ "java/lang/invoke/VarHandle") ∧ plainName (mj_y mi).cls = true ∧ mj_mL mi ≤ 22 ∧ mj_kd mi < 3 ∧ (mj_kd mi = 2 ∨ mj_hh mi = []) := by
  have hc := mj_c15 h
  obtain ⟨r, h1, h2⟩ := mj_row h hn
  have hb := List.all_eq_true.mp (mj_ok_b _ hc) _ h1
  have hcc := List.all_eq_true.mp (mj_ok_c _ hc) _ h1
  have hd := List.all_eq_true.mp (mj_ok_d _ hc) _ h1
  have he := List.all_eq_true.mp (mj_ok_e _ hc) _ h1
  unfold mj_sc mj_y mj_na mj_mL mj_kd mj_hh
  generalize mj_m mi = M at h2 hb hcc hd he ⊢
  obtain ⟨bytes, mL, rt, y, sc, na, kd, hh⟩ := M
  obtain ⟨kc, pc, ks, ps, kx, px⟩ := r
  simp only [mj_ck_b, decide_eq_true_eq] at hb
  simp only [mj_ck_c, Bool.and_eq_true, Bool.or_eq_true, Bool.not_eq_true', decide_eq_true_eq] at hcc
  simp only [mj_ck_d, Bool.and_eq_true, Bool.or_eq_true, decide_eq_true_eq, Nat.blt_eq] at hd
  simp only [mj_ck_e, Bool.and_eq_true, Bool.or_eq_true, decide_eq_true_eq, Nat.blt_eq, Nat.ble_eq, List.isEmpty_iff] at he
  obtain ⟨⟨⟨⟨⟨e1, e2⟩, e3⟩, e4⟩, e5⟩, e6⟩ := he
  refine ⟨mj_in h2 ?_, mj_in hb ?_, ?_, hd.1.1, hd.1.2, hd.2, ⟨e1, e2⟩, e3, e4, e5, e6.imp Nat.eq_of_beq_eq_true id⟩
  · unfold mj_cw
    dsimp only
    split <;> rfl
  · cases sc <;> rfl
  · obtain ⟨c1, c2⟩ := hcc
    rcases c2 with (c2 | c2) | c2
    · exact Or.inr (Or.inr (mj_in (c1.resolve_left (fun q => by rw [q] at c2; cases c2)) rfl))
    · exact Or.inl c2
    · exact Or.inr (Or.inl c2)
/-- a call in the nest is of a plain method -/
def mj_ck_mn (r : Nat × Nat × Bool × Nat × Nat) : Bool := !r.2.2.1 || Nat.beq (mj_kd r.2.1) 0
set_option maxRecDepth 100000 in
theorem mj_ok_mn (o : Nat) : (mj_meL o).all mj_ck_mn = true := by
  unfold mj_meL
  split <;> first | decide +kernel | rfl
theorem mj_me_n {o k t : Nat} (h : mj_me o k = some t) (ht : ¬ 900000 ≤ t) : (Jvm.Cond.methodLink (mj_R o) k (mj_y t) ∈ mj_W ∨ (Jvm.Cond.methodLinkNest (mj_R o) k (mj_y t) "TemplateQuarry" ∈ mj_W ∧ mj_kd t = 0)) ∧ mj_ok t ∧ t ≠ 14018 := by
  have hmy : mj_my t = mj_y t := by
    unfold mj_my
    split <;> first | rfl | omega
  obtain ⟨-, w2, w3⟩ := mj_me_w h
  refine ⟨?_, w2.resolve_left (by omega), w3.resolve_left (by omega)⟩
  unfold mj_me at h
  split at h
  · rename_i r hr
    cases h
    have h1 := List.all_eq_true.mp (mj_ok_me o) _ (mj_lk_mem hr)
    have h2 := List.all_eq_true.mp (mj_ok_mn o) _ (mj_lk_mem hr)
    simp only [mj_ck_me, Bool.and_eq_true, decide_eq_true_eq] at h1
    simp only [mj_ck_mn, Bool.or_eq_true, Bool.not_eq_true'] at h2
    obtain ⟨⟨⟨a1, -⟩, -⟩, -⟩ := h1
    rw [hmy] at a1
    cases hn : r.2.1 with
    | true =>
      rw [hn] at a1 h2
      exact Or.inr ⟨mj_in a1 rfl, Nat.eq_of_beq_eq_true (h2.resolve_left (fun q => by cases q))⟩
    | false =>
      rw [hn] at a1
      exact Or.inl (mj_in a1 rfl)
  · cases h
/-- a place where a method is called: the way of the call fits the method -/
def mj_ckC (c : Nat) (r : Nat × Instr × Nat) : Bool := match mj_tg c r.2.1 with
  | none => true
  | some mt => Nat.beq r.2.2 3 && (match r.2.1 with
    | .invokestatic _ => mj_sc mt && !(Nat.beq (mj_kd mt) 1)
    | .invokevirtual _ => !(mj_sc mt) && !(decide ((mj_y mt).name = "<init>")) && !(Nat.beq (mj_kd mt) 2)
    | .invokespecial _ => !(mj_sc mt) && decide ((mj_y mt).name = "<init>") && Nat.beq (mj_kd mt) 0 && decide (mj_rt mt = none)
    | _ => false)
set_option maxRecDepth 100000 in
theorem mj_okC_all : ∀ c, c < 15 → (mj_C c).all (fun l => l.all (mj_ckC c)) = true := by decide +kernel
/-- a throw: new, dup, invokespecial, athrow; the constructor's place by what is thrown -/
def mj_tc (E : Nat) : Nat := match E with
  | 15 => 26
  | 16 => 33
  | _ => 48
def mj_ckT (mi : Nat) (r : Nat × Instr × Nat) : Bool := match r.2.1 with
  | .new k => (match mj_cl (mi / 1000) k with
    | none => true
    | some E => !(Nat.ble 15 E) || !(Nat.beq (mj_kd mi) 1) || (Nat.beq (mi / 1000) 12 && decide (mj_at mi (r.1 + 3) = some (.dup, 1)) && decide (mj_at mi (r.1 + 4) = some (.invokespecial (mj_tc E), 3)) && decide (mj_at mi (r.1 + 7) = some (.athrow, 1))))
  | _ => true
theorem mj_okT_all : ((List.range (mj_M 12).length).all fun j => (mj_nth (mj_C 12) j).all (mj_ckT (12000 + j))) = true := by decide +kernel
/-- a catch in a wrapper of the law -/
def mj_cch (ct : Nat) : Option Nat := match ct with
  | 13 => some 15
  | 15 => some 16
  | 21 => some 17
  | _ => none
theorem mj_cch_w {ct c : Nat} (h : mj_cch ct = some c) : Jvm.Cond.classLink (mj_R 14) ct (mj_R c) ∈ mj_W ∧ ct ≠ 0 := by
  unfold mj_cch at h
  split at h <;> cases h
  · exact ⟨mj_in (k := 3) (p := 225) (by decide +kernel) rfl, by decide⟩
  · exact ⟨mj_in (k := 3) (p := 226) (by decide +kernel) rfl, by decide⟩
  · exact ⟨mj_in (k := 4) (p := 72) (by decide +kernel) rfl, by decide⟩
def mj_ct (k pc : Nat) : List (Nat × Nat × Nat × Nat) → Option Nat
  | [] => none
  | (st, en, h, ct) :: l => bif Nat.ble st pc && Nat.blt pc en then (match mj_cch ct with
      | none => none
      | some c => bif Nat.beq c k then some h else bif (Nat.beq k 16 && Nat.beq c 15) || (Nat.beq k 15 && Nat.beq c 17) then mj_ct k pc l else none) else mj_ct k pc l
def mj_ckH1 (mi pc k : Nat) : Bool := match mj_hn mi k with
  | none => true
  | some (q, x) => (match mj_ct k pc (mj_hh mi) with
    | none => false
    | some h => (match mj_at mi h with
      | some (.astore y, n) => Nat.beq y x && Nat.beq (h + n) q && Nat.blt x (mj_mL mi)
      | some (.astore_n y, n) => Nat.beq (y : Nat) x && Nat.beq (h + n) q && Nat.blt x (mj_mL mi)
      | _ => false))
def mj_ckH (mi : Nat) (r : Nat × Instr × Nat) : Bool := match mj_tg 14 r.2.1 with
  | none => true
  | some mt => !(Nat.beq (mj_kd mi) 2) || !(Nat.beq (mj_kd mt) 1) || [15, 16, 17].all (mj_ckH1 mi r.1)
theorem mj_okH_all : ((List.range 19).all fun j => (mj_nth (mj_C 14) j).all (mj_ckH (14000 + j))) = true := by decide +kernel
theorem mj_x_ca_15 : Jvm.Cond.castable (mj_R 15) (mj_R 15) ∈ mj_W := mj_in (k := 3) (p := 233) (by decide +kernel) rfl
theorem mj_x_ca_16 : Jvm.Cond.castable (mj_R 16) (mj_R 16) ∈ mj_W := mj_in (k := 4) (p := 56) (by decide +kernel) rfl
theorem mj_x_ca_17 : Jvm.Cond.castable (mj_R 17) (mj_R 17) ∈ mj_W := mj_in (k := 4) (p := 79) (by decide +kernel) rfl
