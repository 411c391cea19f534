/-! WHAT THE TABLES SAY OF A METHOD, TOGETHER -/
def rj_ok (mi : Nat) : Prop := mi % 1000 < (rj_M (mi / 1000)).length
def rj_hh (mi : Nat) : List (Nat × Nat × Nat × Nat) := (rj_m mi).2.2.2.2.2.2.2
theorem rj_dok_e {c : Nat} : ∀ {l : List (mj_MT × List (Nat × Instr × Nat))}, rj_dok c l → ∀ x ∈ l, x.2.all (fun r => decide (decode x.1.1 r.1 = .ok (r.2.1, r.2.2))) = true
  | [], _, x, hx => by cases hx
  | y :: l, h, x, hx => by
    rcases List.mem_cons.mp hx with e | e
    · rw [e]; exact h.1
    · exact rj_dok_e h.2 x e
theorem rj_nth_e : ∀ (l : List (List (Nat × Instr × Nat))) (j : Nat) (h : j < l.length), l[j]? = some (mj_nth l j)
  | [], j, h => by cases h
  | x :: l, 0, _ => rfl
  | x :: l, j + 1, h => by
    rw [List.getElem?_cons_succ]
    exact rj_nth_e l j (Nat.lt_of_succ_lt_succ h)
theorem rj_fd_mem {pc : Nat} {i : Instr} {n : Nat} : ∀ {l : List (Nat × Instr × Nat)}, mj_fd pc l = some (i, n) → (pc, i, n) ∈ l
  | [], h => by cases h
  | (q, i', n') :: l, h => by
    unfold mj_fd at h
    cases hq : Nat.beq q pc with
    | true =>
      rw [hq] at h
      obtain rfl := Nat.eq_of_beq_eq_true hq
      cases h
      exact List.mem_cons_self
    | false =>
      rw [hq] at h
      exact List.mem_cons_of_mem _ (rj_fd_mem h)
set_option maxRecDepth 100000 in
theorem rj_okI_all : ∀ c, c < 15 → (rj_C c).all (fun l => l.all (fun r => rj_okI r.1 r.2.1 r.2.2)) = true := by decide +kernel
theorem rj_m_at {mi : Nat} (h : rj_ok mi) : (rj_M (mi / 1000))[mi % 1000]? = some (rj_m mi) := by
  have h0 : mi % 1000 < (rj_M (mi / 1000)).length := h
  unfold rj_m
  rw [List.getD_eq_getElem?_getD, List.getElem?_eq_getElem h0]
  rfl
theorem rj_c15 {mi : Nat} (h : rj_ok mi) : mi / 1000 < 15 := rj_m_lt h
theorem rj_at_w {mi pc : Nat} {i : Instr} {len : Nat} (h : rj_ok mi) (hat : rj_at mi pc = some (i, len)) : decode (rj_bt mi) pc = .ok (i, len) ∧ rj_okI pc i len = true ∧ (pc, i, len) ∈ mj_nth (rj_C (mi / 1000)) (mi % 1000) ∧ mj_nth (rj_C (mi / 1000)) (mi % 1000) ∈ rj_C (mi / 1000) := by
  have hc := rj_c15 h
  have h0 : mi % 1000 < (rj_C (mi / 1000)).length := by rw [rj_c_len _ hc]; exact h
  have h1 := rj_nth_e _ _ h0
  have h2 := rj_fd_mem hat
  have h3 : (rj_m mi, mj_nth (rj_C (mi / 1000)) (mi % 1000)) ∈ (rj_M (mi / 1000)).zip (rj_C (mi / 1000)) :=
    List.mem_of_getElem? (i := mi % 1000) (List.getElem?_zip_eq_some.mpr ⟨rj_m_at h, h1⟩)
  have h4 := List.all_eq_true.mp (rj_dok_e (rj_dk _ hc) _ h3) _ h2
  have h5 := List.all_eq_true.mp (List.all_eq_true.mp (rj_okI_all _ hc) _ (List.mem_of_getElem? h1)) _ h2
  exact ⟨of_decide_eq_true h4, h5, h2, List.mem_of_getElem? h1⟩
theorem rj_row {mi : Nat} (h : rj_ok mi) (hn : mi ≠ 14015) : ∃ r, (rj_m mi, r) ∈ (rj_M (mi / 1000)).zip (rj_Q (mi / 1000)) ∧ (rj_tb r.1)[r.2.1]? = some (rj_cw (rj_m mi)) := by
  have hc := rj_c15 h
  have h0 : mi % 1000 < (rj_M (mi / 1000)).length := h
  have hq : mi % 1000 < (rj_Q (mi / 1000)).length := by
    rw [rj_q_len _ hc]
    cases hb : Nat.beq (mi / 1000) 14 with
    | true =>
      have e := Nat.eq_of_beq_eq_true hb
      rw [e, rj_m_14] at h0
      show _ < 15
      omega
    | false => exact h0
  refine ⟨(rj_Q (mi / 1000))[mi % 1000], List.mem_of_getElem? (i := mi % 1000) (List.getElem?_zip_eq_some.mpr ⟨rj_m_at h, List.getElem?_eq_getElem hq⟩), ?_⟩
  have h1 := congrArg (fun l => l[mi % 1000]?) (rj_ok_a _ hc)
  simp only [List.getElem?_map] at h1
  rw [List.getElem?_eq_getElem hq] at h1
  have h2 : (bif Nat.beq (mi / 1000) 14 then (rj_M (mi / 1000)).take 15 else rj_M (mi / 1000))[mi % 1000]? = some (rj_m mi) := by
    cases hb : Nat.beq (mi / 1000) 14 with
    | true =>
      rw [rj_q_len _ hc, hb] at hq
      have hq : mi % 1000 < 15 := hq
      show ((rj_M (mi / 1000)).take 15)[mi % 1000]? = _
      rw [List.getElem?_take, if_pos hq]
      exact rj_m_at h
    | false => exact rj_m_at h
  rw [h2] at h1
  exact Option.some.inj h1
theorem rj_mF {mi : Nat} (h : rj_ok mi) (hn : mi ≠ 14015) :
    rj_cw (rj_m mi) ∈ rj_W ∧ (match rj_sc mi with | true => Jvm.Cond.static (rj_y mi) | false => Jvm.Cond.instanceMethod (rj_y mi)) ∈ rj_W ∧
    (rj_sc mi = true ∨ (rj_y mi).name = "<init>" ∨ Jvm.Cond.selects (rj_y mi).cls (rj_y mi) (rj_y mi) ∈ rj_W) ∧ (rj_y mi).cls = rj_R (mi / 1000) ∧
    ((parseMethodDescriptor (rj_y mi).desc).map (fun d => d.parameters.length) = some (bif rj_sc mi then rj_na mi else rj_na mi - 1)) ∧ (rj_sc mi = true ∨ 0 < rj_na mi) ∧
    ((rj_y mi).cls ≠ "java/lang/invoke/MethodHandle" ∧ (rj_y mi).cls ≠ "java/lang/invoke/VarHandle") ∧ plainName (rj_y mi).cls = true ∧ rj_mL mi ≤ 22 ∧ rj_kd mi < 3 ∧ (rj_kd mi = 2 ∨ rj_hh mi = []) := by
  have hc := rj_c15 h
  obtain ⟨r, h1, h2⟩ := rj_row h hn
  have hb := List.all_eq_true.mp (rj_ok_b _ hc) _ h1
  have hcc := List.all_eq_true.mp (rj_ok_c _ hc) _ h1
  have hd := List.all_eq_true.mp (rj_ok_d _ hc) _ h1
  have he := List.all_eq_true.mp (rj_ok_e _ hc) _ h1
  unfold rj_sc rj_y rj_na rj_mL rj_kd rj_hh
  generalize rj_m mi = M at h2 hb hcc hd he ⊢
  obtain ⟨bytes, mL, rt, y, sc, na, kd, hh⟩ := M
  obtain ⟨kc, pc, ks, ps, kx, px⟩ := r
  simp only [rj_ck_b, decide_eq_true_eq] at hb
  simp only [rj_ck_c, Bool.and_eq_true, Bool.or_eq_true, Bool.not_eq_true', decide_eq_true_eq] at hcc
  simp only [rj_ck_d, Bool.and_eq_true, Bool.or_eq_true, decide_eq_true_eq, Nat.blt_eq] at hd
  simp only [rj_ck_e, Bool.and_eq_true, Bool.or_eq_true, decide_eq_true_eq, Nat.blt_eq, Nat.ble_eq, List.isEmpty_iff] at he
  obtain ⟨⟨⟨⟨⟨e1, e2⟩, e3⟩, e4⟩, e5⟩, e6⟩ := he
  refine ⟨rj_in h2 ?_, rj_in hb ?_, ?_, hd.1.1, hd.1.2, hd.2, ⟨e1, e2⟩, e3, e4, e5, e6.imp Nat.eq_of_beq_eq_true id⟩
  · unfold rj_cw
    dsimp only
    split <;> rfl
  · cases sc <;> rfl
  · obtain ⟨c1, c2⟩ := hcc
    rcases c2 with (c2 | c2) | c2
    · exact Or.inr (Or.inr (rj_in (c1.resolve_left (fun q => by rw [q] at c2; cases c2)) rfl))
    · exact Or.inl c2
    · exact Or.inr (Or.inl c2)
/-- a call in the nest is of a plain method -/
def rj_ck_mn (r : Nat × Nat × Bool × Nat × Nat) : Bool := !r.2.2.1 || Nat.beq (rj_kd r.2.1) 0
set_option maxRecDepth 100000 in
theorem rj_ok_mn (o : Nat) : (rj_meL o).all rj_ck_mn = true := by
  unfold rj_meL
  split <;> first | decide +kernel | rfl
theorem rj_me_n {o k t : Nat} (h : rj_me o k = some t) (ht : ¬ 900000 ≤ t) : (Jvm.Cond.methodLink (rj_R o) k (rj_y t) ∈ rj_W ∨ (Jvm.Cond.methodLinkNest (rj_R o) k (rj_y t) "TemplateQuarry" ∈ rj_W ∧ rj_kd t = 0)) ∧ rj_ok t ∧ t ≠ 14015 := by
  have hmy : rj_my t = rj_y t := by
    unfold rj_my
    split <;> first | rfl | omega
  obtain ⟨-, w2, w3⟩ := rj_me_w h
  refine ⟨?_, w2.resolve_left (by omega), w3.resolve_left (by omega)⟩
  unfold rj_me at h
  split at h
  · rename_i r hr
    cases h
    have h1 := List.all_eq_true.mp (rj_ok_me o) _ (rj_lk_mem hr)
    have h2 := List.all_eq_true.mp (rj_ok_mn o) _ (rj_lk_mem hr)
    simp only [rj_ck_me, Bool.and_eq_true, decide_eq_true_eq] at h1
    simp only [rj_ck_mn, Bool.or_eq_true, Bool.not_eq_true'] at h2
    obtain ⟨⟨⟨a1, -⟩, -⟩, -⟩ := h1
    rw [hmy] at a1
    cases hn : r.2.1 with
    | true =>
      rw [hn] at a1 h2
      exact Or.inr ⟨rj_in a1 rfl, Nat.eq_of_beq_eq_true (h2.resolve_left (fun q => by cases q))⟩
    | false =>
      rw [hn] at a1
      exact Or.inl (rj_in a1 rfl)
  · cases h
/-- a place where a method is called: the way of the call fits the method -/
def rj_ckC (c : Nat) (r : Nat × Instr × Nat) : Bool := match rj_tg c r.2.1 with
  | none => true
  | some mt => Nat.beq r.2.2 3 && (match r.2.1 with
    | .invokestatic _ => rj_sc mt
    | .invokevirtual _ => !(rj_sc mt) && !(decide ((rj_y mt).name = "<init>")) && !(Nat.beq (rj_kd mt) 2)
    | .invokespecial _ => !(rj_sc mt) && decide ((rj_y mt).name = "<init>") && Nat.beq (rj_kd mt) 0 && decide (rj_rt mt = none)
    | _ => false)
set_option maxRecDepth 100000 in
theorem rj_okC_all : ∀ c, c < 15 → (rj_C c).all (fun l => l.all (rj_ckC c)) = true := by decide +kernel
/-- a throw: new, dup, invokespecial, athrow; the constructor's place by what is thrown -/
def rj_tc (E : Nat) : Nat := match E with
  | 15 => 26
  | 16 => 33
  | _ => 48
def rj_ckT (mi : Nat) (r : Nat × Instr × Nat) : Bool := match r.2.1 with
  | .new k => (match rj_cl (mi / 1000) k with
    | none => true
    | some E => !(Nat.ble 15 E) || !(Nat.beq (rj_kd mi) 1) || (Nat.beq (mi / 1000) 12 && decide (rj_at mi (r.1 + 3) = some (.dup, 1)) && decide (rj_at mi (r.1 + 4) = some (.invokespecial (rj_tc E), 3)) && decide (rj_at mi (r.1 + 7) = some (.athrow, 1))))
  | _ => true
theorem rj_okT_all : ((List.range (rj_M 12).length).all fun j => (mj_nth (rj_C 12) j).all (rj_ckT (12000 + j))) = true := by decide +kernel
/-- a catch in a wrapper of the law -/
def rj_cch (ct : Nat) : Option Nat := match ct with
  | 21 => some 15
  | 24 => some 16
  | 83 => some 17
  | _ => none
theorem rj_cch_w {ct c : Nat} (h : rj_cch ct = some c) : Jvm.Cond.classLink (rj_R 14) ct (rj_R c) ∈ rj_W ∧ ct ≠ 0 := by
  unfold rj_cch at h
  split at h <;> cases h
  · exact ⟨rj_in (k := 2) (p := 205) (by decide +kernel) rfl, by decide⟩
  · exact ⟨rj_in (k := 2) (p := 206) (by decide +kernel) rfl, by decide⟩
  · exact ⟨rj_in (k := 3) (p := 91) (by decide +kernel) rfl, by decide⟩
def rj_ct (k pc : Nat) : List (Nat × Nat × Nat × Nat) → Option Nat
  | [] => none
  | (st, en, h, ct) :: l => bif Nat.ble st pc && Nat.blt pc en then (match rj_cch ct with
      | none => none
      | some c => bif Nat.beq c k then some h else bif (Nat.beq k 16 && Nat.beq c 15) || (Nat.beq k 15 && Nat.beq c 17) || (Nat.beq k 16 && Nat.beq c 17) then rj_ct k pc l else none) else rj_ct k pc l
def rj_ckH1 (mi pc k : Nat) : Bool := match rj_hn mi k with
  | none => true
  | some (q, x) => (match rj_ct k pc (rj_hh mi) with
    | none => false
    | some h => (match rj_at mi h with
      | some (.astore y, n) => Nat.beq y x && Nat.beq (h + n) q && Nat.blt x (rj_mL mi)
      | some (.astore_n y, n) => Nat.beq (y : Nat) x && Nat.beq (h + n) q && Nat.blt x (rj_mL mi)
      | _ => false))
def rj_ckH (mi : Nat) (r : Nat × Instr × Nat) : Bool := match rj_tg 14 r.2.1 with
  | none => true
  | some mt => !(Nat.beq (rj_kd mi) 2) || !(Nat.beq (rj_kd mt) 1) || [15, 16, 17].all (rj_ckH1 mi r.1)
theorem rj_okH_all : ((List.range 16).all fun j => (mj_nth (rj_C 14) j).all (rj_ckH (14000 + j))) = true := by decide +kernel
theorem rj_x_ca_15 : Jvm.Cond.castable (rj_R 15) (rj_R 15) ∈ rj_W := rj_in (k := 2) (p := 213) (by decide +kernel) rfl
theorem rj_x_ca_16 : Jvm.Cond.castable (rj_R 16) (rj_R 16) ∈ rj_W := rj_in (k := 3) (p := 36) (by decide +kernel) rfl
theorem rj_x_ca_17 : Jvm.Cond.castable (rj_R 17) (rj_R 17) ∈ rj_W := rj_in (k := 3) (p := 98) (by decide +kernel) rfl
