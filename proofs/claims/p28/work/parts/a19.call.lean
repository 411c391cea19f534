/-! A FRAME'S RUN, FROM ANYWHERE, BY THE FUEL -/
def rj_tn : List String := ["java/lang/RuntimeException", "java/lang/Exception"]
def rj_tp15 : List (Nat × Nat) := [(1, 11), (2, 233), (3, 2), (3, 6), (3, 9), (3, 11), (2, 234), (2, 235), (1, 28), (1, 29), (2, 236), (3, 1), (3, 7), (3, 23), (2, 223), (3, 24), (2, 225), (3, 25), (2, 227), (2, 237), (2, 239), (2, 229), (3, 13), (3, 14), (3, 15), (3, 16), (2, 214), (3, 16), (3, 17), (3, 18), (3, 19), (2, 216), (3, 19), (3, 20), (3, 21), (2, 234), (2, 218), (3, 12), (2, 212), (2, 213), (2, 220), (2, 221), (2, 222), (2, 224), (2, 226), (2, 228), (2, 232), (2, 231), (2, 230)]
set_option maxRecDepth 100000 in
theorem rj_te15 : (vx_at0 (rj_R 12) 26 (rj_R 15) rj_tn).map some = rj_tp15.map (fun q => (rj_tb q.1)[q.2]?) := by decide +kernel
set_option maxRecDepth 100000 in
theorem rj_tg15 : (vx_at0 (rj_R 12) 26 (rj_R 15) rj_tn).all (fun w => rj_mvb w && vx_ot w) = true := by decide +kernel
def rj_tp16 : List (Nat × Nat) := [(1, 11), (2, 233), (3, 2), (3, 6), (3, 9), (3, 11), (2, 234), (2, 235), (1, 28), (1, 29), (2, 236), (3, 1), (3, 7), (3, 23), (2, 223), (3, 24), (2, 225), (3, 25), (2, 227), (2, 237), (2, 239), (2, 229), (3, 44), (3, 45), (3, 46), (3, 16), (2, 214), (3, 16), (3, 17), (3, 18), (3, 19), (2, 216), (3, 19), (3, 20), (3, 21), (2, 234), (2, 218), (3, 43), (3, 35), (3, 36), (3, 37), (3, 4), (3, 38), (3, 39), (3, 40), (3, 41), (2, 232), (2, 231), (3, 42)]
set_option maxRecDepth 100000 in
theorem rj_te16 : (vx_at0 (rj_R 12) 33 (rj_R 16) rj_tn).map some = rj_tp16.map (fun q => (rj_tb q.1)[q.2]?) := by decide +kernel
set_option maxRecDepth 100000 in
theorem rj_tg16 : (vx_at0 (rj_R 12) 33 (rj_R 16) rj_tn).all (fun w => rj_mvb w && vx_ot w) = true := by decide +kernel
def rj_tp17 : List (Nat × Nat) := [(1, 11), (2, 233), (3, 2), (3, 6), (3, 9), (3, 11), (2, 234), (2, 235), (1, 28), (1, 29), (2, 236), (3, 1), (3, 7), (3, 23), (2, 223), (3, 24), (2, 225), (3, 25), (2, 227), (2, 237), (2, 239), (2, 229), (3, 106), (3, 107), (3, 108), (3, 16), (2, 214), (3, 16), (3, 17), (3, 18), (3, 19), (2, 216), (3, 19), (3, 20), (3, 21), (2, 234), (2, 218), (3, 105), (3, 97), (3, 98), (3, 99), (3, 5), (3, 100), (3, 101), (3, 102), (3, 103), (2, 232), (2, 231), (3, 104)]
set_option maxRecDepth 100000 in
theorem rj_te17 : (vx_at0 (rj_R 12) 48 (rj_R 17) rj_tn).map some = rj_tp17.map (fun q => (rj_tb q.1)[q.2]?) := by decide +kernel
set_option maxRecDepth 100000 in
theorem rj_tg17 : (vx_at0 (rj_R 12) 48 (rj_R 17) rj_tn).all (fun w => rj_mvb w && vx_ot w) = true := by decide +kernel
theorem rj_tw {l : List Jvm.Cond} {ps : List (Nat × Nat)} (h : l.map some = ps.map (fun q => (rj_tb q.1)[q.2]?)) (hg : l.all (fun w => rj_mvb w && vx_ot w) = true) {w : Jvm.Cond} (hw : w ∈ l) : w ∈ rj_W ∧ vx_ot w = true := by
  have h1 := List.all_eq_true.mp hg w hw
  rw [Bool.and_eq_true] at h1
  have h2 : some w ∈ l.map some := List.mem_map_of_mem hw
  rw [h] at h2
  obtain ⟨q, -, hq⟩ := List.mem_map.mp h2
  exact ⟨rj_in hq h1.1, h1.2⟩
theorem rj_tw_E {E : Nat} (h15 : 15 ≤ E) (h18 : E < 18) {w : Jvm.Cond} (hw : w ∈ vx_at0 (rj_R 12) (rj_tc E) (rj_R E) rj_tn) : w ∈ rj_W ∧ vx_ot w = true := by
  have h : E = 15 ∨ E = 16 ∨ E = 17 := by omega
  rcases h with rfl | rfl | rfl
  · exact rj_tw rj_te15 rj_tg15 hw
  · exact rj_tw rj_te16 rj_tg16 hw
  · exact rj_tw rj_te17 rj_tg17 hw
theorem rj_kd1_all : ∀ c, c < 15 → c ≠ 12 ∧ c ≠ 14 → (rj_M c).all (fun m => !(Nat.beq m.2.2.2.2.2.2.1 1)) = true := by decide +kernel
theorem rj_kd2_all : ∀ c, c < 15 → c ≠ 14 → (rj_M c).all (fun m => !(Nat.beq m.2.2.2.2.2.2.1 2)) = true := by decide +kernel
/-- the law throws nothing itself -/
def rj_nt (r : Nat × Instr × Nat) : Bool := match r.2.1 with
  | .new k => (match rj_cl 14 k with | some E => Nat.blt E 15 | none => true)
  | _ => true
theorem rj_nt_all : (rj_C 14).all (fun l => l.all rj_nt) = true := by decide +kernel
theorem rj_kd1 {mi pc k E len : Nat} (hok : rj_ok mi) (h : rj_kd mi = 1) (hat : rj_at mi pc = some (.new k, len)) (hcl : rj_cl (mi / 1000) k = some E) (h15 : 15 ≤ E) : mi / 1000 = 12 := by
  refine Classical.byContradiction fun hc => ?_
  by_cases h14 : mi / 1000 = 14
  · obtain ⟨-, -, h3, h4⟩ := rj_at_w hok hat
    rw [h14] at h3 h4 hcl
    have h5 := List.all_eq_true.mp (List.all_eq_true.mp rj_nt_all _ h4) _ h3
    simp only [rj_nt, hcl, Nat.blt_eq] at h5
    omega
  · have h1 := List.all_eq_true.mp (rj_kd1_all _ (rj_c15 hok) ⟨hc, h14⟩) _ (List.mem_of_getElem? (rj_m_at hok))
    have h2 : (rj_m mi).2.2.2.2.2.2.1 = 1 := h
    rw [h2] at h1
    cases h1
theorem rj_kd2 {mi : Nat} (hok : rj_ok mi) (h : rj_kd mi = 2) : mi / 1000 = 14 := by
  refine Classical.byContradiction fun hc => ?_
  have h1 := List.all_eq_true.mp (rj_kd2_all _ (rj_c15 hok) hc) _ (List.mem_of_getElem? (rj_m_at hok))
  have h2 : (rj_m mi).2.2.2.2.2.2.1 = 2 := h
  rw [h2] at h1
  cases h1
theorem rj_thr {mi pc k E len : Nat} (hok : rj_ok mi) (hkd : rj_kd mi = 1) (hat : rj_at mi pc = some (.new k, len)) (hcl : rj_cl (mi / 1000) k = some E) (h15 : 15 ≤ E) :
    rj_at mi (pc + 3) = some (.dup, 1) ∧ rj_at mi (pc + 4) = some (.invokespecial (rj_tc E), 3) ∧ rj_at mi (pc + 7) = some (.athrow, 1) := by
  have h12 := rj_kd1 hok hkd hat hcl h15
  obtain ⟨-, -, h3, -⟩ := rj_at_w hok hat
  have hlt : mi % 1000 < (rj_M 12).length := by have : mi % 1000 < (rj_M (mi / 1000)).length := hok; rw [h12] at this; exact this
  have hmi : 12000 + mi % 1000 = mi := by omega
  rw [h12] at h3
  have h1 := List.all_eq_true.mp (List.all_eq_true.mp rj_okT_all _ (List.mem_range.mpr hlt)) _ h3
  rw [hmi] at h1
  simp only [rj_ckT, hcl, Bool.or_eq_true, Bool.not_eq_true', Bool.and_eq_true, decide_eq_true_eq] at h1
  rcases h1 with (h1 | h1) | h1
  · rw [Nat.ble_eq_true_of_le h15] at h1; cases h1
  · rw [hkd] at h1; cases h1
  · exact ⟨h1.1.1.2, h1.1.2, h1.2⟩
/-- where a wrapper catches -/
theorem rj_hnd {mi pc mt k q x len : Nat} {i : Instr} (hok : rj_ok mi) (hkd : rj_kd mi = 2) (hat : rj_at mi pc = some (i, len)) (htg : rj_tg (mi / 1000) i = some mt) (hkt : rj_kd mt = 1) (hk : k = 15 ∨ k = 16 ∨ k = 17) (hh : rj_hn mi k = some (q, x)) :
    ∃ h, rj_ct k pc (rj_hh mi) = some h ∧ x < rj_mL mi ∧ (rj_at mi h = some (.astore x, q - h) ∧ h + 2 = q ∨ ∃ y : Fin 4, (y : Nat) = x ∧ rj_at mi h = some (.astore_n y, q - h) ∧ h + 1 = q) := by
  have h14 := rj_kd2 hok hkd
  obtain ⟨-, -, h3, -⟩ := rj_at_w hok hat
  have hlt : mi % 1000 < 16 := by have : mi % 1000 < (rj_M (mi / 1000)).length := hok; rw [h14, rj_m_14] at this; exact this
  have hmi : 14000 + mi % 1000 = mi := by omega
  rw [h14] at h3 htg
  have h1 := List.all_eq_true.mp (List.all_eq_true.mp rj_okH_all _ (List.mem_range.mpr hlt)) _ h3
  rw [hmi] at h1
  simp only [rj_ckH, htg, hkd, hkt] at h1
  have h2 : [15, 16, 17].all (rj_ckH1 mi pc) = true := h1
  have h4 := List.all_eq_true.mp h2 k (by simp; omega)
  simp only [rj_ckH1, hh] at h4
  split at h4
  · cases h4
  · rename_i h hct
    refine ⟨h, hct, ?_⟩
    split at h4
    · rename_i y n hat2
      simp only [Bool.and_eq_true, Nat.blt_eq] at h4
      obtain ⟨⟨a1, a2⟩, a3⟩ := h4
      have a1 := Nat.eq_of_beq_eq_true a1
      have a2 := Nat.eq_of_beq_eq_true a2
      have hn : n = 2 := Nat.eq_of_beq_eq_true (rj_at_w hok hat2).2.1
      refine ⟨a3, Or.inl ⟨?_, by omega⟩⟩
      rw [hat2, a1, show n = q - h by omega]
    · rename_i y n hat2
      simp only [Bool.and_eq_true, Nat.blt_eq] at h4
      obtain ⟨⟨a1, a2⟩, a3⟩ := h4
      have a1 := Nat.eq_of_beq_eq_true a1
      have a2 := Nat.eq_of_beq_eq_true a2
      have hn : n = 1 := Nat.eq_of_beq_eq_true (rj_at_w hok hat2).2.1
      refine ⟨a3, Or.inr ⟨y, a1, ?_, by omega⟩⟩
      rw [hat2, show n = q - h by omega]
    · cases h4
section MJD
variable {p : Program} {l : Launch} {e : Env} {R : Room} {s : State} {m : MethodId} {args : Array Value} {below : List Frame} {meth : Method} {c : Code} {H : Heap} {locs : List Loc} {cells slots mc ms : Nat} {Q : State → Prop}
variable {κ : rj_E} {G G9 : mj_G} {o9 : mj_O} {lsA : Array Slot} {nL pc f d mi mt own k len : Nat} {ls : List (Option mj_V)} {st as rest : List mj_V} {i : Instr}
/-- the table's row that catches -/
theorem rj_ct_e (hA : rj_Am κ s) {k pc h : Nat} (hk : k = 15 ∨ k = 16 ∨ k = 17) : ∀ {hh : List (Nat × Nat × Nat × Nat)}, rj_ct k pc hh = some h → ∃ (pre suf : List ExceptionTableEntry) (x : ExceptionTableEntry), tableOf hh = pre ++ x :: suf ∧
    (∀ z ∈ pre, covers z pc = false ∨ (z.catchType ≠ 0 ∧ ∃ nm : String, (Jvm.Cond.classLink (rj_R 14) z.catchType nm).before args s = true ∧ va_Nc (rj_R k) nm s)) ∧ covers x pc = true ∧ x.catchType ≠ 0 ∧ (Jvm.Cond.classLink (rj_R 14) x.catchType (rj_R k)).before args s = true ∧ x.handlerPc = h
  | [], hh => by cases hh
  | (a, b, c, ct) :: r, hh => by
    unfold rj_ct at hh
    cases hcv : (Nat.ble a pc && Nat.blt pc b) with
    | false =>
      rw [hcv] at hh
      obtain ⟨pre, suf, x, e1, e2, e3, e4, e5, e6⟩ := rj_ct_e hA hk (hh := r) hh
      refine ⟨⟨a, b, c, ct⟩ :: pre, suf, x, by show _ :: tableOf r = _; rw [e1]; rfl, fun z hz => ?_, e3, e4, e5, e6⟩
      rcases List.mem_cons.mp hz with rfl | hz
      · left
        cases hc2 : covers (⟨a, b, c, ct⟩ : ExceptionTableEntry) pc with
        | false => rfl
        | true =>
          simp [covers] at hc2
          rw [Nat.ble_eq_true_of_le hc2.1, Nat.blt_eq.mpr hc2.2] at hcv
          cases hcv
      · exact e2 z hz
    | true =>
      rw [hcv] at hh
      have hcov : covers (⟨a, b, c, ct⟩ : ExceptionTableEntry) pc = true := by
        rw [Bool.and_eq_true] at hcv
        simp [covers]
        exact ⟨Nat.le_of_ble_eq_true hcv.1, Nat.blt_eq.mp hcv.2⟩
      cases hct : rj_cch ct with
      | none => rw [hct] at hh; cases hh
      | some cI =>
        rw [hct] at hh
        dsimp only [cond_true] at hh
        obtain ⟨w1, w2⟩ := rj_cch_w hct
        cases hb1 : Nat.beq cI k with
        | true =>
          rw [hb1] at hh
          cases hh
          obtain rfl := Nat.eq_of_beq_eq_true hb1
          exact ⟨[], tableOf r, ⟨a, b, _, ct⟩, rfl, (fun z hz => nomatch hz), hcov, w2, hA.word w1, rfl⟩
        | false =>
          rw [hb1] at hh
          cases hb2 : ((Nat.beq k 16 && Nat.beq cI 15) || (Nat.beq k 15 && Nat.beq cI 17) || (Nat.beq k 16 && Nat.beq cI 17)) with
          | false => rw [hb2] at hh; cases hh
          | true =>
            rw [hb2] at hh
            obtain ⟨pre, suf, x, e1, e2, e3, e4, e5, e6⟩ := rj_ct_e hA hk (hh := r) hh
            refine ⟨⟨a, b, c, ct⟩ :: pre, suf, x, by show _ :: tableOf r = _; rw [e1]; rfl, fun z hz => ?_, e3, e4, e5, e6⟩
            rcases List.mem_cons.mp hz with rfl | hz
            · refine Or.inr ⟨w2, rj_R cI, hA.word w1, ?_⟩
              obtain ⟨-, -, -, -, -, -, -, -, -, -, n1, n2, n3⟩ := hA
              rw [Bool.or_eq_true, Bool.or_eq_true, Bool.and_eq_true, Bool.and_eq_true, Bool.and_eq_true] at hb2
              rcases hb2 with (⟨q1, q2⟩ | ⟨q1, q2⟩) | ⟨q1, q2⟩
              · obtain rfl := Nat.eq_of_beq_eq_true q1
                obtain rfl := Nat.eq_of_beq_eq_true q2
                exact n1
              · obtain rfl := Nat.eq_of_beq_eq_true q1
                obtain rfl := Nat.eq_of_beq_eq_true q2
                exact n2
              · obtain rfl := Nat.eq_of_beq_eq_true q1
                obtain rfl := Nat.eq_of_beq_eq_true q2
                exact n3
            · exact e2 z hz
theorem rj_W_imp {Q' : State → Prop} {g : JFrame} (h : W p l e R s m args below meth c H locs cells slots Q g) (hq : ∀ t, Q t → Q' t) : W p l e R s m args below meth c H locs cells slots Q' g := fun T hT X => by
  obtain ⟨t, a, b⟩ := h T hT X
  exact ⟨t, a, hq t b⟩
theorem rj_W_call (IH : rj_WF l f) (fx : rj_Fx p l s m meth c mi) (hA : rj_Am κ s) (hS : va_S (fun q => rj_eb κ ≤ q) s.heap H locs) (hR : rj_Re κ G H) (hsz : lsA.size = rj_mL mi) (hd : d + 2 ≤ R.frames) (hlo : 41 * (d + 2) ≤ R.locals)
    (htg : rj_tg (mi / 1000) i = some mt) (hck : rj_ckC (mi / 1000) (pc, i, len) = true) (hdec : decode (rj_bt mi) pc = .ok (i, len)) (htk : mj_tk (rj_na mt) [] st = some (as, rest)) (hw : mj_w rest ≤ 8) (hrc : rj_rc G mt as)
    (hXF : rj_XF f d mt 0 (mj_en as (rj_mL mt)) [] G (fun a b => a = o9 ∧ b = G9)) (hroom : cells + (mj_n G9 - mj_n G) ≤ R.cells ∧ slots + (mj_u G9 - mj_u G) ≤ R.slots)
    (kk : ∀ v, o9 = .inl v → ∀ (H' : Heap) (locs' : List Loc), va_S (fun q => rj_eb κ ≤ q) s.heap H' locs' → rj_Re κ G9 H' → W p l e R s m args below meth c H' locs' (cells + (mj_n G9 - mj_n G)) (slots + (mj_u G9 - mj_u G)) Q (F0 m (pc + len) lsA ((v.toList ++ rest).map (rj_vm κ))))
    (kx : ∀ k, o9 = .inr k → rj_kd mt = 1 → 15 ≤ k → k < 18 → ∀ (H' : Heap) (locs' : List Loc) (q : Addr) (ce : Cell), va_S (fun q => rj_eb κ ≤ q) s.heap H' locs' → rj_Re κ G9 H' → H'[q]? = some ce → ce.vm = .none → s.vm.findClass (rj_R k) = some ce.cls →
      vx_W p l e R s m args below meth c H' locs' (cells + (mj_n G9 - mj_n G)) (slots + (mj_u G9 - mj_u G)) Q (F0 m pc lsA (rest.map (rj_vm κ))) q) :
    W p l e R s m args below meth c H locs cells slots Q (F0 m pc lsA (st.map (rj_vm κ))) := by
  obtain ⟨hx, hb, hml, hown, -, -, -, -, -, hl⟩ := fx
  obtain ⟨k, hi, hme, hlt⟩ := rj_tg_e htg
  obtain ⟨hlink, hok, hne⟩ := rj_me_n hme hlt
  obtain ⟨w1, w2, w3, w4, w5, w6, w7, w8, w9, w10, w11⟩ := rj_mF hok hne
  obtain ⟨hlen, hrc⟩ := hrc
  obtain ⟨fr, q1, q2, q3⟩ := rj_tk_e htk
  rw [List.append_nil] at q3
  have hst : st = as.reverse ++ rest := by rw [q1, q3, List.reverse_reverse]
  have hna : as.length = rj_na mt := by rw [q3, List.length_reverse, q2]
  have S : CallFix p m c (rj_bt mi) (rj_mL mi) s args [] (rj_R (mi / 1000)) := ⟨hx, hb, hml, hown, fun w hw => nomatch hw⟩
  unfold rj_ckC at hck
  rw [htg] at hck
  dsimp only at hck
  rw [Bool.and_eq_true] at hck
  obtain ⟨hl3, hck⟩ := hck
  obtain rfl := Nat.eq_of_beq_eq_true hl3
  have hsum : 2 * (F0 m pc lsA (st.map (rj_vm κ))).monitorRoom + ((rest.map (rj_vm κ)).map fun v => v.category).sum ≤ 8 := by
    show 2 * 0 + _ ≤ _
    rw [rj_w_sum]
    omega
  have fin : ∀ (v : Option Value) (st₀ t : State) (L : List Loc) (a : Array Value), (∀ q ∈ L, rj_fr κ q.base) → st₀.heap = H → rj_Qc κ (fun a b => a = o9 ∧ b = G9) a st₀ (.returned v) t → W p l e R s m args below meth c t.heap (locs ++ L) (cells + (mj_n G9 - mj_n G)) (slots + (mj_u G9 - mj_u G)) Q { F0 m pc lsA (st.map (rj_vm κ)) with pc := pc + 3, stack := v.toList ++ rest.map (rj_vm κ) } := by
    intro v st₀ t L a hL h0 hq
    obtain ⟨v', G', ev, ⟨eo, eG⟩, hRe, hSS⟩ := hq
    subst eG
    rw [h0] at hSS
    have h9 := kk v' eo.symm t.heap (locs ++ L) (hSS.add hS hL) hRe
    have ev2 : v = v'.map (rj_vm κ) := by injection ev
    rw [ev2]
    rw [List.map_append] at h9
    cases v' <;> exact h9
  have fix : ∀ (q : Addr) (st₀ t : State) (L : List Loc) (E : String) (ce : Cell), rj_kd mt = 1 → (∀ q ∈ L, rj_fr κ q.base) → st₀.heap = H → rj_Xc κ (fun a b => a = o9 ∧ b = G9) E st₀ t → t.heap[q]? = some ce → ce.vm = .none → s.vm.findClass E = some ce.cls → vx_W p l e R s m args below meth c t.heap (locs ++ L) (cells + (mj_n G9 - mj_n G)) (slots + (mj_u G9 - mj_u G)) Q { F0 m pc lsA (st.map (rj_vm κ)) with stack := rest.map (rj_vm κ) } q := by
    intro q st₀ t L E ce hkd hL h0 hq c1 c2 c3
    obtain ⟨k9, G', k15, k18, eE, ⟨eo, eG⟩, hRe, hSS⟩ := hq
    subst eG
    subst eE
    rw [h0] at hSS
    exact kx k9 eo.symm hkd k15 k18 t.heap (locs ++ L) q ce (hSS.add hS hL) hRe c1 c2 c3
  rcases hi with rfl | rfl | rfl
  · -- static
    have hsc : rj_sc mt = true := hck
    rw [hsc] at w2
    have hnn : (as.map (rj_vm κ)).length = (bif rj_sc mt then rj_na mt else rj_na mt - 1) := by rw [List.length_map, hna, hsc]; rfl
    have hstack : (F0 m pc lsA (st.map (rj_vm κ))).stack = (as.map (rj_vm κ)).reverse ++ rest.map (rj_vm κ) := by
      show st.map (rj_vm κ) = _
      rw [hst, List.map_append, List.map_reverse]
    by_cases hkd : rj_kd mt = 2
    · have hM := rj_Met2 (κ := κ) hl IH hok hne hkd hlen hXF
      rcases hlink with hlink | ⟨-, h0⟩
      · exact rj_runk (vx_runSW S hM (rj_CW hA hok hne hkd hsc hd hlo hlink) (rj_PS hA hS hR) rfl hnn hsz hstack hsum hdec hroom) (fun v st₀ t L a b c => fin v st₀ t L _ a b c)
      · rw [hkd] at h0; cases h0
    · by_cases hk1 : rj_kd mt = 1
      · have hM := rj_Met1 (κ := κ) hl IH hok hne hk1 hlen hXF
        rcases hlink with hlink | ⟨-, h0⟩
        · exact rj_runx (vx_runS S hM ⟨rj_CB hA hok hne hkd hd hlo hlink, hA.word w2⟩ (rj_PS hA hS hR) rfl hnn hsz hstack hsum hdec hroom) (fun v st₀ t L a b c => fin v st₀ t L _ a b c) (fun q st₀ t L E ce a b c x y z => fix q st₀ t L E ce hk1 a b c x y z)
        · rw [hk1] at h0; cases h0
      · have hk0 : rj_kd mt = 0 := by omega
        have hM := rj_Met0 (κ := κ) hl IH hok hne hk0 hlen hXF
        rcases hlink with hlink | ⟨hlink, -⟩
        · exact rj_runk (va_runS S hM ⟨rj_CB hA hok hne hkd hd hlo hlink, hA.word w2⟩ (rj_PS hA hS hR) rfl hnn hsz hstack hsum hdec hroom) (fun v st₀ t L a b c => fin v st₀ t L _ a b c)
        · exact rj_runk (va_runSN S hM ⟨rj_CN hA hok hne hkd hd hlo hlink, hA.word w2, trivial⟩ (rj_PS hA hS hR) rfl hnn hsz hstack hsum hdec hroom) (fun v st₀ t L a b c => fin v st₀ t L _ a b c)
  · -- virtual
    dsimp only at hck
    rw [Bool.and_eq_true, Bool.and_eq_true, Bool.not_eq_true', Bool.not_eq_true', Bool.not_eq_true'] at hck
    obtain ⟨⟨hsc, hnm⟩, hk2⟩ := hck
    have hkd : rj_kd mt ≠ 2 := fun e => by rw [e] at hk2; cases hk2
    rw [hsc] at w2 hrc
    have hsel := (w3.resolve_left (fun q => by rw [hsc] at q; cases q)).resolve_left (of_decide_eq_false hnm)
    obtain ⟨a, as', rfl, hka⟩ : ∃ a as', as = .inr (.inr a) :: as' ∧ mj_k G a = mt / 1000 + 1 := by
      match as, hrc with
      | .inr (.inr a) :: as', h => exact ⟨a, as', rfl, h⟩
    obtain ⟨hPV, ha0⟩ := rj_PV (as := as') hA hS hR (rj_c15 hok) hka
    have hnn : (as'.map (rj_vm κ)).length = (bif rj_sc mt then rj_na mt else rj_na mt - 1) := by
      rw [List.length_cons] at hna
      rw [List.length_map, hsc, cond_false]
      omega
    have hstack : (F0 m pc lsA (st.map (rj_vm κ))).stack = (as'.map (rj_vm κ)).reverse ++ .ref (rj_ph κ a) :: rest.map (rj_vm κ) := by
      show st.map (rj_vm κ) = _
      have ev : rj_vm κ (.inr (.inr a)) = .ref (rj_ph κ a) := rj_rvn ha0
      rw [hst, List.map_append, List.reverse_cons, List.map_append, List.map_cons, ev, ← List.map_reverse]
      simp
    rw [w4] at hsel
    by_cases hk1 : rj_kd mt = 1
    · have hM := rj_Met1 (κ := κ) hl IH hok hne hk1 hlen hXF
      rcases hlink with hlink | ⟨-, h0⟩
      · exact rj_runx (vx_runV S hM ⟨rj_CB hA hok hne hkd hd hlo hlink, hA.word w2, hA.word hsel⟩ hPV rfl hnn hsz hstack hsum hdec hroom) (fun v st₀ t L a b c => fin v st₀ t L _ a b c) (fun q st₀ t L E ce a b c x y z => fix q st₀ t L E ce hk1 a b c x y z)
      · rw [hk1] at h0; cases h0
    · have hk0 : rj_kd mt = 0 := by omega
      have hM := rj_Met0 (κ := κ) hl IH hok hne hk0 hlen hXF
      rcases hlink with hlink | ⟨hlink, -⟩
      · exact rj_runk (va_runV S hM ⟨rj_CB hA hok hne hkd hd hlo hlink, hA.word w2, hA.word hsel⟩ hPV rfl hnn hsz hstack hsum hdec hroom) (fun v st₀ t L a b c => fin v st₀ t L _ a b c)
      · exact rj_runk (va_runVN S hM ⟨rj_CN hA hok hne hkd hd hlo hlink, hA.word w2, hA.word hsel⟩ hPV rfl hnn hsz hstack hsum hdec hroom) (fun v st₀ t L a b c => fin v st₀ t L _ a b c)
  · -- special
    dsimp only at hck
    rw [Bool.and_eq_true, Bool.and_eq_true, Bool.and_eq_true, Bool.not_eq_true'] at hck
    obtain ⟨⟨⟨hsc, hnm⟩, hk2⟩, hrt⟩ := hck
    have hk0 := Nat.eq_of_beq_eq_true hk2
    have hkd : rj_kd mt ≠ 2 := fun e => by rw [e] at hk2; cases hk2
    have hnm := of_decide_eq_true hnm
    have hrt := of_decide_eq_true hrt
    rw [hsc] at w2 hrc
    obtain ⟨a, as', rfl, hka⟩ : ∃ a as', as = .inr (.inr a) :: as' ∧ mj_k G a = mt / 1000 + 1 := by
      match as, hrc with
      | .inr (.inr a) :: as', h => exact ⟨a, as', rfl, h⟩
    obtain ⟨hPV, ha0⟩ := rj_PV (as := as') hA hS hR (rj_c15 hok) hka
    have hPS : PreS s H (rj_Pc κ G (.inr (.inr a) :: as')) (.ref (rj_ph κ a) :: as'.map (rj_vm κ)) := ⟨hPV.1, hPV.2.2⟩
    have hnn : (as'.map (rj_vm κ)).length = (bif rj_sc mt then rj_na mt else rj_na mt - 1) := by
      rw [List.length_cons] at hna
      rw [List.length_map, hsc, cond_false]
      omega
    have hstack : (F0 m pc lsA (st.map (rj_vm κ))).stack = (as'.map (rj_vm κ)).reverse ++ .ref (rj_ph κ a) :: rest.map (rj_vm κ) := by
      show st.map (rj_vm κ) = _
      have ev : rj_vm κ (.inr (.inr a)) = .ref (rj_ph κ a) := rj_rvn ha0
      rw [hst, List.map_append, List.reverse_cons, List.map_append, List.map_cons, ev, ← List.map_reverse]
      simp
    have hM := rj_Met0 (κ := κ) hl IH hok hne hk0 hlen hXF
    rw [hrt] at hM
    rcases hlink with hlink | ⟨hlink, -⟩
    · have hCB := rj_CB (args := args) (mc := mj_n G9 - mj_n G) (ms := mj_u G9 - mj_u G) hA hok hne hkd hd hlo hlink
      rw [hrt] at hCB
      exact rj_runk (va_runI S hM ⟨hCB, hnm, hA.word w2⟩ hPS rfl hnn hsz hstack hsum hdec hroom) (fun v st₀ t L a b c => fin v st₀ t L _ a b c)
    · have hCN := rj_CN (args := args) (mc := mj_n G9 - mj_n G) (ms := mj_u G9 - mj_u G) hA hok hne hkd hd hlo hlink
      rw [hrt] at hCN
      exact rj_runk (va_runIN S hM ⟨hCN, hnm, hA.word w2⟩ hPS rfl hnn hsz hstack hsum hdec hroom) (fun v st₀ t L a b c => fin v st₀ t L _ a b c)
end MJD
