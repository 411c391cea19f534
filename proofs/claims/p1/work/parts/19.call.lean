/-! A FRAME'S RUN, FROM ANYWHERE, BY THE FUEL -/
def mj_tn : List String := ["java/lang/RuntimeException", "java/lang/Exception"]
def mj_tp15 : List (Nat × Nat) := [(1, 12), (4, 13), (4, 22), (4, 26), (4, 29), (4, 31), (4, 14), (4, 15), (1, 29), (1, 30), (4, 16), (4, 21), (4, 27), (4, 43), (4, 3), (4, 44), (4, 5), (4, 45), (4, 7), (4, 17), (4, 19), (4, 9), (4, 33), (4, 34), (4, 35), (4, 36), (3, 234), (4, 36), (4, 37), (4, 38), (4, 39), (3, 236), (4, 39), (4, 40), (4, 41), (4, 14), (3, 238), (4, 32), (3, 232), (3, 233), (4, 0), (4, 1), (4, 2), (4, 4), (4, 6), (4, 8), (4, 12), (4, 11), (4, 10)]
set_option maxRecDepth 100000 in
theorem mj_te15 : (vx_at0 (mj_R 12) 26 (mj_R 15) mj_tn).map some = mj_tp15.map (fun q => (mj_tb q.1)[q.2]?) := by decide +kernel
set_option maxRecDepth 100000 in
theorem mj_tg15 : (vx_at0 (mj_R 12) 26 (mj_R 15) mj_tn).all (fun w => mj_mvb w && vx_ot w) = true := by decide +kernel
def mj_tp16 : List (Nat × Nat) := [(1, 12), (4, 13), (4, 22), (4, 26), (4, 29), (4, 31), (4, 14), (4, 15), (1, 29), (1, 30), (4, 16), (4, 21), (4, 27), (4, 43), (4, 3), (4, 44), (4, 5), (4, 45), (4, 7), (4, 17), (4, 19), (4, 9), (4, 64), (4, 65), (4, 66), (4, 36), (3, 234), (4, 36), (4, 37), (4, 38), (4, 39), (3, 236), (4, 39), (4, 40), (4, 41), (4, 14), (3, 238), (4, 63), (4, 55), (4, 56), (4, 57), (4, 24), (4, 58), (4, 59), (4, 60), (4, 61), (4, 12), (4, 11), (4, 62)]
set_option maxRecDepth 100000 in
theorem mj_te16 : (vx_at0 (mj_R 12) 33 (mj_R 16) mj_tn).map some = mj_tp16.map (fun q => (mj_tb q.1)[q.2]?) := by decide +kernel
set_option maxRecDepth 100000 in
theorem mj_tg16 : (vx_at0 (mj_R 12) 33 (mj_R 16) mj_tn).all (fun w => mj_mvb w && vx_ot w) = true := by decide +kernel
def mj_tp17 : List (Nat × Nat) := [(1, 12), (4, 13), (4, 22), (4, 26), (4, 29), (4, 31), (4, 14), (4, 15), (1, 29), (1, 30), (4, 16), (4, 21), (4, 27), (4, 43), (4, 3), (4, 44), (4, 5), (4, 45), (4, 7), (4, 17), (4, 19), (4, 9), (4, 87), (4, 88), (4, 89), (4, 36), (3, 234), (4, 36), (4, 37), (4, 38), (4, 39), (3, 236), (4, 39), (4, 40), (4, 41), (4, 14), (3, 238), (4, 86), (4, 78), (4, 79), (4, 80), (4, 25), (4, 81), (4, 82), (4, 83), (4, 84), (4, 12), (4, 11), (4, 85)]
set_option maxRecDepth 100000 in
theorem mj_te17 : (vx_at0 (mj_R 12) 48 (mj_R 17) mj_tn).map some = mj_tp17.map (fun q => (mj_tb q.1)[q.2]?) := by decide +kernel
set_option maxRecDepth 100000 in
theorem mj_tg17 : (vx_at0 (mj_R 12) 48 (mj_R 17) mj_tn).all (fun w => mj_mvb w && vx_ot w) = true := by decide +kernel
theorem mj_tw {l : List Jvm.Cond} {ps : List (Nat × Nat)} (h : l.map some = ps.map (fun q => (mj_tb q.1)[q.2]?)) (hg : l.all (fun w => mj_mvb w && vx_ot w) = true) {w : Jvm.Cond} (hw : w ∈ l) : w ∈ mj_W ∧ vx_ot w = true := by
  have h1 := List.all_eq_true.mp hg w hw
  rw [Bool.and_eq_true] at h1
  have h2 : some w ∈ l.map some := List.mem_map_of_mem hw
  rw [h] at h2
  obtain ⟨q, -, hq⟩ := List.mem_map.mp h2
  exact ⟨mj_in hq h1.1, h1.2⟩
theorem mj_tw_E {E : Nat} (h15 : 15 ≤ E) (h18 : E < 18) {w : Jvm.Cond} (hw : w ∈ vx_at0 (mj_R 12) (mj_tc E) (mj_R E) mj_tn) : w ∈ mj_W ∧ vx_ot w = true := by
  have h : E = 15 ∨ E = 16 ∨ E = 17 := by omega
  rcases h with rfl | rfl | rfl
  · exact mj_tw mj_te15 mj_tg15 hw
  · exact mj_tw mj_te16 mj_tg16 hw
  · exact mj_tw mj_te17 mj_tg17 hw
theorem mj_kd1_all : ∀ c, c < 15 → c ≠ 12 → (mj_M c).all (fun m => !(Nat.beq m.2.2.2.2.2.2.1 1)) = true := by decide +kernel
theorem mj_kd2_all : ∀ c, c < 15 → c ≠ 14 → (mj_M c).all (fun m => !(Nat.beq m.2.2.2.2.2.2.1 2)) = true := by decide +kernel
theorem mj_kd1 {mi : Nat} (hok : mj_ok mi) (h : mj_kd mi = 1) : mi / 1000 = 12 := by
  refine Classical.byContradiction fun hc => ?_
  have h1 := List.all_eq_true.mp (mj_kd1_all _ (mj_c15 hok) hc) _ (List.mem_of_getElem? (mj_m_at hok))
  have h2 : (mj_m mi).2.2.2.2.2.2.1 = 1 := h
  rw [h2] at h1
  cases h1
theorem mj_kd2 {mi : Nat} (hok : mj_ok mi) (h : mj_kd mi = 2) : mi / 1000 = 14 := by
  refine Classical.byContradiction fun hc => ?_
  have h1 := List.all_eq_true.mp (mj_kd2_all _ (mj_c15 hok) hc) _ (List.mem_of_getElem? (mj_m_at hok))
  have h2 : (mj_m mi).2.2.2.2.2.2.1 = 2 := h
  rw [h2] at h1
  cases h1
theorem mj_thr {mi pc k E len : Nat} (hok : mj_ok mi) (hkd : mj_kd mi = 1) (hat : mj_at mi pc = some (.new k, len)) (hcl : mj_cl (mi / 1000) k = some E) (h15 : 15 ≤ E) :
    mj_at mi (pc + 3) = some (.dup, 1) ∧ mj_at mi (pc + 4) = some (.invokespecial (mj_tc E), 3) ∧ mj_at mi (pc + 7) = some (.athrow, 1) := by
  have h12 := mj_kd1 hok hkd
  obtain ⟨-, -, h3, -⟩ := mj_at_w hok hat
  have hlt : mi % 1000 < (mj_M 12).length := by have : mi % 1000 < (mj_M (mi / 1000)).length := hok; rw [h12] at this; exact this
  have hmi : 12000 + mi % 1000 = mi := by omega
  rw [h12] at h3
  have h1 := List.all_eq_true.mp (List.all_eq_true.mp mj_okT_all _ (List.mem_range.mpr hlt)) _ h3
  rw [hmi] at h1
  simp only [mj_ckT, hcl, Bool.or_eq_true, Bool.not_eq_true', Bool.and_eq_true, decide_eq_true_eq] at h1
  rcases h1 with (h1 | h1) | h1
  · rw [Nat.ble_eq_true_of_le h15] at h1; cases h1
  · rw [hkd] at h1; cases h1
  · exact ⟨h1.1.1.2, h1.1.2, h1.2⟩
/-- where a wrapper catches -/
theorem mj_hnd {mi pc mt k q x len : Nat} {i : Instr} (hok : mj_ok mi) (hkd : mj_kd mi = 2) (hat : mj_at mi pc = some (i, len)) (htg : mj_tg (mi / 1000) i = some mt) (hkt : mj_kd mt = 1) (hk : k = 15 ∨ k = 16 ∨ k = 17) (hh : mj_hn mi k = some (q, x)) :
    ∃ h, mj_ct k pc (mj_hh mi) = some h ∧ x < mj_mL mi ∧ (mj_at mi h = some (.astore x, q - h) ∧ h + 2 = q ∨ ∃ y : Fin 4, (y : Nat) = x ∧ mj_at mi h = some (.astore_n y, q - h) ∧ h + 1 = q) := by
  have h14 := mj_kd2 hok hkd
  obtain ⟨-, -, h3, -⟩ := mj_at_w hok hat
  have hlt : mi % 1000 < 19 := by have : mi % 1000 < (mj_M (mi / 1000)).length := hok; rw [h14, mj_m_14] at this; exact this
  have hmi : 14000 + mi % 1000 = mi := by omega
  rw [h14] at h3 htg
  have h1 := List.all_eq_true.mp (List.all_eq_true.mp mj_okH_all _ (List.mem_range.mpr hlt)) _ h3
  rw [hmi] at h1
  simp only [mj_ckH, htg, hkd, hkt] at h1
  have h2 : [15, 16, 17].all (mj_ckH1 mi pc) = true := h1
  have h4 := List.all_eq_true.mp h2 k (by simp; omega)
  simp only [mj_ckH1, hh] at h4
  split at h4
  · cases h4
  · rename_i h hct
    refine ⟨h, hct, ?_⟩
    split at h4
    · rename_i y n hat2
      simp only [Bool.and_eq_true, Nat.blt_eq] at h4
      obtain ⟨⟨a1, a2⟩, a3⟩ := h4
      have a1 := Nat.eq_of_beq_eq_true a1
      have a2 := Nat.eq_of_beq_eq_true a2
      have hn : n = 2 := Nat.eq_of_beq_eq_true (mj_at_w hok hat2).2.1
      refine ⟨a3, Or.inl ⟨?_, by omega⟩⟩
      rw [hat2, a1, show n = q - h by omega]
    · rename_i y n hat2
      simp only [Bool.and_eq_true, Nat.blt_eq] at h4
      obtain ⟨⟨a1, a2⟩, a3⟩ := h4
      have a1 := Nat.eq_of_beq_eq_true a1
      have a2 := Nat.eq_of_beq_eq_true a2
      have hn : n = 1 := Nat.eq_of_beq_eq_true (mj_at_w hok hat2).2.1
      refine ⟨a3, Or.inr ⟨y, a1, ?_, by omega⟩⟩
      rw [hat2, show n = q - h by omega]
    · cases h4
section MJD
variable {p : Program} {l : Launch} {e : Env} {R : Room} {s : State} {m : MethodId} {args : Array Value} {below : List Frame} {meth : Method} {c : Code} {H : Heap} {locs : List Loc} {cells slots mc ms : Nat} {Q : State → Prop}
variable {κ : mj_E} {G G9 : mj_G} {o9 : mj_O} {lsA : Array Slot} {nL pc f d mi mt own k len : Nat} {ls : List (Option mj_V)} {st as rest : List mj_V} {i : Instr}
/-- the table's row that catches -/
theorem mj_ct_e (hA : mj_Am κ s) {k pc h : Nat} (hk : k = 15 ∨ k = 16 ∨ k = 17) : ∀ {hh : List (Nat × Nat × Nat × Nat)}, mj_ct k pc hh = some h → ∃ (pre suf : List ExceptionTableEntry) (x : ExceptionTableEntry), tableOf hh = pre ++ x :: suf ∧
    (∀ z ∈ pre, covers z pc = false ∨ (z.catchType ≠ 0 ∧ ∃ nm : String, (Jvm.Cond.classLink (mj_R 14) z.catchType nm).before args s = true ∧ va_Nc (mj_R k) nm s)) ∧ covers x pc = true ∧ x.catchType ≠ 0 ∧ (Jvm.Cond.classLink (mj_R 14) x.catchType (mj_R k)).before args s = true ∧ x.handlerPc = h
  | [], hh => by cases hh
  | (a, b, c, ct) :: r, hh => by
    unfold mj_ct at hh
    cases hcv : (Nat.ble a pc && Nat.blt pc b) with
    | false =>
      rw [hcv] at hh
      obtain ⟨pre, suf, x, e1, e2, e3, e4, e5, e6⟩ := mj_ct_e hA hk (hh := r) hh
      refine ⟨⟨a, b, c, ct⟩ :: pre, suf, x, by show _ :: tableOf r = _; rw [e1]; rfl, fun z hz => ?_, e3, e4, e5, e6⟩
      rcases List.mem_cons.mp hz with rfl | hz
      · left
        cases hc2 : covers (⟨a, b, c, ct⟩ : ExceptionTableEntry) pc with
        | false => rfl
        | true =>
          simp [covers] at hc2
          rw [Nat.ble_eq_true_of_le hc2.1, Nat.blt_eq.mpr hc2.2] at hcv
          cases hcv
      · exact e2 z hz
    | true =>
      rw [hcv] at hh
      have hcov : covers (⟨a, b, c, ct⟩ : ExceptionTableEntry) pc = true := by
        rw [Bool.and_eq_true] at hcv
        simp [covers]
        exact ⟨Nat.le_of_ble_eq_true hcv.1, Nat.blt_eq.mp hcv.2⟩
      cases hct : mj_cch ct with
      | none => rw [hct] at hh; cases hh
      | some cI =>
        rw [hct] at hh
        dsimp only [cond_true] at hh
        obtain ⟨w1, w2⟩ := mj_cch_w hct
        cases hb1 : Nat.beq cI k with
        | true =>
          rw [hb1] at hh
          cases hh
          obtain rfl := Nat.eq_of_beq_eq_true hb1
          exact ⟨[], tableOf r, ⟨a, b, _, ct⟩, rfl, (fun z hz => nomatch hz), hcov, w2, hA.word w1, rfl⟩
        | false =>
          rw [hb1] at hh
          cases hb2 : ((Nat.beq k 16 && Nat.beq cI 15) || (Nat.beq k 15 && Nat.beq cI 17)) with
          | false => rw [hb2] at hh; cases hh
          | true =>
            rw [hb2] at hh
            obtain ⟨pre, suf, x, e1, e2, e3, e4, e5, e6⟩ := mj_ct_e hA hk (hh := r) hh
            refine ⟨⟨a, b, c, ct⟩ :: pre, suf, x, by show _ :: tableOf r = _; rw [e1]; rfl, fun z hz => ?_, e3, e4, e5, e6⟩
            rcases List.mem_cons.mp hz with rfl | hz
            · refine Or.inr ⟨w2, mj_R cI, hA.word w1, ?_⟩
              obtain ⟨-, -, -, -, -, -, -, -, -, -, n1, n2⟩ := hA
              rw [Bool.or_eq_true, Bool.and_eq_true, Bool.and_eq_true] at hb2
              rcases hb2 with ⟨q1, q2⟩ | ⟨q1, q2⟩
              · obtain rfl := Nat.eq_of_beq_eq_true q1
                obtain rfl := Nat.eq_of_beq_eq_true q2
                exact n1
              · obtain rfl := Nat.eq_of_beq_eq_true q1
                obtain rfl := Nat.eq_of_beq_eq_true q2
                exact n2
            · exact e2 z hz
theorem mj_W_imp {Q' : State → Prop} {g : JFrame} (h : W p l e R s m args below meth c H locs cells slots Q g) (hq : ∀ t, Q t → Q' t) : W p l e R s m args below meth c H locs cells slots Q' g := fun T hT X => by
  obtain ⟨t, a, b⟩ := h T hT X
  exact ⟨t, a, hq t b⟩
theorem mj_W_call (IH : mj_WF l f) (fx : mj_Fx p l s m meth c mi) (hA : mj_Am κ s) (hS : va_S (fun q => mj_eb κ ≤ q) s.heap H locs) (hR : mj_Re κ G H) (hsz : lsA.size = mj_mL mi) (hd : d + 2 ≤ R.frames) (hlo : 41 * (d + 2) ≤ R.locals)
    (htg : mj_tg (mi / 1000) i = some mt) (hck : mj_ckC (mi / 1000) (pc, i, len) = true) (hdec : decode (mj_bt mi) pc = .ok (i, len)) (htk : mj_tk (mj_na mt) [] st = some (as, rest)) (hw : mj_w rest ≤ 8) (hrc : mj_rc G mt as)
    (hXF : mj_XF f d mt 0 (mj_en as (mj_mL mt)) [] G (fun a b => a = o9 ∧ b = G9)) (hroom : cells + (mj_n G9 - mj_n G) ≤ R.cells ∧ slots + (mj_u G9 - mj_u G) ≤ R.slots)
    (kk : ∀ v, o9 = .inl v → ∀ (H' : Heap) (locs' : List Loc), va_S (fun q => mj_eb κ ≤ q) s.heap H' locs' → mj_Re κ G9 H' → W p l e R s m args below meth c H' locs' (cells + (mj_n G9 - mj_n G)) (slots + (mj_u G9 - mj_u G)) Q (F0 m (pc + len) lsA ((v.toList ++ rest).map (mj_vm κ))))
    (kx : ∀ k, o9 = .inr k → mj_kd mt = 1 → 15 ≤ k → k < 18 → ∀ (H' : Heap) (locs' : List Loc) (q : Addr) (ce : Cell), va_S (fun q => mj_eb κ ≤ q) s.heap H' locs' → mj_Re κ G9 H' → H'[q]? = some ce → ce.vm = .none → s.vm.findClass (mj_R k) = some ce.cls →
      vx_W p l e R s m args below meth c H' locs' (cells + (mj_n G9 - mj_n G)) (slots + (mj_u G9 - mj_u G)) Q (F0 m pc lsA (rest.map (mj_vm κ))) q) :
    W p l e R s m args below meth c H locs cells slots Q (F0 m pc lsA (st.map (mj_vm κ))) := by
  obtain ⟨hx, hb, hml, hown, -, -, -, -, -, hl⟩ := fx
  obtain ⟨k, hi, hme, hlt⟩ := mj_tg_e htg
  obtain ⟨hlink, hok, hne⟩ := mj_me_n hme hlt
  obtain ⟨w1, w2, w3, w4, w5, w6, w7, w8, w9, w10, w11⟩ := mj_mF hok hne
  obtain ⟨hlen, hrc⟩ := hrc
  obtain ⟨fr, q1, q2, q3⟩ := mj_tk_e htk
  rw [List.append_nil] at q3
  have hst : st = as.reverse ++ rest := by rw [q1, q3, List.reverse_reverse]
  have hna : as.length = mj_na mt := by rw [q3, List.length_reverse, q2]
  have S : CallFix p m c (mj_bt mi) (mj_mL mi) s args [] (mj_R (mi / 1000)) := ⟨hx, hb, hml, hown, fun w hw => nomatch hw⟩
  unfold mj_ckC at hck
  rw [htg] at hck
  dsimp only at hck
  rw [Bool.and_eq_true] at hck
  obtain ⟨hl3, hck⟩ := hck
  obtain rfl := Nat.eq_of_beq_eq_true hl3
  have hsum : 2 * (F0 m pc lsA (st.map (mj_vm κ))).monitorRoom + ((rest.map (mj_vm κ)).map fun v => v.category).sum ≤ 8 := by
    show 2 * 0 + _ ≤ _
    rw [mj_w_sum]
    omega
  have fin : ∀ (v : Option Value) (st₀ t : State) (L : List Loc) (a : Array Value), (∀ q ∈ L, mj_fr κ q.base) → st₀.heap = H → mj_Qc κ (fun a b => a = o9 ∧ b = G9) a st₀ (.returned v) t → W p l e R s m args below meth c t.heap (locs ++ L) (cells + (mj_n G9 - mj_n G)) (slots + (mj_u G9 - mj_u G)) Q { F0 m pc lsA (st.map (mj_vm κ)) with pc := pc + 3, stack := v.toList ++ rest.map (mj_vm κ) } := by
    intro v st₀ t L a hL h0 hq
    obtain ⟨v', G', ev, ⟨eo, eG⟩, hRe, hSS⟩ := hq
    subst eG
    rw [h0] at hSS
    have h9 := kk v' eo.symm t.heap (locs ++ L) (hSS.add hS hL) hRe
    have ev2 : v = v'.map (mj_vm κ) := by injection ev
    rw [ev2]
    rw [List.map_append] at h9
    cases v' <;> exact h9
  have fix : ∀ (q : Addr) (st₀ t : State) (L : List Loc) (E : String) (ce : Cell), mj_kd mt = 1 → (∀ q ∈ L, mj_fr κ q.base) → st₀.heap = H → mj_Xc κ (fun a b => a = o9 ∧ b = G9) E st₀ t → t.heap[q]? = some ce → ce.vm = .none → s.vm.findClass E = some ce.cls → vx_W p l e R s m args below meth c t.heap (locs ++ L) (cells + (mj_n G9 - mj_n G)) (slots + (mj_u G9 - mj_u G)) Q { F0 m pc lsA (st.map (mj_vm κ)) with stack := rest.map (mj_vm κ) } q := by
    intro q st₀ t L E ce hkd hL h0 hq c1 c2 c3
    obtain ⟨k9, G', k15, k18, eE, ⟨eo, eG⟩, hRe, hSS⟩ := hq
    subst eG
    subst eE
    rw [h0] at hSS
    exact kx k9 eo.symm hkd k15 k18 t.heap (locs ++ L) q ce (hSS.add hS hL) hRe c1 c2 c3
  rcases hi with rfl | rfl | rfl
  · -- static
    dsimp only at hck
    rw [Bool.and_eq_true, Bool.not_eq_true'] at hck
    obtain ⟨hsc, hk1⟩ := hck
    rw [hsc] at w2
    have hnn : (as.map (mj_vm κ)).length = (bif mj_sc mt then mj_na mt else mj_na mt - 1) := by rw [List.length_map, hna, hsc]; rfl
    have hstack : (F0 m pc lsA (st.map (mj_vm κ))).stack = (as.map (mj_vm κ)).reverse ++ rest.map (mj_vm κ) := by
      show st.map (mj_vm κ) = _
      rw [hst, List.map_append, List.map_reverse]
    by_cases hkd : mj_kd mt = 2
    · have hM := mj_Met2 (κ := κ) hl IH hok hne hkd hlen hXF
      rcases hlink with hlink | ⟨-, h0⟩
      · exact mj_runk (vx_runSW S hM (mj_CW hA hok hne hkd hsc hd hlo hlink) (mj_PS hA hS hR) rfl hnn hsz hstack hsum hdec hroom) (fun v st₀ t L a b c => fin v st₀ t L _ a b c)
      · rw [hkd] at h0; cases h0
    · have hk0 : mj_kd mt = 0 := by
        have : mj_kd mt ≠ 1 := fun e => by rw [e] at hk1; cases hk1
        omega
      have hM := mj_Met0 (κ := κ) hl IH hok hne hk0 hlen hXF
      rcases hlink with hlink | ⟨hlink, -⟩
      · exact mj_runk (va_runS S hM ⟨mj_CB hA hok hne hkd hd hlo hlink, hA.word w2⟩ (mj_PS hA hS hR) rfl hnn hsz hstack hsum hdec hroom) (fun v st₀ t L a b c => fin v st₀ t L _ a b c)
      · exact mj_runk (va_runSN S hM ⟨mj_CN hA hok hne hkd hd hlo hlink, hA.word w2, trivial⟩ (mj_PS hA hS hR) rfl hnn hsz hstack hsum hdec hroom) (fun v st₀ t L a b c => fin v st₀ t L _ a b c)
  · -- virtual
    dsimp only at hck
    rw [Bool.and_eq_true, Bool.and_eq_true, Bool.not_eq_true', Bool.not_eq_true', Bool.not_eq_true'] at hck
    obtain ⟨⟨hsc, hnm⟩, hk2⟩ := hck
    have hkd : mj_kd mt ≠ 2 := fun e => by rw [e] at hk2; cases hk2
    rw [hsc] at w2 hrc
    have hsel := (w3.resolve_left (fun q => by rw [hsc] at q; cases q)).resolve_left (of_decide_eq_false hnm)
    obtain ⟨a, as', rfl, hka⟩ : ∃ a as', as = .inr (.inr a) :: as' ∧ mj_k G a = mt / 1000 + 1 := by
      match as, hrc with
      | .inr (.inr a) :: as', h => exact ⟨a, as', rfl, h⟩
    obtain ⟨hPV, ha0⟩ := mj_PV (as := as') hA hS hR (mj_c15 hok) hka
    have hnn : (as'.map (mj_vm κ)).length = (bif mj_sc mt then mj_na mt else mj_na mt - 1) := by
      rw [List.length_cons] at hna
      rw [List.length_map, hsc, cond_false]
      omega
    have hstack : (F0 m pc lsA (st.map (mj_vm κ))).stack = (as'.map (mj_vm κ)).reverse ++ .ref (mj_ph κ a) :: rest.map (mj_vm κ) := by
      show st.map (mj_vm κ) = _
      have ev : mj_vm κ (.inr (.inr a)) = .ref (mj_ph κ a) := mj_rvn ha0
      rw [hst, List.map_append, List.reverse_cons, List.map_append, List.map_cons, ev, ← List.map_reverse]
      simp
    rw [w4] at hsel
    by_cases hk1 : mj_kd mt = 1
    · have hM := mj_Met1 (κ := κ) hl IH hok hne hk1 hlen hXF
      rcases hlink with hlink | ⟨-, h0⟩
      · exact mj_runx (vx_runV S hM ⟨mj_CB hA hok hne hkd hd hlo hlink, hA.word w2, hA.word hsel⟩ hPV rfl hnn hsz hstack hsum hdec hroom) (fun v st₀ t L a b c => fin v st₀ t L _ a b c) (fun q st₀ t L E ce a b c x y z => fix q st₀ t L E ce hk1 a b c x y z)
      · rw [hk1] at h0; cases h0
    · have hk0 : mj_kd mt = 0 := by omega
      have hM := mj_Met0 (κ := κ) hl IH hok hne hk0 hlen hXF
      rcases hlink with hlink | ⟨hlink, -⟩
      · exact mj_runk (va_runV S hM ⟨mj_CB hA hok hne hkd hd hlo hlink, hA.word w2, hA.word hsel⟩ hPV rfl hnn hsz hstack hsum hdec hroom) (fun v st₀ t L a b c => fin v st₀ t L _ a b c)
      · exact mj_runk (va_runVN S hM ⟨mj_CN hA hok hne hkd hd hlo hlink, hA.word w2, hA.word hsel⟩ hPV rfl hnn hsz hstack hsum hdec hroom) (fun v st₀ t L a b c => fin v st₀ t L _ a b c)
  · -- special
    dsimp only at hck
    rw [Bool.and_eq_true, Bool.and_eq_true, Bool.and_eq_true, Bool.not_eq_true'] at hck
    obtain ⟨⟨⟨hsc, hnm⟩, hk2⟩, hrt⟩ := hck
    have hk0 := Nat.eq_of_beq_eq_true hk2
    have hkd : mj_kd mt ≠ 2 := fun e => by rw [e] at hk2; cases hk2
    have hnm := of_decide_eq_true hnm
    have hrt := of_decide_eq_true hrt
    rw [hsc] at w2 hrc
    obtain ⟨a, as', rfl, hka⟩ : ∃ a as', as = .inr (.inr a) :: as' ∧ mj_k G a = mt / 1000 + 1 := by
      match as, hrc with
      | .inr (.inr a) :: as', h => exact ⟨a, as', rfl, h⟩
    obtain ⟨hPV, ha0⟩ := mj_PV (as := as') hA hS hR (mj_c15 hok) hka
    have hPS : PreS s H (mj_Pc κ G (.inr (.inr a) :: as')) (.ref (mj_ph κ a) :: as'.map (mj_vm κ)) := ⟨hPV.1, hPV.2.2⟩
    have hnn : (as'.map (mj_vm κ)).length = (bif mj_sc mt then mj_na mt else mj_na mt - 1) := by
      rw [List.length_cons] at hna
      rw [List.length_map, hsc, cond_false]
      omega
    have hstack : (F0 m pc lsA (st.map (mj_vm κ))).stack = (as'.map (mj_vm κ)).reverse ++ .ref (mj_ph κ a) :: rest.map (mj_vm κ) := by
      show st.map (mj_vm κ) = _
      have ev : mj_vm κ (.inr (.inr a)) = .ref (mj_ph κ a) := mj_rvn ha0
      rw [hst, List.map_append, List.reverse_cons, List.map_append, List.map_cons, ev, ← List.map_reverse]
      simp
    have hM := mj_Met0 (κ := κ) hl IH hok hne hk0 hlen hXF
    rw [hrt] at hM
    rcases hlink with hlink | ⟨hlink, -⟩
    · have hCB := mj_CB (args := args) (mc := mj_n G9 - mj_n G) (ms := mj_u G9 - mj_u G) hA hok hne hkd hd hlo hlink
      rw [hrt] at hCB
      exact mj_runk (va_runI S hM ⟨hCB, hnm, hA.word w2⟩ hPS rfl hnn hsz hstack hsum hdec hroom) (fun v st₀ t L a b c => fin v st₀ t L _ a b c)
    · have hCN := mj_CN (args := args) (mc := mj_n G9 - mj_n G) (ms := mj_u G9 - mj_u G) hA hok hne hkd hd hlo hlink
      rw [hrt] at hCN
      exact mj_runk (va_runIN S hM ⟨hCN, hnm, hA.word w2⟩ hPS rfl hnn hsz hstack hsum hdec hroom) (fun v st₀ t L a b c => fin v st₀ t L _ a b c)
end MJD
