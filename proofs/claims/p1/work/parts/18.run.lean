/-! RUNS OF WHOLE METHODS -/
def mj_SS (κ : mj_E) (H H' : Heap) : Prop := H.size ≤ H'.size ∧ ∀ q : Nat, q < H.size → ¬ (mj_eb κ ≤ q) → H'[q]? = H[q]?
def mj_fr (κ : mj_E) : Addr → Prop := fun q => mj_eb κ ≤ q
theorem mj_SS.add {κ : mj_E} {H0 H H' : Heap} {locs L : List Loc} (h : mj_SS κ H H') (hS : va_S (fun q => mj_eb κ ≤ q) H0 H locs) (hL : ∀ q ∈ L, mj_fr κ q.base) : va_S (fun q => mj_eb κ ≤ q) H0 H' (locs ++ L) :=
  ⟨Nat.le_trans hS.1 h.1, fun q h1 h2 => (h.2 q (Nat.lt_of_lt_of_le h1 hS.1) h2).trans (hS.2.1 q h1 h2), fun q hq => (List.mem_append.mp hq).elim (hS.2.2 q) (hL q)⟩
def mj_Pc (κ : mj_E) (G : mj_G) (vs : List mj_V) : Array Value → State → Prop := fun a U => a = (vs.map (mj_vm κ)).toArray ∧ mj_Am κ U ∧ mj_Re κ G U.heap
def mj_Qc (κ : mj_E) (Q : mj_O → mj_G → Prop) : Array Value → State → Outcome → State → Prop := fun _ st o t => ∃ v G', o = .returned (v.map (mj_vm κ)) ∧ Q (.inl v) G' ∧ mj_Re κ G' t.heap ∧ mj_SS κ st.heap t.heap
def mj_Xc (κ : mj_E) (Q : mj_O → mj_G → Prop) : String → State → State → Prop := fun E st t => ∃ c G', 15 ≤ c ∧ c < 18 ∧ E = mj_R c ∧ Q (.inr c) G' ∧ mj_Re κ G' t.heap ∧ mj_SS κ st.heap t.heap
theorem mj_Pc_blind (κ : mj_E) (G : mj_G) (vs : List mj_V) : FrameBlind (mj_Pc κ G vs) := fun _ U g mk h =>
  ⟨h.1, h.2.1.at (U := U.calling g mk _) (H := U.heap) (locs := []) rfl (State.WarmedH.refl U) ⟨Nat.le_refl _, fun _ _ _ => rfl, fun _ h => nomatch h⟩, h.2.2⟩
def mj_rm (d mc ms : Nat) : Room := { frames := d + 1, locals := 41 * (d + 1), cells := mc, slots := ms }
theorem mj_tk_e : ∀ {n : Nat} {acc st as rest : List mj_V}, mj_tk n acc st = some (as, rest) → ∃ fr : List mj_V, st = fr ++ rest ∧ fr.length = n ∧ as = fr.reverse ++ acc
  | 0, acc, st, as, rest, h => by
    cases h
    exact ⟨[], rfl, rfl, rfl⟩
  | n + 1, acc, [], as, rest, h => by cases h
  | n + 1, acc, v :: st, as, rest, h => by
    obtain ⟨fr, h1, h2, h3⟩ := mj_tk_e (n := n) (acc := v :: acc) (st := st) h
    exact ⟨v :: fr, by rw [h1]; rfl, by simp [h2], by rw [h3]; simp⟩
theorem mj_tg_e {own : Nat} {i : Instr} {mt : Nat} (h : mj_tg own i = some mt) : ∃ k, (i = .invokestatic k ∨ i = .invokevirtual k ∨ i = .invokespecial k) ∧ mj_me own k = some mt ∧ ¬ 900000 ≤ mt := by
  have key : ∀ k, (match mj_me own k with | some t => bif Nat.ble 900000 t then none else some t | none => none) = some mt → mj_me own k = some mt ∧ ¬ 900000 ≤ mt := by
    intro k hk
    cases hm : mj_me own k with
    | none => rw [hm] at hk; cases hk
    | some t =>
      rw [hm] at hk
      cases hb : Nat.ble 900000 t with
      | true => simp [hb] at hk
      | false =>
        simp [hb] at hk
        subst hk
        exact ⟨rfl, fun q => by rw [Nat.ble_eq_true_of_le q] at hb; cases hb⟩
  unfold mj_tg at h
  split at h
  · rename_i k
    exact ⟨k, Or.inl rfl, key k h⟩
  · rename_i k
    exact ⟨k, Or.inr (Or.inl rfl), key k h⟩
  · rename_i k
    exact ⟨k, Or.inr (Or.inr rfl), key k h⟩
  · cases h
theorem mj_cw_0 {mi : Nat} (h : mj_kd mi ≠ 2) : mj_cw (mj_m mi) = Jvm.Cond.code (mj_y mi) (mj_bt mi) (mj_mL mi) (mj_rt mi) := by
  unfold mj_kd at h
  unfold mj_y mj_bt mj_mL mj_rt
  generalize mj_m mi = M at h ⊢
  obtain ⟨bytes, mL, rt, y, sc, na, kd, hh⟩ := M
  unfold mj_cw
  dsimp only
  split
  · exact absurd rfl h
  · rfl
theorem mj_cw_2 {mi : Nat} (h : mj_kd mi = 2) : mj_cw (mj_m mi) = Jvm.Cond.codeWith (mj_y mi) (mj_bt mi) (mj_mL mi) (mj_rt mi) (mj_hh mi) := by
  unfold mj_kd at h
  unfold mj_y mj_bt mj_mL mj_rt mj_hh
  generalize mj_m mi = M at h ⊢
  obtain ⟨bytes, mL, rt, y, sc, na, kd, hh⟩ := M
  unfold mj_cw
  dsimp only at h ⊢
  subst h
  rfl
/-- what a body's frame stands on -/
def mj_Fx (p : Program) (l : Launch) (s : State) (m : MethodId) (meth : Method) (c : Code) (mi : Nat) : Prop :=
  p.tables.exec = Jvm.exec ∧ c.code = mj_bt mi ∧ c.maxLocals = mj_mL mi ∧ s.vm.findClass (mj_R (mi / 1000)) = some m.cls ∧ ((mj_y mi).name = "<init>" → meth.name = "<init>") ∧ meth.sig.returnType = mj_rt mi ∧ meth.locks = false ∧
  (mj_kd mi = 1 → ∀ x ∈ c.exceptionTable.toList, False) ∧ (mj_kd mi = 2 → c.exceptionTable.toList = tableOf (mj_hh mi)) ∧ l.stackTraces = false
/-- the run of a frame, from anywhere in it -/
def mj_WF (l : Launch) (f : Nat) : Prop := ∀ {d mi pc : Nat} {p : Program} {e : Env} {R : Room} {s : State} {m : MethodId} {args : Array Value} {below : List Frame} {meth : Method} {c : Code} {H : Heap} {locs : List Loc} {cells slots mc ms : Nat} {F : State → Prop} {κ : mj_E} {G G9 : mj_G} {o9 : mj_O} {lsA : Array Slot} {ls : List (Option mj_V)} {st : List mj_V},
  mj_ok mi → mj_Fx p l s m meth c mi → mj_Am κ s → va_S (fun q => mj_eb κ ≤ q) s.heap H locs → mj_Re κ G H → mj_LR κ lsA (mj_mL mi) ls → d + 1 ≤ R.frames → 41 * (d + 1) ≤ R.locals →
  cells + (mj_n G9 - mj_n G) = mc → slots + (mj_u G9 - mj_u G) = ms → mc ≤ R.cells → ms ≤ R.slots →
  (∀ t, MQ below (mj_Qc κ (fun a b => a = o9 ∧ b = G9)) args s mc ms (mj_fr κ) t → F t) →
  (mj_kd mi = 1 → ∀ t, vx_MQ below (mj_Qc κ (fun a b => a = o9 ∧ b = G9)) (mj_Xc κ (fun a b => a = o9 ∧ b = G9)) args s mc ms (mj_fr κ) t → F t) →
  mj_XF f d mi pc ls st G (fun a b => a = o9 ∧ b = G9) → W p l e R s m args below meth c H locs cells slots F (F0 m pc lsA (st.map (mj_vm κ)))
theorem mj_entry {κ : mj_E} {m : MethodId} {vs : List mj_V} {n : Nat} (h : (mj_e vs).length ≤ n) : ∃ lsA, entryFrame m (vs.map (mj_vm κ)).toArray n = F0 m 0 lsA (([] : List mj_V).map (mj_vm κ)) ∧ mj_LR κ lsA n (mj_en vs n) :=
  ⟨_, lg_entry_eq m (vs.map (mj_vm κ)) n, mj_LR.entry vs h⟩
section MJM
variable {l : Launch} {f d mt : Nat} {κ : mj_E} {G G9 : mj_G} {o9 : mj_O} {vs : List mj_V}
theorem mj_Met0 (hl : l.stackTraces = false) (IH : mj_WF l f) (hok : mj_ok mt) (hne : mt ≠ 14018) (hkd : mj_kd mt = 0) (hlen : (mj_e vs).length ≤ mj_mL mt) (h : mj_XF f d mt 0 (mj_en vs (mj_mL mt)) [] G (fun a b => a = o9 ∧ b = G9)) :
    Met l (mj_y mt) [Jvm.Cond.code (mj_y mt) (mj_bt mt) (mj_mL mt) (mj_rt mt)] (mj_rm d (mj_n G9 - mj_n G) (mj_u G9 - mj_u G)) (mj_Pc κ G vs) (mj_Qc κ (fun a b => a = o9 ∧ b = G9)) (mj_n G9 - mj_n G) (mj_u G9 - mj_u G) (mj_fr κ) := by
  obtain ⟨-, -, -, hcls, -, -, -, hpl, -, -, -⟩ := mj_mF hok hne
  refine Met.ofW (ws' := []) hpl rfl ?_
  intro p e s m args below meth c s₁ B hml hP
  obtain ⟨rfl, hA, hR⟩ := hP
  obtain ⟨lsA, e1, e2⟩ := mj_entry (κ := κ) (m := m) hlen
  rw [e1]
  have hown : s.vm.findClass (mj_R (mt / 1000)) = some m.cls := hcls ▸ findClass_of_methodNamed B.named
  exact IH hok ⟨B.exec, B.bytes, hml, hown, (fun q => (name_of_methodNamed B.named B.method).1.trans q), B.returns, B.notSynchronized, (fun q => by rw [hkd] at q; cases q), (fun q => by rw [hkd] at q; cases q), hl⟩ hA ⟨Nat.le_refl _, fun _ _ _ => rfl, fun _ h => nomatch h⟩ hR e2 (Nat.le_refl _) (Nat.le_refl _) (Nat.zero_add _) (Nat.zero_add _) (Nat.le_refl _) (Nat.le_refl _) (fun _ h => h) (fun q => by rw [hkd] at q; cases q) h
theorem mj_Met1 (hl : l.stackTraces = false) (IH : mj_WF l f) (hok : mj_ok mt) (hne : mt ≠ 14018) (hkd : mj_kd mt = 1) (hlen : (mj_e vs).length ≤ mj_mL mt) (h : mj_XF f d mt 0 (mj_en vs (mj_mL mt)) [] G (fun a b => a = o9 ∧ b = G9)) :
    vx_Met l (mj_y mt) [Jvm.Cond.code (mj_y mt) (mj_bt mt) (mj_mL mt) (mj_rt mt)] (mj_rm d (mj_n G9 - mj_n G) (mj_u G9 - mj_u G)) (mj_Pc κ G vs) (mj_Qc κ (fun a b => a = o9 ∧ b = G9)) (mj_Xc κ (fun a b => a = o9 ∧ b = G9)) (mj_n G9 - mj_n G) (mj_u G9 - mj_u G) (mj_fr κ) := by
  obtain ⟨-, -, -, hcls, -, -, -, hpl, -, -, -⟩ := mj_mF hok hne
  refine vx_ofW (ws' := []) hpl rfl ?_
  intro p e s m args below meth c s₁ B hml htab hP
  obtain ⟨rfl, hA, hR⟩ := hP
  obtain ⟨lsA, e1, e2⟩ := mj_entry (κ := κ) (m := m) hlen
  rw [e1]
  have hown : s.vm.findClass (mj_R (mt / 1000)) = some m.cls := hcls ▸ findClass_of_methodNamed B.named
  exact IH hok ⟨B.exec, B.bytes, hml, hown, (fun q => (name_of_methodNamed B.named B.method).1.trans q), B.returns, B.notSynchronized, fun _ => htab, (fun q => by rw [hkd] at q; cases q), hl⟩ hA ⟨Nat.le_refl _, fun _ _ _ => rfl, fun _ h => nomatch h⟩ hR e2 (Nat.le_refl _) (Nat.le_refl _) (Nat.zero_add _) (Nat.zero_add _) (Nat.le_refl _) (Nat.le_refl _)
    (fun t ⟨o, t1, t2, t3⟩ => ⟨o, t1, t2, Or.inl t3⟩) (fun _ _ h => h) h
theorem mj_Met2 (hl : l.stackTraces = false) (IH : mj_WF l f) (hok : mj_ok mt) (hne : mt ≠ 14018) (hkd : mj_kd mt = 2) (hlen : (mj_e vs).length ≤ mj_mL mt) (h : mj_XF f d mt 0 (mj_en vs (mj_mL mt)) [] G (fun a b => a = o9 ∧ b = G9)) :
    Met l (mj_y mt) [Jvm.Cond.codeWith (mj_y mt) (mj_bt mt) (mj_mL mt) (mj_rt mt) (mj_hh mt)] (mj_rm d (mj_n G9 - mj_n G) (mj_u G9 - mj_u G)) (mj_Pc κ G vs) (mj_Qc κ (fun a b => a = o9 ∧ b = G9)) (mj_n G9 - mj_n G) (mj_u G9 - mj_u G) (mj_fr κ) := by
  obtain ⟨-, -, -, hcls, -, -, -, hpl, -, -, -⟩ := mj_mF hok hne
  refine va_MetW (ws' := []) hpl rfl ?_
  intro p e s m args below meth c s₁ B hml hP
  obtain ⟨rfl, hA, hR⟩ := hP
  obtain ⟨lsA, e1, e2⟩ := mj_entry (κ := κ) (m := m) hlen
  rw [e1]
  have hown : s.vm.findClass (mj_R (mt / 1000)) = some m.cls := hcls ▸ findClass_of_methodNamed B.named
  have htab : c.exceptionTable.toList = tableOf (mj_hh mt) := vx_table (x := mj_y mt) B (atoms_spec (ws := [Jvm.Cond.codeWith (mj_y mt) (mj_bt mt) (mj_mL mt) (mj_rt mt) (mj_hh mt)]) B.pre _ List.mem_cons_self)
  exact IH hok ⟨B.exec, B.bytes, hml, hown, (fun q => (name_of_methodNamed B.named B.method).1.trans q), B.returns, B.notSynchronized, (fun q => by rw [hkd] at q; cases q), fun _ => htab, hl⟩ hA ⟨Nat.le_refl _, fun _ _ _ => rfl, fun _ h => nomatch h⟩ hR e2 (Nat.le_refl _) (Nat.le_refl _) (Nat.zero_add _) (Nat.zero_add _) (Nat.le_refl _) (Nat.le_refl _) (fun _ h => h) (fun q => by rw [hkd] at q; cases q) h
end MJM
section MJC
variable {p : Program} {l : Launch} {e : Env} {R : Room} {s : State} {m : MethodId} {args : Array Value} {below : List Frame} {meth : Method} {c : Code} {H : Heap} {locs : List Loc} {cells slots mc ms : Nat} {Q : State → Prop}
variable {κ : mj_E} {G G9 : mj_G} {o9 : mj_O} {lsA : Array Slot} {nL pc f d mi mt own k : Nat} {ls : List (Option mj_V)} {st as rest : List mj_V}
theorem mj_runk {g : JFrame} {rest : List Value} {Qa : State → Outcome → State → Prop} {free : Addr → Prop} (hr : va_Run p l e R s m args below meth c H locs cells slots mc ms g rest Qa free)
    (kk : ∀ (v : Option Value) (st₀ t : State) (L : List Loc), (∀ q ∈ L, free q.base) → st₀.heap = H → Qa st₀ (.returned v) t → W p l e R s m args below meth c t.heap (locs ++ L) (cells + mc) (slots + ms) Q { g with pc := g.pc + 3, stack := v.toList ++ rest }) : W p l e R s m args below meth c H locs cells slots Q g := by
  intro T hT X
  obtain ⟨v, st₀, t, T', L, h0, X', hL, e1, -, hq, st⟩ := hr T hT X
  obtain ⟨t2, a1, b1⟩ := kk v st₀ t L hL h0 hq T' e1 X'
  exact ⟨t2, st t2 a1, b1⟩
theorem mj_runx {g : JFrame} {rest : List Value} {Qa : State → Outcome → State → Prop} {XC : String → State → State → Prop} {free : Addr → Prop} (hr : vx_Run p l e R s m args below meth c H locs cells slots mc ms g rest Qa XC free)
    (kk : ∀ (v : Option Value) (st₀ t : State) (L : List Loc), (∀ q ∈ L, free q.base) → st₀.heap = H → Qa st₀ (.returned v) t → W p l e R s m args below meth c t.heap (locs ++ L) (cells + mc) (slots + ms) Q { g with pc := g.pc + 3, stack := v.toList ++ rest })
    (kx : ∀ (q : Addr) (st₀ t : State) (L : List Loc) (E : String) (ce : Cell), (∀ q ∈ L, free q.base) → st₀.heap = H → XC E st₀ t → t.heap[q]? = some ce → ce.vm = .none → s.vm.findClass E = some ce.cls → vx_W p l e R s m args below meth c t.heap (locs ++ L) (cells + mc) (slots + ms) Q { g with stack := rest } q) : W p l e R s m args below meth c H locs cells slots Q g := by
  intro T hT X
  rcases hr T hT X with ⟨v, st₀, t, T', L, h0, X', hL, e1, -, hq, st⟩ | ⟨q, st₀, t, T', L, E, ce, h0, X', hL, e1, -, hq, h1, h2, h3, st⟩
  · obtain ⟨t2, a1, b1⟩ := kk v st₀ t L hL h0 hq T' e1 X'
    exact ⟨t2, st t2 a1, b1⟩
  · obtain ⟨t2, a1, b1⟩ := kx q st₀ t L E ce hL h0 hq h1 h2 h3 T' e1 X'
    exact ⟨t2, st.trans a1, b1⟩
theorem mj_hlen (hok : mj_ok mt) (hne : mt ≠ 14018) : ∀ sig, parseMethodDescriptor (mj_y mt).desc = some sig → (bif mj_sc mt then mj_na mt else mj_na mt - 1) = sig.parameters.length := by
  intro sig h
  obtain ⟨-, -, -, -, h5, -⟩ := mj_mF hok hne
  rw [h] at h5
  exact (Option.some.inj h5).symm
theorem mj_cwd (hA : mj_Am κ s) (hok : mj_ok mt) (hne : mt ≠ 14018) : ∀ w ∈ [mj_cw (mj_m mt)], ∀ (a' : Array Value) (U : State), s.WarmedH U.vm → w.before a' U = true := by
  intro w hw a' U hW
  obtain rfl := List.mem_singleton.mp hw
  exact hA.2.1.mv hW _ (mj_mF hok hne).1
theorem mj_CB (hA : mj_Am κ s) (hok : mj_ok mt) (hne : mt ≠ 14018) (hkd : mj_kd mt ≠ 2) (hf : d + 2 ≤ R.frames) (hlo : 41 * (d + 2) ≤ R.locals) (hlink : Jvm.Cond.methodLink (mj_R own) k (mj_y mt) ∈ mj_W) :
    CallB R s args (mj_R own) k (mj_y mt) (mj_bt mt) (mj_mL mt) (mj_rt mt) [Jvm.Cond.code (mj_y mt) (mj_bt mt) (mj_mL mt) (mj_rt mt)] (mj_rm d mc ms) mc ms (bif mj_sc mt then mj_na mt else mj_na mt - 1) := by
  obtain ⟨h1, h2, h3, h4, h5, h6, h7, h8, h9, h10, h11⟩ := mj_mF hok hne
  have hw := mj_cwd hA hok hne
  rw [mj_cw_0 hkd] at h1 hw
  refine ⟨rfl, rfl, hf, ?_, hw, List.mem_cons_self, hA.word h1, by rw [h4]; exact hA.word (mj_qi_w (mj_c15 hok)), h7, mj_hlen hok hne, hA.word hlink⟩
  show 8 + (mj_mL mt + 11) + 41 * (d + 1) ≤ _
  omega
theorem mj_CN (hA : mj_Am κ s) (hok : mj_ok mt) (hne : mt ≠ 14018) (hkd : mj_kd mt ≠ 2) (hf : d + 2 ≤ R.frames) (hlo : 41 * (d + 2) ≤ R.locals) (hlink : Jvm.Cond.methodLinkNest (mj_R own) k (mj_y mt) "TemplateQuarry" ∈ mj_W) :
    va_CN R s args (mj_R own) k (mj_y mt) "TemplateQuarry" (mj_bt mt) (mj_mL mt) (mj_rt mt) [Jvm.Cond.code (mj_y mt) (mj_bt mt) (mj_mL mt) (mj_rt mt)] (mj_rm d mc ms) mc ms (bif mj_sc mt then mj_na mt else mj_na mt - 1) := by
  obtain ⟨h1, h2, h3, h4, h5, h6, h7, h8, h9, h10, h11⟩ := mj_mF hok hne
  have hw := mj_cwd hA hok hne
  rw [mj_cw_0 hkd] at h1 hw
  refine ⟨⟨rfl, rfl, hf, ?_, hw, List.mem_cons_self⟩, hA.word h1, by rw [h4]; exact hA.word (mj_qi_w (mj_c15 hok)), h7, mj_hlen hok hne, hA.word hlink⟩
  show 8 + (mj_mL mt + 11) + 41 * (d + 1) ≤ _
  omega
theorem mj_CW (hA : mj_Am κ s) (hok : mj_ok mt) (hne : mt ≠ 14018) (hkd : mj_kd mt = 2) (hsc : mj_sc mt = true) (hf : d + 2 ≤ R.frames) (hlo : 41 * (d + 2) ≤ R.locals) (hlink : Jvm.Cond.methodLink (mj_R own) k (mj_y mt) ∈ mj_W) :
    vx_CSW R s args (mj_R own) k (mj_y mt) (mj_bt mt) (mj_mL mt) (mj_rt mt) (mj_hh mt) [Jvm.Cond.codeWith (mj_y mt) (mj_bt mt) (mj_mL mt) (mj_rt mt) (mj_hh mt)] (mj_rm d mc ms) mc ms (bif mj_sc mt then mj_na mt else mj_na mt - 1) := by
  obtain ⟨h1, h2, h3, h4, h5, h6, h7, h8, h9, h10, h11⟩ := mj_mF hok hne
  have hw := mj_cwd hA hok hne
  rw [mj_cw_2 hkd] at h1 hw
  rw [hsc] at h2
  refine ⟨⟨rfl, rfl, hf, ?_, hw, List.mem_cons_self⟩, hA.word h1, by rw [h4]; exact hA.word (mj_qi_w (mj_c15 hok)), h7, mj_hlen hok hne, hA.word hlink, hA.word h2⟩
  show 8 + (mj_mL mt + 11) + 41 * (d + 1) ≤ _
  omega
theorem mj_PS (hA : mj_Am κ s) (hS : va_S (fun q => mj_eb κ ≤ q) s.heap H locs) (hR : mj_Re κ G H) : PreS s H (mj_Pc κ G as) (as.map (mj_vm κ)) :=
  ⟨mj_Pc_blind κ G as, fun U hU hW => ⟨rfl, hA.at hU hW hS, by rw [hU]; exact hR⟩⟩
theorem mj_PV (hA : mj_Am κ s) (hS : va_S (fun q => mj_eb κ ≤ q) s.heap H locs) (hR : mj_Re κ G H) {a : Nat} (hc : mt / 1000 < 15) (hk : mj_k G a = mt / 1000 + 1) : PreV s H (mj_R (mt / 1000)) (mj_ph κ a) (mj_Pc κ G (.inr (.inr a) :: as)) (as.map (mj_vm κ)) ∧ a ≠ 0 := by
  obtain ⟨a3, -, n2, n14, cell, o1, o2, o3, -⟩ := hR.obj hk (by omega)
  refine ⟨⟨mj_Pc_blind κ G _, ⟨cell, o1, by rw [o2]; rfl, by rw [o3]; exact (hA.1.1 _ (by omega) n2 n14).2.1⟩, fun U hU hW => ⟨?_, hA.at hU hW hS, by rw [hU]; exact hR⟩⟩, by omega⟩
  rw [List.map_cons]
  show _ = (mj_rv κ a :: _).toArray
  rw [mj_rvn (by omega)]
end MJC
