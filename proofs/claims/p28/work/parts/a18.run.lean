/-! RUNS OF WHOLE METHODS -/
def rj_SS (κ : rj_E) (H H' : Heap) : Prop := H.size ≤ H'.size ∧ ∀ q : Nat, q < H.size → ¬ (rj_eb κ ≤ q) → H'[q]? = H[q]?
def rj_fr (κ : rj_E) : Addr → Prop := fun q => rj_eb κ ≤ q
theorem rj_SS.add {κ : rj_E} {H0 H H' : Heap} {locs L : List Loc} (h : rj_SS κ H H') (hS : va_S (fun q => rj_eb κ ≤ q) H0 H locs) (hL : ∀ q ∈ L, rj_fr κ q.base) : va_S (fun q => rj_eb κ ≤ q) H0 H' (locs ++ L) :=
  ⟨Nat.le_trans hS.1 h.1, fun q h1 h2 => (h.2 q (Nat.lt_of_lt_of_le h1 hS.1) h2).trans (hS.2.1 q h1 h2), fun q hq => (List.mem_append.mp hq).elim (hS.2.2 q) (hL q)⟩
def rj_Pc (κ : rj_E) (G : mj_G) (vs : List mj_V) : Array Value → State → Prop := fun a U => a = (vs.map (rj_vm κ)).toArray ∧ rj_Am κ U ∧ rj_Re κ G U.heap
def rj_Qc (κ : rj_E) (Q : mj_O → mj_G → Prop) : Array Value → State → Outcome → State → Prop := fun _ st o t => ∃ v G', o = .returned (v.map (rj_vm κ)) ∧ Q (.inl v) G' ∧ rj_Re κ G' t.heap ∧ rj_SS κ st.heap t.heap
def rj_Xc (κ : rj_E) (Q : mj_O → mj_G → Prop) : String → State → State → Prop := fun E st t => ∃ c G', 15 ≤ c ∧ c < 18 ∧ E = rj_R c ∧ Q (.inr c) G' ∧ rj_Re κ G' t.heap ∧ rj_SS κ st.heap t.heap
theorem rj_Pc_blind (κ : rj_E) (G : mj_G) (vs : List mj_V) : FrameBlind (rj_Pc κ G vs) := fun _ U g mk h =>
  ⟨h.1, h.2.1.at (U := U.calling g mk _) (H := U.heap) (locs := []) rfl (State.WarmedH.refl U) ⟨Nat.le_refl _, fun _ _ _ => rfl, fun _ h => nomatch h⟩, h.2.2⟩
def rj_rm (d mc ms : Nat) : Room := { frames := d + 1, locals := 41 * (d + 1), cells := mc, slots := ms }
theorem rj_tk_e : ∀ {n : Nat} {acc st as rest : List mj_V}, mj_tk n acc st = some (as, rest) → ∃ fr : List mj_V, st = fr ++ rest ∧ fr.length = n ∧ as = fr.reverse ++ acc
  | 0, acc, st, as, rest, h => by
    cases h
    exact ⟨[], rfl, rfl, rfl⟩
  | n + 1, acc, [], as, rest, h => by cases h
  | n + 1, acc, v :: st, as, rest, h => by
    obtain ⟨fr, h1, h2, h3⟩ := rj_tk_e (n := n) (acc := v :: acc) (st := st) h
    exact ⟨v :: fr, by rw [h1]; rfl, by simp [h2], by rw [h3]; simp⟩
theorem rj_tg_e {own : Nat} {i : Instr} {mt : Nat} (h : rj_tg own i = some mt) : ∃ k, (i = .invokestatic k ∨ i = .invokevirtual k ∨ i = .invokespecial k) ∧ rj_me own k = some mt ∧ ¬ 900000 ≤ mt := by
  have key : ∀ k, (match rj_me own k with | some t => bif Nat.ble 900000 t then none else some t | none => none) = some mt → rj_me own k = some mt ∧ ¬ 900000 ≤ mt := by
    intro k hk
    cases hm : rj_me own k with
    | none => rw [hm] at hk; cases hk
    | some t =>
      rw [hm] at hk
      cases hb : Nat.ble 900000 t with
      | true => simp [hb] at hk
      | false =>
        simp [hb] at hk
        subst hk
        exact ⟨rfl, fun q => by rw [Nat.ble_eq_true_of_le q] at hb; cases hb⟩
  unfold rj_tg at h
  split at h
  · rename_i k
    exact ⟨k, Or.inl rfl, key k h⟩
  · rename_i k
    exact ⟨k, Or.inr (Or.inl rfl), key k h⟩
  · rename_i k
    exact ⟨k, Or.inr (Or.inr rfl), key k h⟩
  · cases h
theorem rj_cw_0 {mi : Nat} (h : rj_kd mi ≠ 2) : rj_cw (rj_m mi) = Jvm.Cond.code (rj_y mi) (rj_bt mi) (rj_mL mi) (rj_rt mi) := by
  unfold rj_kd at h
  unfold rj_y rj_bt rj_mL rj_rt
  generalize rj_m mi = M at h ⊢
  obtain ⟨bytes, mL, rt, y, sc, na, kd, hh⟩ := M
  unfold rj_cw
  dsimp only
  split
  · exact absurd rfl h
  · rfl
theorem rj_cw_2 {mi : Nat} (h : rj_kd mi = 2) : rj_cw (rj_m mi) = Jvm.Cond.codeWith (rj_y mi) (rj_bt mi) (rj_mL mi) (rj_rt mi) (rj_hh mi) := by
  unfold rj_kd at h
  unfold rj_y rj_bt rj_mL rj_rt rj_hh
  generalize rj_m mi = M at h ⊢
  obtain ⟨bytes, mL, rt, y, sc, na, kd, hh⟩ := M
  unfold rj_cw
  dsimp only at h ⊢
  subst h
  rfl
/-- what a body's frame stands on -/
def rj_Fx (p : Program) (l : Launch) (s : State) (m : MethodId) (meth : Method) (c : Code) (mi : Nat) : Prop :=
  p.tables.exec = Jvm.exec ∧ c.code = rj_bt mi ∧ c.maxLocals = rj_mL mi ∧ s.vm.findClass (rj_R (mi / 1000)) = some m.cls ∧ ((rj_y mi).name = "<init>" → meth.name = "<init>") ∧ meth.sig.returnType = rj_rt mi ∧ meth.locks = false ∧
  (rj_kd mi = 1 → ∀ x ∈ c.exceptionTable.toList, False) ∧ (rj_kd mi = 2 → c.exceptionTable.toList = tableOf (rj_hh mi)) ∧ l.stackTraces = false
/-- the run of a frame, from anywhere in it -/
def rj_WF (l : Launch) (f : Nat) : Prop := ∀ {d mi pc : Nat} {p : Program} {e : Env} {R : Room} {s : State} {m : MethodId} {args : Array Value} {below : List Frame} {meth : Method} {c : Code} {H : Heap} {locs : List Loc} {cells slots mc ms : Nat} {F : State → Prop} {κ : rj_E} {G G9 : mj_G} {o9 : mj_O} {lsA : Array Slot} {ls : List (Option mj_V)} {st : List mj_V},
  rj_ok mi → rj_Fx p l s m meth c mi → rj_Am κ s → va_S (fun q => rj_eb κ ≤ q) s.heap H locs → rj_Re κ G H → rj_LR κ lsA (rj_mL mi) ls → d + 1 ≤ R.frames → 41 * (d + 1) ≤ R.locals →
  cells + (mj_n G9 - mj_n G) = mc → slots + (mj_u G9 - mj_u G) = ms → mc ≤ R.cells → ms ≤ R.slots →
  (∀ t, MQ below (rj_Qc κ (fun a b => a = o9 ∧ b = G9)) args s mc ms (rj_fr κ) t → F t) →
  (rj_kd mi = 1 → ∀ t, vx_MQ below (rj_Qc κ (fun a b => a = o9 ∧ b = G9)) (rj_Xc κ (fun a b => a = o9 ∧ b = G9)) args s mc ms (rj_fr κ) t → F t) →
  rj_XF f d mi pc ls st G (fun a b => a = o9 ∧ b = G9) → W p l e R s m args below meth c H locs cells slots F (F0 m pc lsA (st.map (rj_vm κ)))
theorem rj_entry {κ : rj_E} {m : MethodId} {vs : List mj_V} {n : Nat} (h : (mj_e vs).length ≤ n) : ∃ lsA, entryFrame m (vs.map (rj_vm κ)).toArray n = F0 m 0 lsA (([] : List mj_V).map (rj_vm κ)) ∧ rj_LR κ lsA n (mj_en vs n) :=
  ⟨_, lg_entry_eq m (vs.map (rj_vm κ)) n, rj_LR.entry vs h⟩
section MJM
variable {l : Launch} {f d mt : Nat} {κ : rj_E} {G G9 : mj_G} {o9 : mj_O} {vs : List mj_V}
theorem rj_Met0 (hl : l.stackTraces = false) (IH : rj_WF l f) (hok : rj_ok mt) (hne : mt ≠ 14015) (hkd : rj_kd mt = 0) (hlen : (mj_e vs).length ≤ rj_mL mt) (h : rj_XF f d mt 0 (mj_en vs (rj_mL mt)) [] G (fun a b => a = o9 ∧ b = G9)) :
    Met l (rj_y mt) [Jvm.Cond.code (rj_y mt) (rj_bt mt) (rj_mL mt) (rj_rt mt)] (rj_rm d (mj_n G9 - mj_n G) (mj_u G9 - mj_u G)) (rj_Pc κ G vs) (rj_Qc κ (fun a b => a = o9 ∧ b = G9)) (mj_n G9 - mj_n G) (mj_u G9 - mj_u G) (rj_fr κ) := by
  obtain ⟨-, -, -, hcls, -, -, -, hpl, -, -, -⟩ := rj_mF hok hne
  refine Met.ofW (ws' := []) hpl rfl ?_
  intro p e s m args below meth c s₁ B hml hP
  obtain ⟨rfl, hA, hR⟩ := hP
  obtain ⟨lsA, e1, e2⟩ := rj_entry (κ := κ) (m := m) hlen
  rw [e1]
  have hown : s.vm.findClass (rj_R (mt / 1000)) = some m.cls := hcls ▸ findClass_of_methodNamed B.named
  exact IH hok ⟨B.exec, B.bytes, hml, hown, (fun q => (name_of_methodNamed B.named B.method).1.trans q), B.returns, B.notSynchronized, (fun q => by rw [hkd] at q; cases q), (fun q => by rw [hkd] at q; cases q), hl⟩ hA ⟨Nat.le_refl _, fun _ _ _ => rfl, fun _ h => nomatch h⟩ hR e2 (Nat.le_refl _) (Nat.le_refl _) (Nat.zero_add _) (Nat.zero_add _) (Nat.le_refl _) (Nat.le_refl _) (fun _ h => h) (fun q => by rw [hkd] at q; cases q) h
theorem rj_Met1 (hl : l.stackTraces = false) (IH : rj_WF l f) (hok : rj_ok mt) (hne : mt ≠ 14015) (hkd : rj_kd mt = 1) (hlen : (mj_e vs).length ≤ rj_mL mt) (h : rj_XF f d mt 0 (mj_en vs (rj_mL mt)) [] G (fun a b => a = o9 ∧ b = G9)) :
    vx_Met l (rj_y mt) [Jvm.Cond.code (rj_y mt) (rj_bt mt) (rj_mL mt) (rj_rt mt)] (rj_rm d (mj_n G9 - mj_n G) (mj_u G9 - mj_u G)) (rj_Pc κ G vs) (rj_Qc κ (fun a b => a = o9 ∧ b = G9)) (rj_Xc κ (fun a b => a = o9 ∧ b = G9)) (mj_n G9 - mj_n G) (mj_u G9 - mj_u G) (rj_fr κ) := by
  obtain ⟨-, -, -, hcls, -, -, -, hpl, -, -, -⟩ := rj_mF hok hne
  refine vx_ofW (ws' := []) hpl rfl ?_
  intro p e s m args below meth c s₁ B hml htab hP
  obtain ⟨rfl, hA, hR⟩ := hP
  obtain ⟨lsA, e1, e2⟩ := rj_entry (κ := κ) (m := m) hlen
  rw [e1]
  have hown : s.vm.findClass (rj_R (mt / 1000)) = some m.cls := hcls ▸ findClass_of_methodNamed B.named
  exact IH hok ⟨B.exec, B.bytes, hml, hown, (fun q => (name_of_methodNamed B.named B.method).1.trans q), B.returns, B.notSynchronized, fun _ => htab, (fun q => by rw [hkd] at q; cases q), hl⟩ hA ⟨Nat.le_refl _, fun _ _ _ => rfl, fun _ h => nomatch h⟩ hR e2 (Nat.le_refl _) (Nat.le_refl _) (Nat.zero_add _) (Nat.zero_add _) (Nat.le_refl _) (Nat.le_refl _)
    (fun t ⟨o, t1, t2, t3⟩ => ⟨o, t1, t2, Or.inl t3⟩) (fun _ _ h => h) h
theorem rj_Met2 (hl : l.stackTraces = false) (IH : rj_WF l f) (hok : rj_ok mt) (hne : mt ≠ 14015) (hkd : rj_kd mt = 2) (hlen : (mj_e vs).length ≤ rj_mL mt) (h : rj_XF f d mt 0 (mj_en vs (rj_mL mt)) [] G (fun a b => a = o9 ∧ b = G9)) :
    Met l (rj_y mt) [Jvm.Cond.codeWith (rj_y mt) (rj_bt mt) (rj_mL mt) (rj_rt mt) (rj_hh mt)] (rj_rm d (mj_n G9 - mj_n G) (mj_u G9 - mj_u G)) (rj_Pc κ G vs) (rj_Qc κ (fun a b => a = o9 ∧ b = G9)) (mj_n G9 - mj_n G) (mj_u G9 - mj_u G) (rj_fr κ) := by
  obtain ⟨-, -, -, hcls, -, -, -, hpl, -, -, -⟩ := rj_mF hok hne
  refine va_MetW (ws' := []) hpl rfl ?_
  intro p e s m args below meth c s₁ B hml hP
  obtain ⟨rfl, hA, hR⟩ := hP
  obtain ⟨lsA, e1, e2⟩ := rj_entry (κ := κ) (m := m) hlen
  rw [e1]
  have hown : s.vm.findClass (rj_R (mt / 1000)) = some m.cls := hcls ▸ findClass_of_methodNamed B.named
  have htab : c.exceptionTable.toList = tableOf (rj_hh mt) := vx_table (x := rj_y mt) B (atoms_spec (ws := [Jvm.Cond.codeWith (rj_y mt) (rj_bt mt) (rj_mL mt) (rj_rt mt) (rj_hh mt)]) B.pre _ List.mem_cons_self)
  exact IH hok ⟨B.exec, B.bytes, hml, hown, (fun q => (name_of_methodNamed B.named B.method).1.trans q), B.returns, B.notSynchronized, (fun q => by rw [hkd] at q; cases q), fun _ => htab, hl⟩ hA ⟨Nat.le_refl _, fun _ _ _ => rfl, fun _ h => nomatch h⟩ hR e2 (Nat.le_refl _) (Nat.le_refl _) (Nat.zero_add _) (Nat.zero_add _) (Nat.le_refl _) (Nat.le_refl _) (fun _ h => h) (fun q => by rw [hkd] at q; cases q) h
end MJM
section MJC
variable {p : Program} {l : Launch} {e : Env} {R : Room} {s : State} {m : MethodId} {args : Array Value} {below : List Frame} {meth : Method} {c : Code} {H : Heap} {locs : List Loc} {cells slots mc ms : Nat} {Q : State → Prop}
variable {κ : rj_E} {G G9 : mj_G} {o9 : mj_O} {lsA : Array Slot} {nL pc f d mi mt own k : Nat} {ls : List (Option mj_V)} {st as rest : List mj_V}
theorem rj_runk {g : JFrame} {rest : List Value} {Qa : State → Outcome → State → Prop} {free : Addr → Prop} (hr : va_Run p l e R s m args below meth c H locs cells slots mc ms g rest Qa free)
    (kk : ∀ (v : Option Value) (st₀ t : State) (L : List Loc), (∀ q ∈ L, free q.base) → st₀.heap = H → Qa st₀ (.returned v) t → W p l e R s m args below meth c t.heap (locs ++ L) (cells + mc) (slots + ms) Q { g with pc := g.pc + 3, stack := v.toList ++ rest }) : W p l e R s m args below meth c H locs cells slots Q g := by
  intro T hT X
  obtain ⟨v, st₀, t, T', L, h0, X', hL, e1, -, hq, st⟩ := hr T hT X
  obtain ⟨t2, a1, b1⟩ := kk v st₀ t L hL h0 hq T' e1 X'
  exact ⟨t2, st t2 a1, b1⟩
theorem rj_runx {g : JFrame} {rest : List Value} {Qa : State → Outcome → State → Prop} {XC : String → State → State → Prop} {free : Addr → Prop} (hr : vx_Run p l e R s m args below meth c H locs cells slots mc ms g rest Qa XC free)
    (kk : ∀ (v : Option Value) (st₀ t : State) (L : List Loc), (∀ q ∈ L, free q.base) → st₀.heap = H → Qa st₀ (.returned v) t → W p l e R s m args below meth c t.heap (locs ++ L) (cells + mc) (slots + ms) Q { g with pc := g.pc + 3, stack := v.toList ++ rest })
    (kx : ∀ (q : Addr) (st₀ t : State) (L : List Loc) (E : String) (ce : Cell), (∀ q ∈ L, free q.base) → st₀.heap = H → XC E st₀ t → t.heap[q]? = some ce → ce.vm = .none → s.vm.findClass E = some ce.cls → vx_W p l e R s m args below meth c t.heap (locs ++ L) (cells + mc) (slots + ms) Q { g with stack := rest } q) : W p l e R s m args below meth c H locs cells slots Q g := by
  intro T hT X
  rcases hr T hT X with ⟨v, st₀, t, T', L, h0, X', hL, e1, -, hq, st⟩ | ⟨q, st₀, t, T', L, E, ce, h0, X', hL, e1, -, hq, h1, h2, h3, st⟩
  · obtain ⟨t2, a1, b1⟩ := kk v st₀ t L hL h0 hq T' e1 X'
    exact ⟨t2, st t2 a1, b1⟩
  · obtain ⟨t2, a1, b1⟩ := kx q st₀ t L E ce hL h0 hq h1 h2 h3 T' e1 X'
    exact ⟨t2, st.trans a1, b1⟩
theorem rj_hlen (hok : rj_ok mt) (hne : mt ≠ 14015) : ∀ sig, parseMethodDescriptor (rj_y mt).desc = some sig → (bif rj_sc mt then rj_na mt else rj_na mt - 1) = sig.parameters.length := by
  intro sig h
  obtain ⟨-, -, -, -, h5, -⟩ := rj_mF hok hne
  rw [h] at h5
  exact (Option.some.inj h5).symm
theorem rj_cwd (hA : rj_Am κ s) (hok : rj_ok mt) (hne : mt ≠ 14015) : ∀ w ∈ [rj_cw (rj_m mt)], ∀ (a' : Array Value) (U : State), s.WarmedH U.vm → w.before a' U = true := by
  intro w hw a' U hW
  obtain rfl := List.mem_singleton.mp hw
  exact hA.2.1.mv hW _ (rj_mF hok hne).1
theorem rj_CB (hA : rj_Am κ s) (hok : rj_ok mt) (hne : mt ≠ 14015) (hkd : rj_kd mt ≠ 2) (hf : d + 2 ≤ R.frames) (hlo : 41 * (d + 2) ≤ R.locals) (hlink : Jvm.Cond.methodLink (rj_R own) k (rj_y mt) ∈ rj_W) :
    CallB R s args (rj_R own) k (rj_y mt) (rj_bt mt) (rj_mL mt) (rj_rt mt) [Jvm.Cond.code (rj_y mt) (rj_bt mt) (rj_mL mt) (rj_rt mt)] (rj_rm d mc ms) mc ms (bif rj_sc mt then rj_na mt else rj_na mt - 1) := by
  obtain ⟨h1, h2, h3, h4, h5, h6, h7, h8, h9, h10, h11⟩ := rj_mF hok hne
  have hw := rj_cwd hA hok hne
  rw [rj_cw_0 hkd] at h1 hw
  refine ⟨rfl, rfl, hf, ?_, hw, List.mem_cons_self, hA.word h1, by rw [h4]; exact hA.word (rj_qi_w (rj_c15 hok)), h7, rj_hlen hok hne, hA.word hlink⟩
  show 8 + (rj_mL mt + 11) + 41 * (d + 1) ≤ _
  omega
theorem rj_CN (hA : rj_Am κ s) (hok : rj_ok mt) (hne : mt ≠ 14015) (hkd : rj_kd mt ≠ 2) (hf : d + 2 ≤ R.frames) (hlo : 41 * (d + 2) ≤ R.locals) (hlink : Jvm.Cond.methodLinkNest (rj_R own) k (rj_y mt) "TemplateQuarry" ∈ rj_W) :
    va_CN R s args (rj_R own) k (rj_y mt) "TemplateQuarry" (rj_bt mt) (rj_mL mt) (rj_rt mt) [Jvm.Cond.code (rj_y mt) (rj_bt mt) (rj_mL mt) (rj_rt mt)] (rj_rm d mc ms) mc ms (bif rj_sc mt then rj_na mt else rj_na mt - 1) := by
  obtain ⟨h1, h2, h3, h4, h5, h6, h7, h8, h9, h10, h11⟩ := rj_mF hok hne
  have hw := rj_cwd hA hok hne
  rw [rj_cw_0 hkd] at h1 hw
  refine ⟨⟨rfl, rfl, hf, ?_, hw, List.mem_cons_self⟩, hA.word h1, by rw [h4]; exact hA.word (rj_qi_w (rj_c15 hok)), h7, rj_hlen hok hne, hA.word hlink⟩
  show 8 + (rj_mL mt + 11) + 41 * (d + 1) ≤ _
  omega
theorem rj_CW (hA : rj_Am κ s) (hok : rj_ok mt) (hne : mt ≠ 14015) (hkd : rj_kd mt = 2) (hsc : rj_sc mt = true) (hf : d + 2 ≤ R.frames) (hlo : 41 * (d + 2) ≤ R.locals) (hlink : Jvm.Cond.methodLink (rj_R own) k (rj_y mt) ∈ rj_W) :
    vx_CSW R s args (rj_R own) k (rj_y mt) (rj_bt mt) (rj_mL mt) (rj_rt mt) (rj_hh mt) [Jvm.Cond.codeWith (rj_y mt) (rj_bt mt) (rj_mL mt) (rj_rt mt) (rj_hh mt)] (rj_rm d mc ms) mc ms (bif rj_sc mt then rj_na mt else rj_na mt - 1) := by
  obtain ⟨h1, h2, h3, h4, h5, h6, h7, h8, h9, h10, h11⟩ := rj_mF hok hne
  have hw := rj_cwd hA hok hne
  rw [rj_cw_2 hkd] at h1 hw
  rw [hsc] at h2
  refine ⟨⟨rfl, rfl, hf, ?_, hw, List.mem_cons_self⟩, hA.word h1, by rw [h4]; exact hA.word (rj_qi_w (rj_c15 hok)), h7, rj_hlen hok hne, hA.word hlink, hA.word h2⟩
  show 8 + (rj_mL mt + 11) + 41 * (d + 1) ≤ _
  omega
theorem rj_PS (hA : rj_Am κ s) (hS : va_S (fun q => rj_eb κ ≤ q) s.heap H locs) (hR : rj_Re κ G H) : PreS s H (rj_Pc κ G as) (as.map (rj_vm κ)) :=
  ⟨rj_Pc_blind κ G as, fun U hU hW => ⟨rfl, hA.at hU hW hS, by rw [hU]; exact hR⟩⟩
theorem rj_PV (hA : rj_Am κ s) (hS : va_S (fun q => rj_eb κ ≤ q) s.heap H locs) (hR : rj_Re κ G H) {a : Nat} (hc : mt / 1000 < 15) (hk : mj_k G a = mt / 1000 + 1) : PreV s H (rj_R (mt / 1000)) (rj_ph κ a) (rj_Pc κ G (.inr (.inr a) :: as)) (as.map (rj_vm κ)) ∧ a ≠ 0 := by
  obtain ⟨a3, -, n2, n14, cell, o1, o2, o3, -⟩ := hR.obj hk (by omega)
  refine ⟨⟨rj_Pc_blind κ G _, ⟨cell, o1, by rw [o2]; rfl, by rw [o3]; exact (hA.1.1 _ (by omega) n2 n14).2.1⟩, fun U hU hW => ⟨?_, hA.at hU hW hS, by rw [hU]; exact hR⟩⟩, by omega⟩
  rw [List.map_cons]
  show _ = (rj_rv κ a :: _).toArray
  rw [rj_rvn (by omega)]
end MJC
