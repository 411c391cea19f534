/-! ONE INSTRUCTION OF THE SMALL MACHINE, WHICHEVER IT IS -/
set_option maxRecDepth 100000 in
theorem rj_x_gs_11 : Jvm.Cond.fieldLinkNest (rj_R 11) 15 "TemplateQuarry" "NO_CHARACTERS" "[C" "TemplateQuarry" ∈ rj_W := rj_in (k := 1) (p := 62) (by decide +kernel) rfl
set_option maxRecDepth 100000 in
theorem rj_x_gs_8 : Jvm.Cond.fieldLinkNest (rj_R 8) 55 "TemplateQuarry" "NO_CHARACTERS" "[C" "TemplateQuarry" ∈ rj_W := rj_in (k := 2) (p := 120) (by decide +kernel) rfl
set_option maxRecDepth 100000 in
theorem rj_x_gs_0 : Jvm.Cond.fieldLinkNest (rj_R 0) 7 "TemplateQuarry" "NO_CHARACTERS" "[C" "TemplateQuarry" ∈ rj_W := rj_in (k := 4) (p := 26) (by decide +kernel) rfl
set_option maxRecDepth 100000 in
theorem rj_x_gs_12 : Jvm.Cond.fieldLink (rj_R 12) 211 "TemplateQuarry" "NO_CHARACTERS" "[C" ∈ rj_W := rj_in (k := 4) (p := 74) (by decide +kernel) rfl
theorem rj_ldi_e {ls : List (Option mj_V)} {k : Nat} {K : mj_V → Prop} (h : mj_ldi ls k K) : ∃ x, mj_g ls k = some (.inl x) ∧ K (.inl x) := by
  unfold mj_ldi at h
  split at h
  · rename_i x hx
    exact ⟨x, hx, h⟩
  · exact h.elim
theorem rj_ldl_e {ls : List (Option mj_V)} {k : Nat} {K : mj_V → Prop} (h : mj_ldl ls k K) : ∃ x, mj_g ls k = some (.inr (.inl x)) ∧ K (.inr (.inl x)) := by
  unfold mj_ldl at h
  split at h
  · rename_i x hx
    exact ⟨x, hx, h⟩
  · exact h.elim
theorem rj_lda_e {ls : List (Option mj_V)} {k : Nat} {K : mj_V → Prop} (h : mj_lda ls k K) : ∃ x, mj_g ls k = some (.inr (.inr x)) ∧ K (.inr (.inr x)) := by
  unfold mj_lda at h
  split at h
  · rename_i x hx
    exact ⟨x, hx, h⟩
  · exact h.elim
theorem rj_cond_e {b : Bool} {P : Prop} (h : bif b then P else False) : b = true ∧ P := by
  cases b with
  | true => exact ⟨rfl, h⟩
  | false => exact h.elim
theorem rj_sti_e {ls : List (Option mj_V)} {k : Nat} {st : List mj_V} {K : List (Option mj_V) → List mj_V → Prop} (h : mj_sti ls k st K) : ∃ x st', st = .inl x :: st' ∧ k < ls.length ∧ K (mj_s ls k (.inl x)) st' := by
  unfold mj_sti at h
  split at h
  · obtain ⟨h1, h2⟩ := rj_cond_e h
    exact ⟨_, _, rfl, of_decide_eq_true h1, h2⟩
  · exact h.elim
theorem rj_stl_e {ls : List (Option mj_V)} {k : Nat} {st : List mj_V} {K : List (Option mj_V) → List mj_V → Prop} (h : mj_stl ls k st K) : ∃ x st', st = .inr (.inl x) :: st' ∧ k + 1 < ls.length ∧ K (mj_sL ls k (.inr (.inl x))) st' := by
  unfold mj_stl at h
  split at h
  · obtain ⟨h1, h2⟩ := rj_cond_e h
    exact ⟨_, _, rfl, of_decide_eq_true h1, h2⟩
  · exact h.elim
theorem rj_sta_e {ls : List (Option mj_V)} {k : Nat} {st : List mj_V} {K : List (Option mj_V) → List mj_V → Prop} (h : mj_sta ls k st K) : ∃ x st', st = .inr (.inr x) :: st' ∧ k < ls.length ∧ K (mj_s ls k (.inr (.inr x))) st' := by
  unfold mj_sta at h
  split at h
  · obtain ⟨h1, h2⟩ := rj_cond_e h
    exact ⟨_, _, rfl, of_decide_eq_true h1, h2⟩
  · exact h.elim
theorem rj_b2_e {f : Int32 → Int32 → Int32} {st : List mj_V} {K : List mj_V → Prop} (h : mj_b2 f st K) : ∃ y x st', st = .inl y :: .inl x :: st' ∧ K (.inl (f x y) :: st') := by
  unfold mj_b2 at h
  split at h
  · exact ⟨_, _, _, rfl, h⟩
  · exact h.elim
theorem rj_b2l_e {f : Int64 → Int64 → Int64} {st : List mj_V} {K : List mj_V → Prop} (h : mj_b2l f st K) : ∃ y x st', st = .inr (.inl y) :: .inr (.inl x) :: st' ∧ K (.inr (.inl (f x y)) :: st') := by
  unfold mj_b2l at h
  split at h
  · exact ⟨_, _, _, rfl, h⟩
  · exact h.elim
def rj_rf (κ : rj_E) (r : Nat) : Option Nat := if r = 0 then none else some (rj_ph κ r)
theorem rj_rv_rf (κ : rj_E) (r : Nat) : rj_rv κ r = va_rf (rj_rf κ r) := by
  unfold rj_rv rj_rf
  split <;> rfl
theorem rj_rf_eq {κ : rj_E} {x y : Nat} (hx1 : x ≠ 1) (hx2 : x ≠ 2) (hy1 : y ≠ 1) (hy2 : y ≠ 2) : rj_rf κ x = rj_rf κ y ↔ x = y := by
  refine ⟨fun h => ?_, fun h => by rw [h]⟩
  unfold rj_rf at h
  split at h
  · split at h
    · omega
    · cases h
  · split at h
    · cases h
    · have h1 := Option.some.inj h
      rw [rj_ph3 (by omega), rj_ph3 (by omega)] at h1
      omega
section MJI
variable {p : Program} {l : Launch} {e : Env} {R : Room} {s : State} {m : MethodId} {args : Array Value} {below : List Frame} {meth : Method} {c : Code} {H : Heap} {locs : List Loc} {cells slots : Nat} {Q : State → Prop}
variable {cc : ByteArray} {κ : rj_E} {G : mj_G} {lsA : Array Slot} {nL pc len own : Nat} {ini : Bool} {i : Instr} {ls : List (Option mj_V)} {st : List mj_V} {K : mj_K}
def rj_gA (i : Instr) : Bool := match i with
  | .iconst _ => true
  | .bipush _ => true
  | .sipush _ => true
  | .lconst _ => true
  | .aconst_null => true
  | .ldc _ => true
  | .ldc_w _ => true
  | .ldc2_w _ => true
  | .iload _ => true
  | .iload_n _ => true
  | .lload _ => true
  | .lload_n _ => true
  | .aload _ => true
  | .aload_n _ => true
  | _ => false
set_option maxHeartbeats 1000000 in
theorem rj_s1_A (hx : p.tables.exec = Jvm.exec) (hb : c.code = cc) (hml : c.maxLocals = lsA.size) (hown : s.vm.findClass (rj_R own) = some m.cls) (hini : ini = true → meth.name = "<init>") (hA : rj_Am κ s) (hS : va_S (fun q => rj_eb κ ≤ q) s.heap H locs) (hR : rj_Re κ G H) (hL : rj_LR κ lsA nL ls) (hfr : 1 ≤ R.frames) (hlo : 41 ≤ R.locals) (hd : decode cc pc = .ok (i, len)) (hok : rj_okI pc i len = true) (hroom : ∀ q ls' st' G', K q ls' st' G' → cells + (mj_n G' - mj_n G) ≤ R.cells ∧ slots + (mj_u G' - mj_u G) ≤ R.slots) (go : rj_Go p l e R s m args below meth c cells slots Q κ nL G K) (h : rj_s1 own ini i len pc ls st G K) (hg : rj_gA i = true) : W p l e R s m args below meth c H locs cells slots Q (F0 m pc lsA (st.map (rj_vm κ))) := by
  cases i with
  | iconst n =>
    obtain rfl := Nat.eq_of_beq_eq_true hok
    have h9 := go.z hS hR hL rfl rfl h
    exact lv_iconst hx hb hd rfl h9
  | bipush n =>
    obtain rfl := Nat.eq_of_beq_eq_true hok
    have h9 := go.z hS hR hL rfl rfl h
    exact lv_bipush hx hb hd rfl h9
  | sipush n =>
    obtain rfl := Nat.eq_of_beq_eq_true hok
    have h9 := go.z hS hR hL rfl rfl h
    exact lv_sipush hx hb hd rfl h9
  | lconst n =>
    obtain rfl := Nat.eq_of_beq_eq_true hok
    have h9 := go.z hS hR hL rfl rfl h
    exact lv_lconst hx hb hd rfl h9
  | aconst_null =>
    obtain rfl := Nat.eq_of_beq_eq_true hok
    have h9 := go.z hS hR hL rfl rfl h
    exact lv_null hx hb hd h9
  | ldc k =>
    obtain rfl := Nat.eq_of_beq_eq_true hok
    have h1 : (match rj_ki own k with | some v => K (pc + _) ls (.inl v :: st) G | none => False) := h
    cases hk : rj_ki own k with
    | none => rw [hk] at h1; exact h1.elim
    | some v =>
      rw [hk] at h1
      have h9 := go.z hS hR hL rfl rfl h1
      exact lv_ldc hx hb hown (hA.word (rj_ki_w hk)) hd h9
  | ldc_w k =>
    obtain rfl := Nat.eq_of_beq_eq_true hok
    have h1 : (match rj_ki own k with | some v => K (pc + _) ls (.inl v :: st) G | none => False) := h
    cases hk : rj_ki own k with
    | none => rw [hk] at h1; exact h1.elim
    | some v =>
      rw [hk] at h1
      have h9 := go.z hS hR hL rfl rfl h1
      exact lv_ldcw hx hb hown (hA.word (rj_ki_w hk)) hd h9
  | ldc2_w k =>
    obtain rfl := Nat.eq_of_beq_eq_true hok
    have h1 : (match rj_kl own k with | some v => K (pc + _) ls (.inr (.inl v) :: st) G | none => False) := h
    cases hk : rj_kl own k with
    | none => rw [hk] at h1; exact h1.elim
    | some v =>
      rw [hk] at h1
      have h9 := go.z hS hR hL rfl rfl h1
      exact lv_ldc2 hx hb hown (hA.word (rj_kl_w hk)) hd h9
  | iload k =>
    obtain rfl := Nat.eq_of_beq_eq_true hok
    unfold rj_s1 at h
    try dsimp only at h
    obtain ⟨x, hg, h1⟩ := rj_ldi_e h
    have h9 := go.z hS hR hL rfl rfl h1
    exact lv_iload hx hb hd (hL.at hg) h9
  | iload_n k =>
    obtain rfl := Nat.eq_of_beq_eq_true hok
    unfold rj_s1 at h
    try dsimp only at h
    obtain ⟨x, hg, h1⟩ := rj_ldi_e h
    have h9 := go.z hS hR hL rfl rfl h1
    exact lv_iload_n hx hb hd rfl (hL.at hg) h9
  | lload k =>
    obtain rfl := Nat.eq_of_beq_eq_true hok
    unfold rj_s1 at h
    try dsimp only at h
    obtain ⟨x, hg, h1⟩ := rj_ldl_e h
    have h9 := go.z hS hR hL rfl rfl h1
    exact lv_lload hx hb hd (hL.at hg) h9
  | lload_n k =>
    obtain rfl := Nat.eq_of_beq_eq_true hok
    unfold rj_s1 at h
    try dsimp only at h
    obtain ⟨x, hg, h1⟩ := rj_ldl_e h
    have h9 := go.z hS hR hL rfl rfl h1
    exact lv_lload_n hx hb hd rfl (hL.at hg) h9
  | aload k =>
    obtain rfl := Nat.eq_of_beq_eq_true hok
    unfold rj_s1 at h
    try dsimp only at h
    obtain ⟨x, hg, h1⟩ := rj_lda_e h
    have h9 := go.z hS hR hL rfl rfl h1
    have hg9 := hL.at hg
    by_cases hx0 : x = 0
    · subst hx0
      exact lv_aloadN hx hb hd hg9 h9
    · have ev : rj_vm κ (.inr (.inr x)) = .ref (rj_ph κ x) := rj_rvn hx0
      rw [List.map_cons, ev] at h9
      rw [ev] at hg9
      exact lv_aload hx hb hd hg9 h9
  | aload_n k =>
    obtain rfl := Nat.eq_of_beq_eq_true hok
    unfold rj_s1 at h
    try dsimp only at h
    obtain ⟨x, hg, h1⟩ := rj_lda_e h
    have h9 := go.z hS hR hL rfl rfl h1
    have hg9 := hL.at hg
    by_cases hx0 : x = 0
    · subst hx0
      exact lv_aload_nN hx hb hd rfl hg9 h9
    · have ev : rj_vm κ (.inr (.inr x)) = .ref (rj_ph κ x) := rj_rvn hx0
      rw [List.map_cons, ev] at h9
      rw [ev] at hg9
      exact lv_aload_n hx hb hd rfl hg9 h9
  | _ => exact Bool.noConfusion (show false = true from hg)
def rj_gB (i : Instr) : Bool := match i with
  | .istore _ => true
  | .istore_n _ => true
  | .lstore _ => true
  | .lstore_n _ => true
  | .astore _ => true
  | .astore_n _ => true
  | .iinc _ _ => true
  | _ => false
set_option maxHeartbeats 1000000 in
theorem rj_s1_B (hx : p.tables.exec = Jvm.exec) (hb : c.code = cc) (hml : c.maxLocals = lsA.size) (hown : s.vm.findClass (rj_R own) = some m.cls) (hini : ini = true → meth.name = "<init>") (hA : rj_Am κ s) (hS : va_S (fun q => rj_eb κ ≤ q) s.heap H locs) (hR : rj_Re κ G H) (hL : rj_LR κ lsA nL ls) (hfr : 1 ≤ R.frames) (hlo : 41 ≤ R.locals) (hd : decode cc pc = .ok (i, len)) (hok : rj_okI pc i len = true) (hroom : ∀ q ls' st' G', K q ls' st' G' → cells + (mj_n G' - mj_n G) ≤ R.cells ∧ slots + (mj_u G' - mj_u G) ≤ R.slots) (go : rj_Go p l e R s m args below meth c cells slots Q κ nL G K) (h : rj_s1 own ini i len pc ls st G K) (hg : rj_gB i = true) : W p l e R s m args below meth c H locs cells slots Q (F0 m pc lsA (st.map (rj_vm κ))) := by
  cases i with
  | istore k =>
    obtain rfl := Nat.eq_of_beq_eq_true hok
    unfold rj_s1 at h
    try dsimp only at h
    obtain ⟨x, st', rfl, hk, h1⟩ := rj_sti_e h
    obtain ⟨hn, lv, l1, l2⟩ := hL
    exact lv_istore hx hb hd l1 (by omega) rfl (fun ls' hl' => go.z hS hR (rj_LR.put (lsA := lsA) (v := .inl x) hn l2 hl') rfl rfl h1)
  | istore_n k =>
    obtain rfl := Nat.eq_of_beq_eq_true hok
    unfold rj_s1 at h
    try dsimp only at h
    obtain ⟨x, st', rfl, hk, h1⟩ := rj_sti_e h
    obtain ⟨hn, lv, l1, l2⟩ := hL
    exact lv_istore_n hx hb hd rfl l1 (by omega) rfl (fun ls' hl' => go.z hS hR (rj_LR.put (lsA := lsA) (v := .inl x) hn l2 hl') rfl rfl h1)
  | lstore k =>
    obtain rfl := Nat.eq_of_beq_eq_true hok
    unfold rj_s1 at h
    try dsimp only at h
    obtain ⟨x, st', rfl, hk, h1⟩ := rj_stl_e h
    obtain ⟨hn, lv, l1, l2⟩ := hL
    exact lv_lstore hx hb hd l1 (by omega) rfl (fun ls' hl' => go.z hS hR (rj_LR.putL (lsA := lsA) (x := x) hn l2 hl') rfl rfl h1)
  | lstore_n k =>
    obtain rfl := Nat.eq_of_beq_eq_true hok
    unfold rj_s1 at h
    try dsimp only at h
    obtain ⟨x, st', rfl, hk, h1⟩ := rj_stl_e h
    obtain ⟨hn, lv, l1, l2⟩ := hL
    exact lv_lstore_n hx hb hd rfl l1 (by omega) rfl (fun ls' hl' => go.z hS hR (rj_LR.putL (lsA := lsA) (x := x) hn l2 hl') rfl rfl h1)
  | astore k =>
    obtain rfl := Nat.eq_of_beq_eq_true hok
    unfold rj_s1 at h
    try dsimp only at h
    obtain ⟨x, st', rfl, hk, h1⟩ := rj_sta_e h
    obtain ⟨hn, lv, l1, l2⟩ := hL
    by_cases hx0 : x = 0
    · subst hx0
      exact lv_astoreN hx hb hd l1 (by omega) rfl (fun ls' hl' => go.z hS hR (rj_LR.put (lsA := lsA) (v := .inr (.inr 0)) hn l2 hl') rfl rfl h1)
    · have ev : rj_vm κ (.inr (.inr x)) = .ref (rj_ph κ x) := rj_rvn hx0
      rw [List.map_cons, ev]
      exact lv_astore hx hb hd l1 (by omega) rfl (fun ls' hl' => go.z hS hR (rj_LR.put (lsA := lsA) (v := .inr (.inr x)) hn l2 (by rw [ev]; exact hl')) rfl rfl h1)
  | astore_n k =>
    obtain rfl := Nat.eq_of_beq_eq_true hok
    unfold rj_s1 at h
    try dsimp only at h
    obtain ⟨x, st', rfl, hk, h1⟩ := rj_sta_e h
    obtain ⟨hn, lv, l1, l2⟩ := hL
    by_cases hx0 : x = 0
    · subst hx0
      exact lv_astore_nN hx hb hd rfl l1 (by omega) rfl (fun ls' hl' => go.z hS hR (rj_LR.put (lsA := lsA) (v := .inr (.inr 0)) hn l2 hl') rfl rfl h1)
    · have ev : rj_vm κ (.inr (.inr x)) = .ref (rj_ph κ x) := rj_rvn hx0
      rw [List.map_cons, ev]
      exact lv_astore_n hx hb hd rfl l1 (by omega) rfl (fun ls' hl' => go.z hS hR (rj_LR.put (lsA := lsA) (v := .inr (.inr x)) hn l2 (by rw [ev]; exact hl')) rfl rfl h1)
  | iinc k n =>
    obtain rfl := Nat.eq_of_beq_eq_true hok
    have h1 : (match mj_g ls k with | some (.inl x) => (bif k < ls.length then K (pc + _) (mj_s ls k (.inl (x + Int32.ofInt n))) st G else False) | _ => False) := h
    split at h1
    · rename_i x hg
      obtain ⟨hk, h1⟩ := rj_cond_e h1
      have hk := of_decide_eq_true hk
      obtain ⟨hn, lv, l1, l2⟩ := hL
      obtain ⟨q, hq⟩ := List.getElem?_of_mem (l2 _ _ hg)
      exact lv_iinc hx hb hd l1 hq rfl (by omega) rfl (fun ls' hl' => go.z hS hR (rj_LR.put (lsA := lsA) (v := .inl (x + Int32.ofInt n)) hn l2 hl') rfl rfl h1)
    · exact h1.elim
  | _ => exact Bool.noConfusion (show false = true from hg)
def rj_gC (i : Instr) : Bool := match i with
  | .iadd => true
  | .isub => true
  | .imul => true
  | .iand => true
  | .ior => true
  | .ixor => true
  | .ishl => true
  | .ishr => true
  | .ladd => true
  | .land => true
  | .lshr => true
  | .lsub => true
  | .lmul => true
  | .idiv => true
  | .irem => true
  | .ldiv => true
  | .lrem => true
  | .ineg => true
  | .lneg => true
  | .lcmp => true
  | .i2l => true
  | .l2i => true
  | .i2c => true
  | .dup => true
  | .pop => true
  | .dup2 => true
  | _ => false
set_option maxHeartbeats 1000000 in
theorem rj_s1_C (hx : p.tables.exec = Jvm.exec) (hb : c.code = cc) (hml : c.maxLocals = lsA.size) (hown : s.vm.findClass (rj_R own) = some m.cls) (hini : ini = true → meth.name = "<init>") (hA : rj_Am κ s) (hS : va_S (fun q => rj_eb κ ≤ q) s.heap H locs) (hR : rj_Re κ G H) (hL : rj_LR κ lsA nL ls) (hfr : 1 ≤ R.frames) (hlo : 41 ≤ R.locals) (hd : decode cc pc = .ok (i, len)) (hok : rj_okI pc i len = true) (hroom : ∀ q ls' st' G', K q ls' st' G' → cells + (mj_n G' - mj_n G) ≤ R.cells ∧ slots + (mj_u G' - mj_u G) ≤ R.slots) (go : rj_Go p l e R s m args below meth c cells slots Q κ nL G K) (h : rj_s1 own ini i len pc ls st G K) (hg : rj_gC i = true) : W p l e R s m args below meth c H locs cells slots Q (F0 m pc lsA (st.map (rj_vm κ))) := by
  cases i with
  | iadd =>
    obtain rfl := Nat.eq_of_beq_eq_true hok
    unfold rj_s1 at h
    try dsimp only at h
    obtain ⟨y, x, st', rfl, h1⟩ := rj_b2_e h
    have h9 := go.z hS hR hL rfl rfl h1
    exact lv_iadd hx hb hd h9
  | isub =>
    obtain rfl := Nat.eq_of_beq_eq_true hok
    unfold rj_s1 at h
    try dsimp only at h
    obtain ⟨y, x, st', rfl, h1⟩ := rj_b2_e h
    have h9 := go.z hS hR hL rfl rfl h1
    exact lv_isub hx hb hd h9
  | imul =>
    obtain rfl := Nat.eq_of_beq_eq_true hok
    unfold rj_s1 at h
    try dsimp only at h
    obtain ⟨y, x, st', rfl, h1⟩ := rj_b2_e h
    have h9 := go.z hS hR hL rfl rfl h1
    exact lv_imul hx hb hd h9
  | iand =>
    obtain rfl := Nat.eq_of_beq_eq_true hok
    unfold rj_s1 at h
    try dsimp only at h
    obtain ⟨y, x, st', rfl, h1⟩ := rj_b2_e h
    have h9 := go.z hS hR hL rfl rfl h1
    exact lv_iand hx hb hd h9
  | ior =>
    obtain rfl := Nat.eq_of_beq_eq_true hok
    unfold rj_s1 at h
    try dsimp only at h
    obtain ⟨y, x, st', rfl, h1⟩ := rj_b2_e h
    have h9 := go.z hS hR hL rfl rfl h1
    exact lv_ior hx hb hd h9
  | ixor =>
    obtain rfl := Nat.eq_of_beq_eq_true hok
    unfold rj_s1 at h
    try dsimp only at h
    obtain ⟨y, x, st', rfl, h1⟩ := rj_b2_e h
    have h9 := go.z hS hR hL rfl rfl h1
    exact lv_ixor hx hb hd h9
  | ishl =>
    obtain rfl := Nat.eq_of_beq_eq_true hok
    unfold rj_s1 at h
    try dsimp only at h
    obtain ⟨y, x, st', rfl, h1⟩ := rj_b2_e h
    have h9 := go.z hS hR hL rfl rfl h1
    exact lv_ishl hx hb hd h9
  | ishr =>
    obtain rfl := Nat.eq_of_beq_eq_true hok
    unfold rj_s1 at h
    try dsimp only at h
    obtain ⟨y, x, st', rfl, h1⟩ := rj_b2_e h
    have h9 := go.z hS hR hL rfl rfl h1
    exact lv_ishr hx hb hd h9
  | ladd =>
    obtain rfl := Nat.eq_of_beq_eq_true hok
    unfold rj_s1 at h
    try dsimp only at h
    obtain ⟨y, x, st', rfl, h1⟩ := rj_b2l_e h
    have h9 := go.z hS hR hL rfl rfl h1
    exact lv_ladd hx hb hd h9
  | land =>
    obtain rfl := Nat.eq_of_beq_eq_true hok
    unfold rj_s1 at h
    try dsimp only at h
    obtain ⟨y, x, st', rfl, h1⟩ := rj_b2l_e h
    have h9 := go.z hS hR hL rfl rfl h1
    exact lv_land hx hb hd h9
  | lshr =>
    obtain rfl := Nat.eq_of_beq_eq_true hok
    unfold rj_s1 at h
    try dsimp only at h
    split at h
    · have h9 := go.z hS hR hL rfl rfl h
      exact lv_lshr hx hb hd rfl h9
    · exact h.elim
  | lsub =>
    obtain rfl := Nat.eq_of_beq_eq_true hok
    unfold rj_s1 at h
    try dsimp only at h
    obtain ⟨y, x, st', rfl, h1⟩ := rj_b2l_e h
    have h9 := go.z hS hR hL rfl rfl h1
    exact lv_lsub hx hb hd h9
  | lmul =>
    obtain rfl := Nat.eq_of_beq_eq_true hok
    unfold rj_s1 at h
    try dsimp only at h
    obtain ⟨y, x, st', rfl, h1⟩ := rj_b2l_e h
    have h9 := go.z hS hR hL rfl rfl h1
    exact lv_lmul hx hb hd h9
  | idiv =>
    obtain rfl := Nat.eq_of_beq_eq_true hok
    unfold rj_s1 at h
    try dsimp only at h
    split at h
    · rename_i y x st'
      obtain ⟨hy, h1⟩ := h
      have h9 := go.z hS hR hL rfl rfl h1
      exact lv_idiv hx hb hd hy h9
    · exact h.elim
  | irem =>
    obtain rfl := Nat.eq_of_beq_eq_true hok
    unfold rj_s1 at h
    try dsimp only at h
    split at h
    · rename_i y x st'
      obtain ⟨hy, h1⟩ := h
      have h9 := go.z hS hR hL rfl rfl h1
      exact lv_irem hx hb hd hy h9
    · exact h.elim
  | ldiv =>
    obtain rfl := Nat.eq_of_beq_eq_true hok
    unfold rj_s1 at h
    try dsimp only at h
    split at h
    · rename_i y x st'
      obtain ⟨hy, h1⟩ := h
      have h9 := go.z hS hR hL rfl rfl h1
      exact lv_ldiv hx hb hd hy h9
    · exact h.elim
  | lrem =>
    obtain rfl := Nat.eq_of_beq_eq_true hok
    unfold rj_s1 at h
    try dsimp only at h
    split at h
    · rename_i y x st'
      obtain ⟨hy, h1⟩ := h
      have h9 := go.z hS hR hL rfl rfl h1
      exact lv_lrem hx hb hd hy h9
    · exact h.elim
  | ineg =>
    obtain rfl := Nat.eq_of_beq_eq_true hok
    unfold rj_s1 at h
    try dsimp only at h
    split at h
    · rename_i x st'
      have h9 := go.z hS hR hL rfl rfl h
      exact lv_ineg hx hb hd h9
    · exact h.elim
  | lneg =>
    obtain rfl := Nat.eq_of_beq_eq_true hok
    unfold rj_s1 at h
    try dsimp only at h
    split at h
    · rename_i x st'
      have h9 := go.z hS hR hL rfl rfl h
      exact lv_lneg hx hb hd h9
    · exact h.elim
  | lcmp =>
    obtain rfl := Nat.eq_of_beq_eq_true hok
    unfold rj_s1 at h
    try dsimp only at h
    split at h
    · rename_i y x st'
      have h9 := go.z hS hR hL rfl rfl h
      exact W.lcmp hx hb hd h9
    · exact h.elim
  | i2l =>
    obtain rfl := Nat.eq_of_beq_eq_true hok
    unfold rj_s1 at h
    try dsimp only at h
    split at h
    · rename_i x st'
      have h9 := go.z hS hR hL rfl rfl h
      exact lv_i2l hx hb hd rfl h9
    · exact h.elim
  | l2i =>
    obtain rfl := Nat.eq_of_beq_eq_true hok
    unfold rj_s1 at h
    try dsimp only at h
    split at h
    · rename_i x st'
      have h9 := go.z hS hR hL rfl rfl h
      exact lv_l2i hx hb hd rfl h9
    · exact h.elim
  | i2c =>
    obtain rfl := Nat.eq_of_beq_eq_true hok
    unfold rj_s1 at h
    try dsimp only at h
    split at h
    · rename_i x st'
      have h9 := go.z hS hR hL rfl rfl h
      exact lv_i2c hx hb hd rfl h9
    · exact h.elim
  | dup =>
    obtain rfl := Nat.eq_of_beq_eq_true hok
    unfold rj_s1 at h
    try dsimp only at h
    split at h
    · rename_i x st'
      have h9 := go.z hS hR hL rfl rfl h
      exact lv_dup hx hb hd rfl h9
    · rename_i x st'
      have h9 := go.z hS hR hL rfl rfl h
      exact lv_dup hx hb hd (rj_rv_cat κ x) h9
    · exact h.elim
  | pop =>
    obtain rfl := Nat.eq_of_beq_eq_true hok
    unfold rj_s1 at h
    try dsimp only at h
    split at h
    · rename_i x st'
      have h9 := go.z hS hR hL rfl rfl h
      exact lv_pop hx hb hd rfl h9
    · rename_i x st'
      have h9 := go.z hS hR hL rfl rfl h
      exact lv_pop hx hb hd (rj_rv_cat κ x) h9
    · exact h.elim
  | dup2 =>
    obtain rfl := Nat.eq_of_beq_eq_true hok
    unfold rj_s1 at h
    try dsimp only at h
    split at h
    · rename_i y x st'
      have h9 := go.z hS hR hL rfl rfl h
      exact lv_dup2_11 hx hb hd rfl (rj_rv_cat κ x) h9
    · exact h.elim
  | _ => exact Bool.noConfusion (show false = true from hg)
def rj_gD (i : Instr) : Bool := match i with
  | .goto _ => true
  | .ifCond _ _ => true
  | .if_icmp _ _ => true
  | .ifnull _ => true
  | .ifnonnull _ => true
  | .if_acmp _ _ => true
  | .tableswitch _ _ _ _ => true
  | .lookupswitch _ _ => true
  | _ => false
set_option maxHeartbeats 1000000 in
theorem rj_s1_D (hx : p.tables.exec = Jvm.exec) (hb : c.code = cc) (hml : c.maxLocals = lsA.size) (hown : s.vm.findClass (rj_R own) = some m.cls) (hini : ini = true → meth.name = "<init>") (hA : rj_Am κ s) (hS : va_S (fun q => rj_eb κ ≤ q) s.heap H locs) (hR : rj_Re κ G H) (hL : rj_LR κ lsA nL ls) (hfr : 1 ≤ R.frames) (hlo : 41 ≤ R.locals) (hd : decode cc pc = .ok (i, len)) (hok : rj_okI pc i len = true) (hroom : ∀ q ls' st' G', K q ls' st' G' → cells + (mj_n G' - mj_n G) ≤ R.cells ∧ slots + (mj_u G' - mj_u G) ≤ R.slots) (go : rj_Go p l e R s m args below meth c cells slots Q κ nL G K) (h : rj_s1 own ini i len pc ls st G K) (hg : rj_gD i = true) : W p l e R s m args below meth c H locs cells slots Q (F0 m pc lsA (st.map (rj_vm κ))) := by
  cases i with
  | goto off =>
    obtain rfl := Nat.eq_of_beq_eq_true hok
    obtain ⟨t, ht, h1⟩ := rj_br_e h
    have h9 := go.z hS hR hL rfl rfl h1
    exact lv_goto hx hb hd ht h9
  | ifCond c9 off =>
    have hok : (Nat.beq len 3 && decide (0 ≤ (pc : Int) + off)) = true := hok
    rw [Bool.and_eq_true] at hok
    obtain ⟨hok, hoff⟩ := hok
    obtain rfl := Nat.eq_of_beq_eq_true hok
    obtain ⟨t, ht⟩ : ∃ t : Nat, (pc : Int) + off = (t : Int) := ⟨_, (Int.toNat_of_nonneg (of_decide_eq_true hoff)).symm⟩
    have brk : ∀ {ls : List (Option mj_V)} {st : List mj_V}, mj_br pc off (fun t => K t ls st G) → K t ls st G := fun h => by
      obtain ⟨t2, ht2, h2⟩ := rj_br_e h
      have : t2 = t := by omega
      rw [← this]; exact h2
    unfold rj_s1 at h
    try dsimp only at h
    split at h
    · rename_i x st'
      obtain ⟨h1, h2⟩ := h
      cases c9 with
      | eq => exact lv_if_eq hx hb hd ht (fun q => go.z hS hR hL rfl rfl (brk (h1 q))) (fun q => go.z hS hR hL rfl rfl (h2 q))
      | ne => exact lv_if_ne hx hb hd ht (fun q => go.z hS hR hL rfl rfl (brk (h1 q))) (fun q => go.z hS hR hL rfl rfl (h2 (fun q2 => q2 q)))
      | lt => exact lv_if_lt hx hb hd ht (fun q => go.z hS hR hL rfl rfl (brk (h1 q))) (fun q => go.z hS hR hL rfl rfl (h2 q))
      | ge => exact lv_if_ge hx hb hd ht (fun q => go.z hS hR hL rfl rfl (brk (h1 q))) (fun q => go.z hS hR hL rfl rfl (h2 q))
      | gt => exact lv_if_gt hx hb hd ht (fun q => go.z hS hR hL rfl rfl (brk (h1 q))) (fun q => go.z hS hR hL rfl rfl (h2 q))
      | le => exact lv_if_le hx hb hd ht (fun q => go.z hS hR hL rfl rfl (brk (h1 q))) (fun q => go.z hS hR hL rfl rfl (h2 q))
    · exact h.elim
  | if_icmp c9 off =>
    have hok : (Nat.beq len 3 && decide (0 ≤ (pc : Int) + off)) = true := hok
    rw [Bool.and_eq_true] at hok
    obtain ⟨hok, hoff⟩ := hok
    obtain rfl := Nat.eq_of_beq_eq_true hok
    obtain ⟨t, ht⟩ : ∃ t : Nat, (pc : Int) + off = (t : Int) := ⟨_, (Int.toNat_of_nonneg (of_decide_eq_true hoff)).symm⟩
    have brk : ∀ {ls : List (Option mj_V)} {st : List mj_V}, mj_br pc off (fun t => K t ls st G) → K t ls st G := fun h => by
      obtain ⟨t2, ht2, h2⟩ := rj_br_e h
      have : t2 = t := by omega
      rw [← this]; exact h2
    unfold rj_s1 at h
    try dsimp only at h
    split at h
    · rename_i y x st'
      obtain ⟨h1, h2⟩ := h
      cases c9 with
      | eq => exact lv_icmp_eq hx hb hd ht (fun q => go.z hS hR hL rfl rfl (brk (h1 q))) (fun q => go.z hS hR hL rfl rfl (h2 q))
      | ne => exact lv_icmp_ne hx hb hd ht (fun q => go.z hS hR hL rfl rfl (brk (h1 q))) (fun q => go.z hS hR hL rfl rfl (h2 (fun q2 => q2 q)))
      | lt => exact lv_icmp_lt hx hb hd ht (fun q => go.z hS hR hL rfl rfl (brk (h1 q))) (fun q => go.z hS hR hL rfl rfl (h2 q))
      | ge => exact lv_icmp_ge hx hb hd ht (fun q => go.z hS hR hL rfl rfl (brk (h1 q))) (fun q => go.z hS hR hL rfl rfl (h2 q))
      | gt => exact lv_icmp_gt hx hb hd ht (fun q => go.z hS hR hL rfl rfl (brk (h1 q))) (fun q => go.z hS hR hL rfl rfl (h2 q))
      | le => exact lv_icmp_le hx hb hd ht (fun q => go.z hS hR hL rfl rfl (brk (h1 q))) (fun q => go.z hS hR hL rfl rfl (h2 q))
    · exact h.elim
  | ifnull off =>
    have hok : (Nat.beq len 3 && decide (0 ≤ (pc : Int) + off)) = true := hok
    rw [Bool.and_eq_true] at hok
    obtain ⟨hok, hoff⟩ := hok
    obtain rfl := Nat.eq_of_beq_eq_true hok
    obtain ⟨t, ht⟩ : ∃ t : Nat, (pc : Int) + off = (t : Int) := ⟨_, (Int.toNat_of_nonneg (of_decide_eq_true hoff)).symm⟩
    have brk : ∀ {ls : List (Option mj_V)} {st : List mj_V}, mj_br pc off (fun t => K t ls st G) → K t ls st G := fun h => by
      obtain ⟨t2, ht2, h2⟩ := rj_br_e h
      have : t2 = t := by omega
      rw [← this]; exact h2
    unfold rj_s1 at h
    try dsimp only at h
    split at h
    · rename_i x st'
      obtain ⟨h1, h2⟩ := h
      by_cases hx0 : x = 0
      · have h9 := go.z hS hR hL rfl rfl (brk (h1 hx0))
        subst hx0
        exact lv_ifnullN hx hb hd ht h9
      · have h9 := go.z hS hR hL rfl rfl (h2 hx0)
        have ev : rj_vm κ (.inr (.inr x)) = .ref (rj_ph κ x) := rj_rvn hx0
        rw [List.map_cons, ev]
        exact lv_ifnull hx hb hd h9
    · exact h.elim
  | ifnonnull off =>
    have hok : (Nat.beq len 3 && decide (0 ≤ (pc : Int) + off)) = true := hok
    rw [Bool.and_eq_true] at hok
    obtain ⟨hok, hoff⟩ := hok
    obtain rfl := Nat.eq_of_beq_eq_true hok
    obtain ⟨t, ht⟩ : ∃ t : Nat, (pc : Int) + off = (t : Int) := ⟨_, (Int.toNat_of_nonneg (of_decide_eq_true hoff)).symm⟩
    have brk : ∀ {ls : List (Option mj_V)} {st : List mj_V}, mj_br pc off (fun t => K t ls st G) → K t ls st G := fun h => by
      obtain ⟨t2, ht2, h2⟩ := rj_br_e h
      have : t2 = t := by omega
      rw [← this]; exact h2
    unfold rj_s1 at h
    try dsimp only at h
    split at h
    · rename_i x st'
      obtain ⟨h1, h2⟩ := h
      by_cases hx0 : x = 0
      · have h9 := go.z hS hR hL rfl rfl (h2 hx0)
        subst hx0
        exact lv_ifnonnullN hx hb hd h9
      · have h9 := go.z hS hR hL rfl rfl (brk (h1 hx0))
        have ev : rj_vm κ (.inr (.inr x)) = .ref (rj_ph κ x) := rj_rvn hx0
        rw [List.map_cons, ev]
        exact lv_ifnonnull hx hb hd ht h9
    · exact h.elim
  | if_acmp c9 off =>
    have hok : (Nat.beq len 3 && decide (0 ≤ (pc : Int) + off)) = true := hok
    rw [Bool.and_eq_true] at hok
    obtain ⟨hok, hoff⟩ := hok
    obtain rfl := Nat.eq_of_beq_eq_true hok
    obtain ⟨t, ht⟩ : ∃ t : Nat, (pc : Int) + off = (t : Int) := ⟨_, (Int.toNat_of_nonneg (of_decide_eq_true hoff)).symm⟩
    have brk : ∀ {ls : List (Option mj_V)} {st : List mj_V}, mj_br pc off (fun t => K t ls st G) → K t ls st G := fun h => by
      obtain ⟨t2, ht2, h2⟩ := rj_br_e h
      have : t2 = t := by omega
      rw [← this]; exact h2
    cases c9 with
    | eq => exact h.elim
    | ne =>
      unfold rj_s1 at h
      try dsimp only at h
      split at h
      · rename_i y x st'
        obtain ⟨x1, x2, y1, y2, h1, h2⟩ := h
        show W p l e R s m args below meth c H locs cells slots Q (F0 m pc lsA (rj_rv κ y :: rj_rv κ x :: st'.map (rj_vm κ)))
        rw [rj_rv_rf, rj_rv_rf]
        exact lv_acmp_ne hx hb hd ht (fun q => go.z hS hR hL rfl rfl (brk (h1 (fun q2 => q ((rj_rf_eq x1 x2 y1 y2).mpr q2))))) (fun q => go.z hS hR hL rfl rfl (h2 ((rj_rf_eq x1 x2 y1 y2).mp q)))
      · exact h.elim
  | tableswitch d lo hi offs =>
    have hok : (decide (lo + (offs.toList.length : Int) = hi + 1) && rj_ir lo && rj_ir hi) = true := hok
    rw [Bool.and_eq_true, Bool.and_eq_true] at hok
    obtain ⟨⟨ho1, ho2⟩, ho3⟩ := hok
    have ho1 := of_decide_eq_true ho1
    simp only [rj_ir, Bool.and_eq_true, decide_eq_true_eq] at ho2 ho3
    unfold rj_s1 at h
    try dsimp only at h
    split at h
    · rename_i x st'
      obtain ⟨h1, h2⟩ := rj_sw_t (F := fun o => mj_br pc o (fun t => K t ls st' G)) ho2.1 (by omega) h
      by_cases hin : x.toInt < lo ∨ hi < x.toInt
      · obtain ⟨t, ht, h3⟩ := rj_br_e (h2 (by omega))
        have h9 := go.z hS hR hL rfl rfl h3
        exact lv_tableOut hx hb hd hin ht h9
      · have hj : (x.toInt - lo).toNat < offs.toList.length := by omega
        obtain ⟨t, ht, h3⟩ := rj_br_e (h1 (x.toInt - lo).toNat _ (List.getElem?_eq_getElem hj) (by omega))
        have h9 := go.z hS hR hL rfl rfl h3
        exact lv_tableIn hx hb hd (by omega) (by omega) (by rw [← Array.getElem?_toList]; exact List.getElem?_eq_getElem hj) ht h9
    · exact h.elim
  | lookupswitch d ps =>
    have hok : ((ps.toList.zip (ps.toList.drop 1)).all (fun (a, next) => a.1 < next.1) && ps.toList.all (fun q => rj_ir q.1)) = true := hok
    rw [Bool.and_eq_true] at hok
    unfold rj_s1 at h
    try dsimp only at h
    split at h
    · rename_i x st'
      obtain ⟨t, ht, h3⟩ := rj_br_e (rj_sw_l (F := fun o => mj_br pc o (fun t => K t ls st' G)) hok.2 h)
      have h9 := go.z hS hR hL rfl rfl h3
      exact lv_lookup hx hb hd hok.1 rfl ht h9
    · exact h.elim
  | _ => exact Bool.noConfusion (show false = true from hg)
def rj_gE (i : Instr) : Bool := match i with
  | .iaload => true
  | .caload => true
  | .baload => true
  | .iastore => true
  | .castore => true
  | .bastore => true
  | .laload => true
  | .aaload => true
  | .arraylength => true
  | .lastore => true
  | .aastore => true
  | _ => false
set_option maxHeartbeats 1000000 in
theorem rj_s1_E (hx : p.tables.exec = Jvm.exec) (hb : c.code = cc) (hml : c.maxLocals = lsA.size) (hown : s.vm.findClass (rj_R own) = some m.cls) (hini : ini = true → meth.name = "<init>") (hA : rj_Am κ s) (hS : va_S (fun q => rj_eb κ ≤ q) s.heap H locs) (hR : rj_Re κ G H) (hL : rj_LR κ lsA nL ls) (hfr : 1 ≤ R.frames) (hlo : 41 ≤ R.locals) (hd : decode cc pc = .ok (i, len)) (hok : rj_okI pc i len = true) (hroom : ∀ q ls' st' G', K q ls' st' G' → cells + (mj_n G' - mj_n G) ≤ R.cells ∧ slots + (mj_u G' - mj_u G) ≤ R.slots) (go : rj_Go p l e R s m args below meth c cells slots Q κ nL G K) (h : rj_s1 own ini i len pc ls st G K) (hg : rj_gE i = true) : W p l e R s m args below meth c H locs cells slots Q (F0 m pc lsA (st.map (rj_vm κ))) := by
  cases i with
  | iaload =>
    obtain rfl := Nat.eq_of_beq_eq_true hok
    unfold rj_s1 at h
    try dsimp only at h
    exact rj_W_iaload hx hb hA hS hR hd h (fun st' h1 => go.z hS hR hL rfl rfl h1)
  | caload =>
    obtain rfl := Nat.eq_of_beq_eq_true hok
    unfold rj_s1 at h
    try dsimp only at h
    exact rj_W_caload hx hb hA hS hR hd h (fun st' h1 => go.z hS hR hL rfl rfl h1)
  | baload =>
    obtain rfl := Nat.eq_of_beq_eq_true hok
    unfold rj_s1 at h
    try dsimp only at h
    exact rj_W_baload hx hb hA hS hR hd h (fun st' h1 => go.z hS hR hL rfl rfl h1)
  | iastore =>
    obtain rfl := Nat.eq_of_beq_eq_true hok
    unfold rj_s1 at h
    try dsimp only at h
    exact rj_W_iastore hx hb hA hS hR hd h (fun st' G' H' locs' h1 a1 a2 a3 a4 => go.z a1 a2 hL a3 a4 h1)
  | castore =>
    obtain rfl := Nat.eq_of_beq_eq_true hok
    unfold rj_s1 at h
    try dsimp only at h
    exact rj_W_castore hx hb hA hS hR hd h (fun st' G' H' locs' h1 a1 a2 a3 a4 => go.z a1 a2 hL a3 a4 h1)
  | bastore =>
    obtain rfl := Nat.eq_of_beq_eq_true hok
    unfold rj_s1 at h
    try dsimp only at h
    exact rj_W_bastore hx hb hA hS hR hd h (fun st' G' H' locs' h1 a1 a2 a3 a4 => go.z a1 a2 hL a3 a4 h1)
  | laload =>
    obtain rfl := Nat.eq_of_beq_eq_true hok
    unfold rj_s1 at h
    try dsimp only at h
    split at h
    · rename_i i a st'
      obtain ⟨h1, h2, h3⟩ := h
      have h9 := go.z hS hR hL rfl rfl h3
      exact rj_W_laload hx hb hA hS hR hd h1 h2 h9
    · exact h.elim
  | aaload =>
    obtain rfl := Nat.eq_of_beq_eq_true hok
    unfold rj_s1 at h
    try dsimp only at h
    split at h
    · rename_i i a st'
      obtain ⟨h1, h2, h3⟩ := h
      have h9 := go.z hS hR hL rfl rfl h3
      exact rj_W_aaload hx hb hA hS hR hd h1 h2 h9
    · exact h.elim
  | arraylength =>
    obtain rfl := Nat.eq_of_beq_eq_true hok
    unfold rj_s1 at h
    try dsimp only at h
    split at h
    · rename_i a st'
      obtain ⟨h1, h3⟩ := h
      have h9 := go.z hS hR hL rfl rfl h3
      exact rj_W_alen hx hb hA hS hR hd h1 h9
    · exact h.elim
  | lastore =>
    obtain rfl := Nat.eq_of_beq_eq_true hok
    unfold rj_s1 at h
    try dsimp only at h
    split at h
    · rename_i x i a st'
      obtain ⟨h1, h2, h3⟩ := h
      exact rj_W_lastore hx hb hA hS hR hd h1 h2 (fun H' locs' a1 a2 => go.z a1 a2 hL rfl rfl h3)
    · exact h.elim
  | aastore =>
    obtain rfl := Nat.eq_of_beq_eq_true hok
    unfold rj_s1 at h
    try dsimp only at h
    split at h
    · rename_i x i a st'
      obtain ⟨h1, h2, h4, h3⟩ := h
      exact rj_W_aastore hx hb hA hS hR hd h1 h2 h4 (fun H' locs' a1 a2 => go.z a1 a2 hL rfl rfl h3)
    · exact h.elim
  | _ => exact Bool.noConfusion (show false = true from hg)
def rj_gF (i : Instr) : Bool := match i with
  | .getfield _ => true
  | .putfield _ => true
  | .newarray _ => true
  | .anewarray _ => true
  | .new _ => true
  | .checkcast _ => true
  | .getstatic _ => true
  | _ => false
set_option maxHeartbeats 1000000 in
theorem rj_s1_F (hx : p.tables.exec = Jvm.exec) (hb : c.code = cc) (hml : c.maxLocals = lsA.size) (hown : s.vm.findClass (rj_R own) = some m.cls) (hini : ini = true → meth.name = "<init>") (hA : rj_Am κ s) (hS : va_S (fun q => rj_eb κ ≤ q) s.heap H locs) (hR : rj_Re κ G H) (hL : rj_LR κ lsA nL ls) (hfr : 1 ≤ R.frames) (hlo : 41 ≤ R.locals) (hd : decode cc pc = .ok (i, len)) (hok : rj_okI pc i len = true) (hroom : ∀ q ls' st' G', K q ls' st' G' → cells + (mj_n G' - mj_n G) ≤ R.cells ∧ slots + (mj_u G' - mj_u G) ≤ R.slots) (go : rj_Go p l e R s m args below meth c cells slots Q κ nL G K) (h : rj_s1 own ini i len pc ls st G K) (hg : rj_gF i = true) : W p l e R s m args below meth c H locs cells slots Q (F0 m pc lsA (st.map (rj_vm κ))) := by
  cases i with
  | getfield k =>
    obtain rfl := Nat.eq_of_beq_eq_true hok
    unfold rj_s1 at h
    try dsimp only at h
    split at h
    · rename_i a st' c9 j hf
      obtain ⟨h1, h3⟩ := h
      refine rj_getf (κ := κ) (G := G) hx hb hown hA hR hf h1 hd ?_
      unfold rj_sv
      split at h3
      · rename_i hT
        have h9 := go.z hS hR hL rfl rfl h3
        rw [if_pos hT]
        exact h9
      · rename_i hT
        have h9 := go.z hS hR hL rfl rfl h3
        rw [if_neg hT]
        exact h9
    · exact h.elim
  | putfield k =>
    obtain rfl := Nat.eq_of_beq_eq_true hok
    unfold rj_s1 at h
    try dsimp only at h
    split at h
    · exact h.elim
    · rename_i c9 j hf
      obtain ⟨h0, h⟩ := h
      obtain ⟨-, hj9, hc9⟩ := rj_fl_w hf
      have hty := List.all_eq_true.mp (rj_f_t c9 (by omega)) j (List.mem_range.mpr hj9)
      have hfin : bif (rj_F c9 j).2.2.2 then meth.name = "<init>" ∧ own = c9 else True := by
        cases hb9 : (rj_F c9 j).2.2.2 with
        | false => trivial
        | true =>
          rw [hb9] at h0
          exact ⟨hini h0.1, h0.2⟩
      split at h
      · rename_i x a st'
        obtain ⟨h1, h2, h3, h4⟩ := h
        have ht3 : rj_T c9 j ≠ 3 := fun e => by rw [e] at h2; exact h2
        obtain ⟨n1, n2⟩ := rj_nf hty ht3 h3
        exact rj_putf (κ := κ) (G := G) (G' := mj_pI G a j x) hx hb hown hA hS hR hf h1 hd n1 n2 hfin rfl rfl rfl rj_up_i (fun y => by
          unfold rj_sv
          by_cases hy : y = j
          · subst hy
            rw [if_neg ht3, if_pos rfl, rj_at_i, if_pos rfl]
            rfl
          · rw [if_neg hy, rj_at_i, if_neg hy]
            rfl) (fun H1 locs1 a1 a2 => go.z a1 a2 hL rfl rfl h4)
      · rename_i x a st'
        obtain ⟨h1, h2, h4⟩ := h
        have ht3 : rj_T c9 j = 3 := by
          cases hb9 : (rj_T c9 j == 3) with
          | false => rw [hb9] at h2; exact h2.elim
          | true => exact eq_of_beq hb9
        rw [ht3] at hty
        obtain ⟨n1, n2⟩ := rj_nr (κ := κ) (r := x) hty
        exact rj_putf (κ := κ) (G := G) (G' := mj_pR G a j x) hx hb hown hA hS hR hf h1 hd n1 n2 hfin rfl rfl rfl rj_up_r (fun y => by
          unfold rj_sv
          by_cases hy : y = j
          · subst hy
            rw [if_pos ht3, if_pos rfl, rj_at_r, if_pos rfl]
            rfl
          · rw [if_neg hy, rj_at_r, if_neg hy]
            rfl) (fun H1 locs1 a1 a2 => go.z a1 a2 hL rfl rfl h4)
      · exact h.elim
  | newarray t =>
    obtain rfl := Nat.eq_of_beq_eq_true hok
    unfold rj_s1 at h
    try dsimp only at h
    split at h
    · rename_i n st'
      obtain ⟨h1, h2, h3, h4⟩ := h
      have ht : rj_aty t ≠ 0 := fun e => by rw [e] at h3; exact h3
      have hr := hroom _ _ _ _ h4
      have en : mj_n (mj_al G (rj_aty t) n.toNatClampNeg (fun _ => 0)) = mj_n G + 1 := rfl
      have eu : mj_u (mj_al G (rj_aty t) n.toNatClampNeg (fun _ => 0)) = mj_u G + n.toNatClampNeg := rfl
      exact rj_newarr hx hb hA hS hR hL ht h1 h2 hd ⟨by omega, by omega⟩ go h4
    · exact h.elim
  | anewarray k =>
    obtain rfl := Nat.eq_of_beq_eq_true hok
    unfold rj_s1 at h
    try dsimp only at h
    split at h
    · rename_i n st' c9 hcl
      obtain ⟨h1, h2, h3⟩ := h
      obtain ⟨h3, h4⟩ := rj_cond_e h3
      have hr := hroom _ _ _ _ h4
      have en : mj_n (mj_al G (c9 + 30) n.toNatClampNeg (fun _ => 0)) = mj_n G + 1 := rfl
      have eu : mj_u (mj_al G (c9 + 30) n.toNatClampNeg (fun _ => 0)) = mj_u G + n.toNatClampNeg := rfl
      exact rj_anewarr hx hb hA hS hR hL hown hcl h3 h1 h2 hd ⟨by omega, by omega⟩ go h4
    · exact h.elim
  | new k =>
    obtain rfl := Nat.eq_of_beq_eq_true hok
    unfold rj_s1 at h
    try dsimp only at h
    split at h
    · rename_i c9 hcl
      cases hb9 : Nat.ble 15 c9 with
      | true => rw [hb9] at h; exact h.elim
      | false =>
        rw [hb9] at h
        have h15 : c9 < 15 := Nat.lt_of_not_le fun q => by rw [Nat.ble_eq_true_of_le q] at hb9; cases hb9
        have hr := hroom _ _ _ _ h
        have en : mj_n (mj_al G (c9 + 1) (rj_N c9) (fun _ => 0)) = mj_n G + 1 := rfl
        have eu : mj_u (mj_al G (c9 + 1) (rj_N c9) (fun _ => 0)) = mj_u G + rj_N c9 := rfl
        exact rj_newobj hx hb hA hS hR hL hown hcl h15 hd ⟨by omega, by omega⟩ go h
    · exact h.elim
  | checkcast k =>
    obtain rfl := Nat.eq_of_beq_eq_true hok
    unfold rj_s1 at h
    try dsimp only at h
    split at h
    · rename_i a st'
      obtain ⟨h1, h2, h3⟩ := h
      obtain ⟨h3, h4⟩ := rj_cond_e h3
      rw [Bool.and_eq_true] at h3
      obtain ⟨e1, e2⟩ := h3
      obtain rfl := Nat.eq_of_beq_eq_true e1
      obtain rfl := Nat.eq_of_beq_eq_true e2
      have h9 := go.z hS hR hL rfl rfl h4
      obtain ⟨d1, d2, d3⟩ := rj_arr hA hR h2 (by omega)
      rw [h1] at d1 d2
      have hnm : s.vm.findClass "[I" = some (rj_eA κ 20) := (hA.1.2 20 (by decide)).2
      have ev : rj_vm κ (.inr (.inr a)) = .ref (rj_ph κ a) := rj_rvn (by omega)
      rw [List.map_cons, ev] at h9 ⊢
      have hw9 := hA.word (args := args) rj_x_cc
      intro T hT X
      obtain ⟨vm', X', st9⟩ := X.checkcastYes hx hown hw9 (by rw [hT]; exact d1) rfl hnm (va_asg _ _) (g := F0 m pc lsA (.ref (rj_ph κ a) :: st'.map (rj_vm κ))) rfl rfl (by rw [hb]; exact hd)
      obtain ⟨t, a1, b1⟩ := h9 (T.setVm vm') hT X'
      exact ⟨t, st9 t a1, b1⟩
    · exact h.elim
  | getstatic k =>
    obtain rfl := Nat.eq_of_beq_eq_true hok
    obtain ⟨h1, h2⟩ := rj_cond_e h
    have h9 := go.z hS hR hL rfl rfl h2
    have hZ := hA.2.2.1
    have e2 : rj_vm κ (.inr (.inr 2)) = .ref (rj_ec κ) := rfl
    rw [List.map_cons, e2] at h9
    unfold mj_gs at h1
    split at h1
    · exact va_getsN hx hb hZ hS hown (hA.word rj_x_gs_11) (fun _ h => h) hd h9
    · exact va_getsN hx hb hZ hS hown (hA.word rj_x_gs_8) (fun _ h => h) hd h9
    · exact va_getsN hx hb hZ hS hown (hA.word rj_x_gs_0) (fun _ h => h) hd h9
    · exact va_gets hx hb hZ hS hown (hA.word rj_x_gs_12) (fun _ h => h) hd h9
    · cases h1
  | _ => exact Bool.noConfusion (show false = true from hg)
def rj_gG (i : Instr) : Bool := match i with
  | .invokespecial _ => true
  | .invokestatic _ => true
  | .invokevirtual _ => true
  | _ => false
set_option maxHeartbeats 1000000 in
theorem rj_s1_G (hx : p.tables.exec = Jvm.exec) (hb : c.code = cc) (hml : c.maxLocals = lsA.size) (hown : s.vm.findClass (rj_R own) = some m.cls) (hini : ini = true → meth.name = "<init>") (hA : rj_Am κ s) (hS : va_S (fun q => rj_eb κ ≤ q) s.heap H locs) (hR : rj_Re κ G H) (hL : rj_LR κ lsA nL ls) (hfr : 1 ≤ R.frames) (hlo : 41 ≤ R.locals) (hd : decode cc pc = .ok (i, len)) (hok : rj_okI pc i len = true) (hroom : ∀ q ls' st' G', K q ls' st' G' → cells + (mj_n G' - mj_n G) ≤ R.cells ∧ slots + (mj_u G' - mj_u G) ≤ R.slots) (go : rj_Go p l e R s m args below meth c cells slots Q κ nL G K) (h : rj_s1 own ini i len pc ls st G K) (hg : rj_gG i = true) : W p l e R s m args below meth c H locs cells slots Q (F0 m pc lsA (st.map (rj_vm κ))) := by
  cases i with
  | invokespecial k =>
    obtain rfl := Nat.eq_of_beq_eq_true hok
    unfold rj_s1 at h
    try dsimp only at h
    split at h
    · rename_i a st' hme
      obtain ⟨h1, h2, h3⟩ := h
      have h9 := go.z hS hR hL rfl rfl h3
      have hlink : (Jvm.Cond.methodLink (rj_R own) k Lib.objectInit).before args s = true := by
        rcases (rj_me_w hme).1 with h | h
        · exact hA.word h
        · exact absurd h.2 (by decide)
      have h0 := (hR.lt h1).2
      have ev : rj_vm κ (.inr (.inr a)) = .ref (rj_ph κ a) := rj_rvn h0
      rw [List.map_cons, ev]
      exact W.objInit hx hb hown hlink (hA.word rj_x_oi_i) (hA.word rj_x_oi_c) rfl hml.symm rfl hd hfr (by
        show 2 * 0 + _ + 12 ≤ _
        rw [rj_w_sum]
        omega) h9
    · exact h.elim
  | invokestatic k =>
    obtain rfl := Nat.eq_of_beq_eq_true hok
    unfold rj_s1 at h
    try dsimp only at h
    split at h
    · rename_i y x st' hme
      obtain ⟨h2, h3⟩ := h
      have hr := hroom _ _ _ _ h3
      have h9 := go.z hS hR hL rfl rfl h3
      have hlink : (Jvm.Cond.methodLink (rj_R own) k Lib.Math.min.name).before args s = true := by
        rcases (rj_me_w hme).1 with h | h
        · exact hA.word h
        · exact absurd h.2 (by decide)
      exact va_mmin hx hb hml hown hlink (hA.word rj_x_mmin_s) (hA.word rj_x_m_i) (hA.word rj_x_mmin_c) hfr (by rw [rj_w_sum]; omega) (by omega) (by omega) hd h9
    · rename_i y x st' hme
      obtain ⟨h2, h3⟩ := h
      have hr := hroom _ _ _ _ h3
      have h9 := go.z hS hR hL rfl rfl h3
      have hlink : (Jvm.Cond.methodLink (rj_R own) k Lib.Math.max.name).before args s = true := by
        rcases (rj_me_w hme).1 with h | h
        · exact hA.word h
        · exact absurd h.2 (by decide)
      exact va_mmax hx hb hml hown hlink (hA.word rj_x_mmax_s) (hA.word rj_x_m_i) (hA.word rj_x_mmax_c) hfr (by rw [rj_w_sum]; omega) (by omega) (by omega) hd h9
    · rename_i n dp a sp a0 st' hme
      obtain ⟨g1, g2, g3, g4, g5, g6, g7, g8, g9, g10, g11⟩ := h
      exact rj_copy hx hb hml hA hS hR hL hown hme g1 hfr hlo g2 g3 g4 g5 g6 g7 g8 g9 g10 hd go g11
    · exact h.elim
  | invokevirtual k =>
    obtain rfl := Nat.eq_of_beq_eq_true hok
    unfold rj_s1 at h
    try dsimp only at h
    split at h
    · rename_i a st' hme
      obtain ⟨g1, g2, g3, g4, g5⟩ := h
      have hr := hroom _ _ _ _ g5
      have en : mj_n (mj_al G 20 (mj_l G a) (mj_i G a)) = mj_n G + 1 := rfl
      have eu : mj_u (mj_al G 20 (mj_l G a) (mj_i G a)) = mj_u G + mj_l G a := rfl
      exact rj_clone hx hb hml hA hS hR hL hown hme g1 hfr hlo g2 g3 g4 hd ⟨by omega, by omega⟩ go g5
    · exact h.elim
  | _ => exact Bool.noConfusion (show false = true from hg)
theorem rj_s1_W (hx : p.tables.exec = Jvm.exec) (hb : c.code = cc) (hml : c.maxLocals = lsA.size) (hown : s.vm.findClass (rj_R own) = some m.cls) (hini : ini = true → meth.name = "<init>") (hA : rj_Am κ s) (hS : va_S (fun q => rj_eb κ ≤ q) s.heap H locs) (hR : rj_Re κ G H) (hL : rj_LR κ lsA nL ls) (hfr : 1 ≤ R.frames) (hlo : 41 ≤ R.locals) (hd : decode cc pc = .ok (i, len)) (hok : rj_okI pc i len = true) (hroom : ∀ q ls' st' G', K q ls' st' G' → cells + (mj_n G' - mj_n G) ≤ R.cells ∧ slots + (mj_u G' - mj_u G) ≤ R.slots) (go : rj_Go p l e R s m args below meth c cells slots Q κ nL G K) (h : rj_s1 own ini i len pc ls st G K) : W p l e R s m args below meth c H locs cells slots Q (F0 m pc lsA (st.map (rj_vm κ))) := by
  by_cases gA : rj_gA i = true
  · exact rj_s1_A hx hb hml hown hini hA hS hR hL hfr hlo hd hok hroom go h gA
  by_cases gB : rj_gB i = true
  · exact rj_s1_B hx hb hml hown hini hA hS hR hL hfr hlo hd hok hroom go h gB
  by_cases gC : rj_gC i = true
  · exact rj_s1_C hx hb hml hown hini hA hS hR hL hfr hlo hd hok hroom go h gC
  by_cases gD : rj_gD i = true
  · exact rj_s1_D hx hb hml hown hini hA hS hR hL hfr hlo hd hok hroom go h gD
  by_cases gE : rj_gE i = true
  · exact rj_s1_E hx hb hml hown hini hA hS hR hL hfr hlo hd hok hroom go h gE
  by_cases gF : rj_gF i = true
  · exact rj_s1_F hx hb hml hown hini hA hS hR hL hfr hlo hd hok hroom go h gF
  by_cases gG : rj_gG i = true
  · exact rj_s1_G hx hb hml hown hini hA hS hR hL hfr hlo hd hok hroom go h gG
  cases i <;> first | exact h.elim | (exact absurd rfl gA) | (exact absurd rfl gB) | (exact absurd rfl gC) | (exact absurd rfl gD) | (exact absurd rfl gE) | (exact absurd rfl gF) | (exact absurd rfl gG)
end MJI
