/-! WORDS: those that move with the tables; what the tables of part 03 say is among them; decided once -/
def mj_mvb (w : Jvm.Cond) : Bool := goodWord w || (match w with
  | .fieldLinkNest .. => true
  | .methodLinkNest .. => true
  | .castable .. => true
  | .declares _ => true
  | .arrayOver (.object _) => true
  | _ => false)
def mj_W : List Jvm.Cond := lw_tbl.filter mj_mvb
def mj_All (A : Array Value) (s : State) : Prop := ∀ w ∈ mj_W, w.before A s = true
theorem mj_mv {w : Jvm.Cond} (h : mj_mvb w = true) {A A' : Array Value} {s U : State} (hW : s.WarmedH U.vm) (hb : w.before A s = true) : w.before A' U = true := by
  by_cases hg : goodWord w = true
  · exact word_at hW (good_of_word hg) hb
  · have hg' : goodWord w = false := by cases hh : goodWord w <;> simp_all
    unfold mj_mvb at h
    rw [hg', Bool.false_or] at h
    cases w with
    | fieldLinkNest a b c d e f => exact va_Nw.use rfl (va_Nw.warmF hW (va_Nw.of rfl hb))
    | methodLinkNest a b c d => exact va_Nw.use rfl (va_Nw.warmM hW (va_Nw.of rfl hb))
    | castable a b => exact va_Nw.use rfl (va_Nw.warmC hW (va_Nw.of rfl hb))
    | declares a => exact va_Nw.use rfl (va_Nw.warmD hW (va_Nw.of rfl hb))
    | arrayOver t =>
      cases t with
      | object C => exact va_AO.use (va_AO.moved hW.alike (va_AO.of hb))
      | _ => cases h
    | _ => cases h
theorem mj_All.mv {A A' : Array Value} {s U : State} (h : mj_All A s) (hW : s.WarmedH U.vm) : mj_All A' U := fun w hw => mj_mv (List.mem_filter.mp hw).2 hW (h w hw)
theorem mj_tb_in {k : Nat} {w : Jvm.Cond} (h : w ∈ mj_tb k) : w ∈ lw_tbl := by
  unfold lw_tbl tables_1
  unfold mj_tb at h
  simp only [List.mem_append]
  split at h <;> simp_all
theorem mj_in {k p : Nat} {w : Jvm.Cond} (h : (mj_tb k)[p]? = some w) (hm : mj_mvb w = true) : w ∈ mj_W := List.mem_filter.mpr ⟨mj_tb_in (List.mem_of_getElem? h), hm⟩
theorem mj_lk_mem {α : Type} {k : Nat} {x : α} : ∀ {l : List (Nat × α)}, mj_lk k l = some x → (k, x) ∈ l
  | [], h => by simp [mj_lk] at h
  | (q, y) :: l, h => by
    unfold mj_lk at h
    by_cases hq : Nat.beq q k = true
    · rw [hq] at h
      have e := Nat.eq_of_beq_eq_true hq
      subst e
      cases h
      exact List.mem_cons_self
    · have hq' : Nat.beq q k = false := by cases hh : Nat.beq q k <;> simp_all
      rw [hq'] at h
      exact List.mem_cons_of_mem _ (mj_lk_mem h)
-- field links
def mj_ck_fl (o : Nat) (r : Nat × Nat × Nat × Nat × Nat) : Bool := decide ((mj_tb r.2.2.2.1)[r.2.2.2.2]? = some (.fieldLink (mj_R o) r.1 (mj_R r.2.1) (mj_F r.2.1 r.2.2.1).2.1 (mj_F r.2.1 r.2.2.1).2.2.1)) && Nat.blt r.2.2.1 (mj_N r.2.1) && Nat.blt r.2.1 14
set_option maxRecDepth 100000 in
theorem mj_ok_fl (o : Nat) : (mj_flL o).all (mj_ck_fl o) = true := by
  unfold mj_flL
  split <;> first | decide +kernel | rfl
theorem mj_fl_w {o k c j : Nat} (h : mj_fl o k = some (c, j)) : Jvm.Cond.fieldLink (mj_R o) k (mj_R c) (mj_F c j).2.1 (mj_F c j).2.2.1 ∈ mj_W ∧ j < mj_N c ∧ c < 14 := by
  unfold mj_fl at h
  split at h
  · rename_i r hr
    cases h
    have h1 := List.all_eq_true.mp (mj_ok_fl o) _ (mj_lk_mem hr)
    simp only [mj_ck_fl, Bool.and_eq_true, decide_eq_true_eq] at h1
    exact ⟨mj_in h1.1.1 rfl, Nat.blt_eq.mp h1.1.2, Nat.blt_eq.mp h1.2⟩
  · cases h
-- links of classes
def mj_ck_cl (o : Nat) (r : Nat × Nat × Nat × Nat) : Bool := decide ((mj_tb r.2.2.1)[r.2.2.2]? = some (.classLink (mj_R o) r.1 (mj_R r.2.1))) && Nat.blt r.2.1 18 && !(Nat.beq r.2.1 2) && !(Nat.beq r.2.1 14)
set_option maxRecDepth 100000 in
theorem mj_ok_cl (o : Nat) : (mj_clL o).all (mj_ck_cl o) = true := by
  unfold mj_clL
  split <;> first | decide +kernel | rfl
theorem mj_cl_w {o k c : Nat} (h : mj_cl o k = some c) : Jvm.Cond.classLink (mj_R o) k (mj_R c) ∈ mj_W ∧ c < 18 ∧ c ≠ 2 ∧ c ≠ 14 := by
  unfold mj_cl at h
  split at h
  · rename_i r hr
    cases h
    have h1 := List.all_eq_true.mp (mj_ok_cl o) _ (mj_lk_mem hr)
    simp only [mj_ck_cl, Bool.and_eq_true, decide_eq_true_eq, Bool.not_eq_true'] at h1
    exact ⟨mj_in h1.1.1.1 rfl, Nat.blt_eq.mp h1.1.1.2, fun e => by rw [e] at h1; exact absurd h1.1.2 (by decide), fun e => by rw [e] at h1; exact absurd h1.2 (by decide)⟩
  · cases h
-- constants
def mj_ck_ki (o : Nat) (r : Nat × Int32 × Nat × Nat) : Bool := decide ((mj_tb r.2.2.1)[r.2.2.2]? = some (.constant (mj_R o) r.1 r.2.1))
set_option maxRecDepth 100000 in
theorem mj_ok_ki (o : Nat) : (mj_kiL o).all (mj_ck_ki o) = true := by
  unfold mj_kiL
  split <;> first | decide +kernel | rfl
theorem mj_ki_w {o k : Nat} {v : Int32} (h : mj_ki o k = some v) : Jvm.Cond.constant (mj_R o) k v ∈ mj_W := by
  unfold mj_ki at h
  split at h
  · rename_i r hr
    cases h
    have h1 := List.all_eq_true.mp (mj_ok_ki o) _ (mj_lk_mem hr)
    simp only [mj_ck_ki, decide_eq_true_eq] at h1
    exact mj_in h1 rfl
  · cases h
def mj_ck_kl (o : Nat) (r : Nat × Int64 × Nat × Nat) : Bool := decide ((mj_tb r.2.2.1)[r.2.2.2]? = some (.constantLong (mj_R o) r.1 r.2.1))
set_option maxRecDepth 100000 in
theorem mj_ok_kl (o : Nat) : (mj_klL o).all (mj_ck_kl o) = true := by
  unfold mj_klL
  split <;> first | decide +kernel | rfl
theorem mj_kl_w {o k : Nat} {v : Int64} (h : mj_kl o k = some v) : Jvm.Cond.constantLong (mj_R o) k v ∈ mj_W := by
  unfold mj_kl at h
  split at h
  · rename_i r hr
    cases h
    have h1 := List.all_eq_true.mp (mj_ok_kl o) _ (mj_lk_mem hr)
    simp only [mj_ck_kl, decide_eq_true_eq] at h1
    exact mj_in h1 rfl
  · cases h
-- method links
def mj_my (t : Nat) : MethodName := match t with
  | 900001 => Lib.objectInit
  | 900002 => Lib.Math.min.name
  | 900003 => Lib.Math.max.name
  | 900004 => arraycopyName
  | 900005 => ⟨"[I", "clone", "()Ljava/lang/Object;"⟩
  | t => mj_y t
def mj_ck_me (o : Nat) (r : Nat × Nat × Bool × Nat × Nat) : Bool := decide ((mj_tb r.2.2.2.1)[r.2.2.2.2]? = some (bif r.2.2.1 then .methodLinkNest (mj_R o) r.1 (mj_my r.2.1) "TemplateQuarry" else .methodLink (mj_R o) r.1 (mj_my r.2.1))) && (Nat.blt 900000 r.2.1 || Nat.blt (r.2.1 % 1000) (mj_M (r.2.1 / 1000)).length) && (Nat.blt 900000 r.2.1 || !(Nat.beq r.2.1 14018)) && (!(Nat.blt 900000 r.2.1) || !r.2.2.1)
set_option maxRecDepth 100000 in
theorem mj_ok_me (o : Nat) : (mj_meL o).all (mj_ck_me o) = true := by
  unfold mj_meL
  split <;> first | decide +kernel | rfl
theorem mj_me_w {o k t : Nat} (h : mj_me o k = some t) : (Jvm.Cond.methodLink (mj_R o) k (mj_my t) ∈ mj_W ∨ (Jvm.Cond.methodLinkNest (mj_R o) k (mj_my t) "TemplateQuarry" ∈ mj_W ∧ ¬ 900000 < t)) ∧ (900000 < t ∨ t % 1000 < (mj_M (t / 1000)).length) ∧ (900000 < t ∨ t ≠ 14018) := by
  unfold mj_me at h
  split at h
  · rename_i r hr
    cases h
    have h1 := List.all_eq_true.mp (mj_ok_me o) _ (mj_lk_mem hr)
    simp only [mj_ck_me, Bool.and_eq_true, decide_eq_true_eq, Bool.or_eq_true, Bool.not_eq_true', Nat.blt_eq] at h1
    obtain ⟨⟨⟨a1, a2⟩, a3⟩, a4⟩ := h1
    refine ⟨?_, a2, a3.imp id fun h e => ?_⟩
    · cases hn : r.2.1 with
      | true =>
        rw [hn] at a1 a4
        exact Or.inr ⟨mj_in a1 rfl, a4.elim (fun q hh => by rw [Nat.blt_eq.mpr hh] at q; cases q) (fun q => by cases q)⟩
      | false =>
        rw [hn] at a1
        exact Or.inl (mj_in a1 rfl)
    · rw [e] at h
      exact absurd h (by decide)
  · cases h
-- classes
def mj_isz (c : Nat) : Nat := bif Nat.ble 15 c then 6 else mj_N c
def mj_ck_qc (r : Nat × Nat × Nat × Nat × Nat × List (Nat × Nat)) : Bool := decide ((mj_tb r.2.1)[r.2.2.1]? = some (.initialized (mj_R r.1))) && decide ((mj_tb r.2.2.2.1)[r.2.2.2.2.1]? = some (.instantiable (mj_R r.1) (mj_isz r.1))) && decide (r.2.2.2.2.2.map (fun q => (mj_tb q.1)[q.2]?) = (List.range (mj_N r.1)).map (fun j => some (u_lay (mj_R r.1) (mj_F r.1) j)))
