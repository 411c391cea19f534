/-! WORDS: those that move with the tables; what the tables of part 03 say is among them; decided once -/
/-- neither void nor the law -/
abbrev rj_no (c : Nat) : Prop := c ≠ 14 ∧ c ≠ 13
def rj_mvb (w : Jvm.Cond) : Bool := goodWord w || (match w with
  | .fieldLinkNest .. => true
  | .methodLinkNest .. => true
  | .castable .. => true
  | .declares _ => true
  | .arrayOver (.object _) => true
  | _ => false)
def rj_W : List Jvm.Cond := lw_tbl.filter rj_mvb
def rj_All (A : Array Value) (s : State) : Prop := ∀ w ∈ rj_W, w.before A s = true
theorem rj_mv {w : Jvm.Cond} (h : rj_mvb w = true) {A A' : Array Value} {s U : State} (hW : s.WarmedH U.vm) (hb : w.before A s = true) : w.before A' U = true := by
  by_cases hg : goodWord w = true
  · exact word_at hW (good_of_word hg) hb
  · have hg' : goodWord w = false := by cases hh : goodWord w <;> simp_all
    unfold rj_mvb at h
    rw [hg', Bool.false_or] at h
    cases w with
    | fieldLinkNest a b c d e f => exact va_Nw.use rfl (va_Nw.warmF hW (va_Nw.of rfl hb))
    | methodLinkNest a b c d => exact va_Nw.use rfl (va_Nw.warmM hW (va_Nw.of rfl hb))
    | castable a b => exact va_Nw.use rfl (va_Nw.warmC hW (va_Nw.of rfl hb))
    | declares a => exact va_Nw.use rfl (va_Nw.warmD hW (va_Nw.of rfl hb))
    | arrayOver t =>
      cases t with
      | object C => exact va_AO.use (va_AO.moved hW.alike (va_AO.of hb))
      | _ => cases h
    | _ => cases h
theorem rj_All.mv {A A' : Array Value} {s U : State} (h : rj_All A s) (hW : s.WarmedH U.vm) : rj_All A' U := fun w hw => rj_mv (List.mem_filter.mp hw).2 hW (h w hw)
theorem rj_tb_in {k : Nat} {w : Jvm.Cond} (h : w ∈ rj_tb k) : w ∈ lw_tbl := by
  unfold lw_tbl tables_1
  unfold rj_tb at h
  simp only [List.mem_append]
  split at h <;> simp_all
theorem rj_in {k p : Nat} {w : Jvm.Cond} (h : (rj_tb k)[p]? = some w) (hm : rj_mvb w = true) : w ∈ rj_W := List.mem_filter.mpr ⟨rj_tb_in (List.mem_of_getElem? h), hm⟩
theorem rj_lk_mem {α : Type} {k : Nat} {x : α} : ∀ {l : List (Nat × α)}, mj_lk k l = some x → (k, x) ∈ l
  | [], h => by simp [mj_lk] at h
  | (q, y) :: l, h => by
    unfold mj_lk at h
    by_cases hq : Nat.beq q k = true
    · rw [hq] at h
      have e := Nat.eq_of_beq_eq_true hq
      subst e
      cases h
      exact List.mem_cons_self
    · have hq' : Nat.beq q k = false := by cases hh : Nat.beq q k <;> simp_all
      rw [hq'] at h
      exact List.mem_cons_of_mem _ (rj_lk_mem h)
-- field links
def rj_ck_fl (o : Nat) (r : Nat × Nat × Nat × Nat × Nat) : Bool := decide ((rj_tb r.2.2.2.1)[r.2.2.2.2]? = some (.fieldLink (rj_R o) r.1 (rj_R r.2.1) (rj_F r.2.1 r.2.2.1).2.1 (rj_F r.2.1 r.2.2.1).2.2.1)) && Nat.blt r.2.2.1 (rj_N r.2.1) && Nat.blt r.2.1 14
set_option maxRecDepth 100000 in
theorem rj_ok_fl (o : Nat) : (rj_flL o).all (rj_ck_fl o) = true := by
  unfold rj_flL
  split <;> first | decide +kernel | rfl
theorem rj_fl_w {o k c j : Nat} (h : rj_fl o k = some (c, j)) : Jvm.Cond.fieldLink (rj_R o) k (rj_R c) (rj_F c j).2.1 (rj_F c j).2.2.1 ∈ rj_W ∧ j < rj_N c ∧ c < 14 := by
  unfold rj_fl at h
  split at h
  · rename_i r hr
    cases h
    have h1 := List.all_eq_true.mp (rj_ok_fl o) _ (rj_lk_mem hr)
    simp only [rj_ck_fl, Bool.and_eq_true, decide_eq_true_eq] at h1
    exact ⟨rj_in h1.1.1 rfl, Nat.blt_eq.mp h1.1.2, Nat.blt_eq.mp h1.2⟩
  · cases h
-- links of classes
def rj_ck_cl (o : Nat) (r : Nat × Nat × Nat × Nat) : Bool := decide ((rj_tb r.2.2.1)[r.2.2.2]? = some (.classLink (rj_R o) r.1 (rj_R r.2.1))) && Nat.blt r.2.1 18 && !(Nat.beq r.2.1 2) && (!(Nat.beq r.2.1 14) && !(Nat.beq r.2.1 13))
set_option maxRecDepth 100000 in
theorem rj_ok_cl (o : Nat) : (rj_clL o).all (rj_ck_cl o) = true := by
  unfold rj_clL
  split <;> first | decide +kernel | rfl
theorem rj_cl_w {o k c : Nat} (h : rj_cl o k = some c) : Jvm.Cond.classLink (rj_R o) k (rj_R c) ∈ rj_W ∧ c < 18 ∧ c ≠ 2 ∧ rj_no (c) := by
  unfold rj_cl at h
  split at h
  · rename_i r hr
    cases h
    have h1 := List.all_eq_true.mp (rj_ok_cl o) _ (rj_lk_mem hr)
    simp only [rj_ck_cl, Bool.and_eq_true, decide_eq_true_eq, Bool.not_eq_true'] at h1
    exact ⟨rj_in h1.1.1.1 rfl, Nat.blt_eq.mp h1.1.1.2, fun e => by rw [e] at h1; exact absurd h1.1.2 (by decide), fun e => by rw [e] at h1; exact absurd h1.2.1 (by decide), fun e => by rw [e] at h1; exact absurd h1.2.2 (by decide)⟩
  · cases h
-- constants
def rj_ck_ki (o : Nat) (r : Nat × Int32 × Nat × Nat) : Bool := decide ((rj_tb r.2.2.1)[r.2.2.2]? = some (.constant (rj_R o) r.1 r.2.1))
set_option maxRecDepth 100000 in
theorem rj_ok_ki (o : Nat) : (rj_kiL o).all (rj_ck_ki o) = true := by
  unfold rj_kiL
  split <;> first | decide +kernel | rfl
theorem rj_ki_w {o k : Nat} {v : Int32} (h : rj_ki o k = some v) : Jvm.Cond.constant (rj_R o) k v ∈ rj_W := by
  unfold rj_ki at h
  split at h
  · rename_i r hr
    cases h
    have h1 := List.all_eq_true.mp (rj_ok_ki o) _ (rj_lk_mem hr)
    simp only [rj_ck_ki, decide_eq_true_eq] at h1
    exact rj_in h1 rfl
  · cases h
def rj_ck_kl (o : Nat) (r : Nat × Int64 × Nat × Nat) : Bool := decide ((rj_tb r.2.2.1)[r.2.2.2]? = some (.constantLong (rj_R o) r.1 r.2.1))
set_option maxRecDepth 100000 in
theorem rj_ok_kl (o : Nat) : (rj_klL o).all (rj_ck_kl o) = true := by
  unfold rj_klL
  split <;> first | decide +kernel | rfl
theorem rj_kl_w {o k : Nat} {v : Int64} (h : rj_kl o k = some v) : Jvm.Cond.constantLong (rj_R o) k v ∈ rj_W := by
  unfold rj_kl at h
  split at h
  · rename_i r hr
    cases h
    have h1 := List.all_eq_true.mp (rj_ok_kl o) _ (rj_lk_mem hr)
    simp only [rj_ck_kl, decide_eq_true_eq] at h1
    exact rj_in h1 rfl
  · cases h
-- method links
def rj_my (t : Nat) : MethodName := match t with
  | 900001 => Lib.objectInit
  | 900002 => Lib.Math.min.name
  | 900003 => Lib.Math.max.name
  | 900004 => arraycopyName
  | 900005 => ⟨"[I", "clone", "()Ljava/lang/Object;"⟩
  | t => rj_y t
def rj_ck_me (o : Nat) (r : Nat × Nat × Bool × Nat × Nat) : Bool := decide ((rj_tb r.2.2.2.1)[r.2.2.2.2]? = some (bif r.2.2.1 then .methodLinkNest (rj_R o) r.1 (rj_my r.2.1) "TemplateQuarry" else .methodLink (rj_R o) r.1 (rj_my r.2.1))) && (Nat.blt 900000 r.2.1 || Nat.blt (r.2.1 % 1000) (rj_M (r.2.1 / 1000)).length) && (Nat.blt 900000 r.2.1 || !(Nat.beq r.2.1 14015)) && (!(Nat.blt 900000 r.2.1) || !r.2.2.1)
set_option maxRecDepth 100000 in
theorem rj_ok_me (o : Nat) : (rj_meL o).all (rj_ck_me o) = true := by
  unfold rj_meL
  split <;> first | decide +kernel | rfl
theorem rj_me_w {o k t : Nat} (h : rj_me o k = some t) : (Jvm.Cond.methodLink (rj_R o) k (rj_my t) ∈ rj_W ∨ (Jvm.Cond.methodLinkNest (rj_R o) k (rj_my t) "TemplateQuarry" ∈ rj_W ∧ ¬ 900000 < t)) ∧ (900000 < t ∨ t % 1000 < (rj_M (t / 1000)).length) ∧ (900000 < t ∨ t ≠ 14015) := by
  unfold rj_me at h
  split at h
  · rename_i r hr
    cases h
    have h1 := List.all_eq_true.mp (rj_ok_me o) _ (rj_lk_mem hr)
    simp only [rj_ck_me, Bool.and_eq_true, decide_eq_true_eq, Bool.or_eq_true, Bool.not_eq_true', Nat.blt_eq] at h1
    obtain ⟨⟨⟨a1, a2⟩, a3⟩, a4⟩ := h1
    refine ⟨?_, a2, a3.imp id fun h e => ?_⟩
    · cases hn : r.2.1 with
      | true =>
        rw [hn] at a1 a4
        exact Or.inr ⟨rj_in a1 rfl, a4.elim (fun q hh => by rw [Nat.blt_eq.mpr hh] at q; cases q) (fun q => by cases q)⟩
      | false =>
        rw [hn] at a1
        exact Or.inl (rj_in a1 rfl)
    · rw [e] at h
      exact absurd h (by decide)
  · cases h
-- classes
def rj_isz (c : Nat) : Nat := bif Nat.ble 15 c then 6 else rj_N c
def rj_ck_qc (r : Nat × Nat × Nat × Nat × Nat × List (Nat × Nat)) : Bool := decide ((rj_tb r.2.1)[r.2.2.1]? = some (.initialized (rj_R r.1))) && decide ((rj_tb r.2.2.2.1)[r.2.2.2.2.1]? = some (.instantiable (rj_R r.1) (rj_isz r.1))) && decide (r.2.2.2.2.2.map (fun q => (rj_tb q.1)[q.2]?) = (List.range (rj_N r.1)).map (fun j => some (u_lay (rj_R r.1) (rj_F r.1) j)))
