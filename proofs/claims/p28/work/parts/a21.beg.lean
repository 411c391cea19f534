/-! THE LAW'S START: one run of the small machine is enough -/
def rj_G0 (L : Nat) (xs : Nat → Int32) : mj_G := (3, 0, fun a => if a = 1 then 20 else if a = 2 then 22 else 0, fun a => if a = 1 then L else 0, fun a k => if a = 1 then xs k else 0, fun _ _ => 0, fun _ _ => 0)
/-- THE PURE CLAIM: on every script of at most N ints the law's run ends with 1, in the room (C cells, S slots) -/
def rj_Pure (N C S : Nat) : Prop := ∀ (L : Nat) (xs : Nat → Int32), L ≤ N → ∃ f, rj_XF f 2047 14015 0 (mj_en [.inr (.inr 1)] 6) [] (rj_G0 L xs) (fun o G => o = .inl (some (.inl 1)) ∧ mj_n G ≤ C + 3 ∧ mj_u G ≤ S)
theorem rj_m_15 : rj_m 14015 = (code, 6, some .boolean, ⟨"TemplateQuarryLaw", "law", "([I)Z"⟩, true, 1, 0, []) := rfl
theorem rj_ok_15 : rj_ok 14015 := by
  show 15 < (rj_M 14).length
  rw [rj_m_14]
  decide
section MJB
variable {p : Program} {l : Launch} {e : Env} {R : Room} {s : State} {m : MethodId} {args : Array Value} {below : List Frame} {meth : Method} {c : Code}
theorem rj_arr_at (hA : rj_All #[] s) {k : Nat} (hk : k ∈ rj_aK) : ∃ cA, ArrOfT s cA (rj_aT k) ∧ va_RA s cA (rj_aT k) := by
  have prim : ∀ {ty : FieldType}, (∀ C, ty ≠ .object C) → Jvm.Cond.arrayClass ty ∈ rj_W → ∃ cA, ArrOfT s cA ty ∧ va_RA s cA ty := by
    intro ty hne hw
    obtain ⟨c, kk, comp, h1, h2, h3⟩ := Cond.arrayClass_spec (hA _ hw)
    refine ⟨c, fun n z => ⟨fun k h => (by cases h), kk, h2, comp, h3⟩, ?_⟩
    cases ty with
    | object C => exact absurd rfl (hne C)
    | _ => exact h1
  have obj : ∀ {C : String}, Jvm.Cond.arrayOver (.object C) ∈ rj_W → ∃ cA, ArrOfT s cA (.object C) ∧ va_RA s cA (.object C) := by
    intro C hw
    obtain ⟨comp, c, kk, h1, -, h2, h3, h4⟩ := Cond.arrayOver_spec (hA _ hw)
    exact ⟨c, fun n z => ⟨fun k h => (by cases h), kk, h2, comp, h3⟩, kk, comp, h2, h3, h1, h4⟩
  simp only [rj_aK, List.mem_cons, List.not_mem_nil, or_false] at hk
  rcases hk with rfl | rfl | rfl | rfl | rfl | rfl | rfl
  · exact prim (fun C h => by cases h) rj_x_ac_int
  · exact prim (fun C h => by cases h) rj_x_ac_char
  · exact obj rj_x_ao_3
  · exact obj rj_x_ao_4
  · exact obj rj_x_ao_5
  · exact obj rj_x_ao_10
  · exact obj rj_x_ao_11
theorem rj_kn_at (hA : rj_All #[] s) {c : Nat} (h : c < 18) (h2 : c ≠ 2) (h14 : rj_no (c)) : ∃ (cC : ClassId) (iS : Nat → Nat), u_Kn s (rj_R c) (rj_F c) (rj_N c) cC iS := by
  obtain ⟨-, w2, w3⟩ := rj_qc_w h h2 h14
  exact u_known (ws := rj_W) (args := #[]) hA w3 (hA _ w2)
theorem rj_tlen {t : Term} {a : Nat} {cell : Cell} (hv : t.eval args s none [] s = some (.ref a)) (hat : s.arrayAt? a = some cell) : (Term.length t).eval args s none [] s = if cell.slots.size < 2 ^ 31 then some (.int cell.slots.size.toInt32) else none := by
  simp only [Term.eval, hv, hat, Option.bind_eq_bind, Option.bind_some]
  split <;> rfl
/-- the system's empty row -/
theorem rj_noch (h1 : (Cond.isRef (.static "TemplateQuarry" "NO_CHARACTERS" "[C")).before args s = true) (h2 : (Cond.arrayOf (.static "TemplateQuarry" "NO_CHARACTERS" "[C") .char).before args s = true) (h3 : (Cond.eq (.length (.static "TemplateQuarry" "NO_CHARACTERS" "[C")) (.int 0)).before args s = true) :
    ∃ (a : Nat) (cell : Cell), (Term.static "TemplateQuarry" "NO_CHARACTERS" "[C").eval args s none [] s = some (.ref a) ∧ s.heap[a]? = some cell ∧ s.isArrayOf cell .char ∧ cell.vm ≠ .unknown ∧ cell.slots.size = 0 := by
  obtain ⟨v, hv, -⟩ := Cond.isRef_spec h1
  simp only [Cond.before, Cond.holds, Cond.value, hv] at h2
  split at h2
  · simp at h2
  · split at h2
    · rename_i a ha
      cases ha
      cases hc : s.heap[a]? with
      | none => rw [hc] at h2; simp at h2
      | some cell =>
        rw [hc] at h2
        cases hk : s.vm.classes[cell.cls]? with
        | none => simp [hk] at h2
        | some kk =>
          cases hkind : kk.kind with
          | array comp ty' =>
            simp [hk, hkind] at h2
            obtain ⟨⟨g1, g2⟩, rfl⟩ := h2
            refine ⟨a, cell, hv, hc, ⟨fun z hz => (by rw [hz] at g1; cases g1), kk, hk, comp, hkind⟩, g2, ?_⟩
            have hat : s.arrayAt? a = some cell := by simp [State.arrayAt?, hc, hk, hkind, g1, g2]
            have hlen : (Term.length (.static "TemplateQuarry" "NO_CHARACTERS" "[C")).eval args s none [] s = if cell.slots.size < 2 ^ 31 then some (.int cell.slots.size.toInt32) else none := rj_tlen hv hat
            by_cases hsz : cell.slots.size < 2 ^ 31
            · rw [if_pos hsz] at hlen
              have h4 := Cond.eq_ints (b := .int 0) (y := 0) hlen rfl
              simp only [Cond.before, Cond.holds, h4] at h3
              simp at h3
              have h5 : (nI cell.slots.size).toInt = 0 := by
                show (cell.slots.size.toInt32).toInt = 0
                rw [h3]
                rfl
              rw [nI_toInt hsz] at h5
              omega
            · rw [if_neg hsz] at hlen
              simp [Cond.before, Cond.holds, Cond.value, hlen] at h3
          | _ => simp [hk, hkind] at h2
    · cases h2
    · cases h2
theorem rj_launch (hflags : l.flags = flags0) : l.stackTraces = false := by
  unfold Launch.stackTraces
  rw [hflags]
  decide
set_option maxHeartbeats 1000000 in
theorem rj_start (hP : rj_Pure 260 600000 7300000) (l : Launch) (hflags : l.flags = flags0) {b L : Nat} {xs : Nat → Int32} (hL : L ≤ 260) (C0 : lw_At p s m meth c b L xs) : W p l e room_1 s m #[Value.ref b] below meth c s.heap [] 0 0 (lw_Z below #[Value.ref b] s) (entryFrame m ([Value.ref b] : List Value).toArray 6) := by
  obtain ⟨hx, hb, hr, hml, hown, hts, hX, hbl, hlk, hgv⟩ := C0
  have hfl := flat_of_before _ hgv
  have hA0 : rj_All #[] s := fun w hw => rj_mv (List.mem_filter.mp hw).2 (State.WarmedH.refl s) (hts w (List.mem_filter.mp hw).1)
  have hKn : ∀ c : Nat, ∃ q : ClassId × (Nat → Nat), c < 18 → c ≠ 2 → rj_no (c) → u_Kn s (rj_R c) (rj_F c) (rj_N c) q.1 q.2 := by
    intro c
    by_cases hc : c < 18 ∧ c ≠ 2 ∧ rj_no (c)
    · obtain ⟨cC, iS, h⟩ := rj_kn_at hA0 hc.1 hc.2.1 hc.2.2
      exact ⟨(cC, iS), fun _ _ _ => h⟩
    · exact ⟨(0, fun _ => 0), fun a b d => absurd ⟨a, b, d⟩ hc⟩
  have hAr : ∀ k : Nat, ∃ cA : ClassId, k ∈ rj_aK → ArrOfT s cA (rj_aT k) ∧ va_RA s cA (rj_aT k) := by
    intro k
    by_cases hk : k ∈ rj_aK
    · obtain ⟨cA, h⟩ := rj_arr_at hA0 hk
      exact ⟨cA, fun _ => h⟩
    · exact ⟨0, fun h => absurd h hk⟩
  obtain ⟨D, hD⟩ := Classical.skolem.mp hKn
  obtain ⟨dA, hdA⟩ := Classical.skolem.mp hAr
  obtain ⟨ec, cellC, n1, n2, n3, n4, n5⟩ := rj_noch (args := #[Value.ref b]) (hfl _ (by decide +kernel)) (hfl _ (by decide +kernel)) (hfl _ (by decide +kernel))
  have hec : ec < s.heap.size := (Array.getElem?_eq_some_iff.mp n2).1
  have hfree : ∀ a : Nat, a < s.heap.size → ¬ (s.heap.size ≤ a) := fun a h q => by omega
  have hini : ∀ w, w ∈ rj_W → w.before #[Value.ref b] s = true := fun w hw => hts w (List.mem_filter.mp hw).1
  let κ : rj_E := ((fun c => (D c).1, fun c => (D c).2), dA, s.heap.size, b, ec, L, xs)
  have hAm : rj_Am κ s := by
    refine ⟨⟨fun c h1 h2 h3 => hD c h1 h2 h3, fun k hk => hdA k hk⟩, hA0, ?_, ?_, ?_, hX, ⟨cellC, n2, n3, n4, n5⟩, hbl, hec, Nat.le_refl _, ?_, ?_, ?_⟩
    · exact va_Zof (args := #[Value.ref b]) (hts _ (rj_tb_in (List.mem_of_getElem? (i := 63) (show (rj_tb 1)[63]? = some _ by decide +kernel)))) (hini _ (rj_qi_w (c := 12) (by decide))) n1 hfree
    · exact vx_Zqof (args := #[Value.ref b]) (hts _ (rj_tb_in (List.mem_of_getElem? (i := 238) (show (rj_tb 2)[238]? = some _ by decide +kernel)))) (hts _ (rj_tb_in (List.mem_of_getElem? (i := 11) (show (rj_tb 1)[11]? = some _ by decide +kernel)))) (hfl _ (by decide +kernel)) hfree
    · exact vx_Zqof (args := #[Value.ref b]) (hts _ (rj_tb_in (List.mem_of_getElem? (i := 0) (show (rj_tb 3)[0]? = some _ by decide +kernel)))) (hts _ (rj_tb_in (List.mem_of_getElem? (i := 11) (show (rj_tb 1)[11]? = some _ by decide +kernel)))) (hfl _ (by decide +kernel)) hfree
    · exact va_Nc.of (hfl _ (by decide +kernel))
    · exact va_Nc.of (hfl _ (by decide +kernel))
    · exact va_Nc.of (hfl _ (by decide +kernel))
  have hRe : rj_Re κ (rj_G0 L xs) s.heap := by
    refine ⟨rfl, Nat.le_refl _, fun a h1 h2 => absurd h1 (Nat.not_le.mpr h2), fun a (ha : 3 ≤ a) => ?_, rfl, rfl, rfl, fun j _ => rfl, rfl, rfl⟩
    show (if a = 1 then 20 else if a = 2 then 22 else 0) = 0
    rw [if_neg (by omega), if_neg (by omega)]
  obtain ⟨f, hf⟩ := hP L xs hL
  obtain ⟨o9, G9, ⟨ho, hn9, hu9⟩, -, -, hX9⟩ := rj_XF_det hf
  have hCc : 600000 ≤ room_1.cells := Nat.le_of_ble_eq_true rfl
  have hCs : 7300000 ≤ room_1.slots := Nat.le_of_ble_eq_true rfl
  have hn0 : mj_n (rj_G0 L xs) = 3 := rfl
  have hu0 : mj_u (rj_G0 L xs) = 0 := rfl
  obtain ⟨lsA, e1, e2⟩ := rj_entry (κ := κ) (m := m) (vs := [.inr (.inr 1)]) (n := 6) (by decide)
  have e3 : entryFrame m ([Value.ref b] : List Value).toArray 6 = F0 m 0 lsA (([] : List mj_V).map (rj_vm κ)) := e1
  rw [e3]
  have hm18 := rj_m_15
  refine rj_WF_all l f (mi := 14015) (d := 2047) (mc := mj_n G9 - 3) (ms := mj_u G9) rj_ok_15 ⟨hx, ?_, ?_, hown, ?_, ?_, hlk, ?_, ?_, rj_launch hflags⟩ hAm ⟨Nat.le_refl _, fun _ _ _ => rfl, fun _ h => nomatch h⟩ hRe ?_ (Nat.le_refl _) ?_ ?_ ?_ ?_ ?_ ?_ ?_ hX9
  · unfold rj_bt; rw [hm18]; exact hb
  · unfold rj_mL; rw [hm18]; exact hml
  · unfold rj_y; rw [hm18]; intro h; exact absurd h (by decide)
  · unfold rj_rt; rw [hm18]; exact hr
  · unfold rj_kd; rw [hm18]; intro h; cases h
  · unfold rj_kd; rw [hm18]; intro h; cases h
  · unfold rj_mL; rw [hm18]; exact e2
  · exact Nat.le_of_ble_eq_true rfl
  · rw [hn0]; omega
  · rw [hu0]; omega
  · exact Nat.le_trans (Nat.sub_le_of_le_add hn9) (Nat.le_of_ble_eq_true (n := 600000) rfl)
  · exact Nat.le_trans hu9 (Nat.le_of_ble_eq_true (n := 7300000) rfl)
  · intro t ht
    obtain ⟨o, t1, t2, ⟨v, G', rfl, ⟨eo, eG⟩, -, -⟩, Ls, ⟨hv, hW, hs1, hs2, hs3, hs4, hs5, hs6⟩, hLs⟩ := ht
    refine ⟨_, t1, t2, ?_, hv, hW, hs1, hs2, Nat.le_trans hs3 (Nat.add_le_add_left (Nat.le_trans (Nat.sub_le_of_le_add hn9) hCc) _), hs4, Nat.le_trans hs5 (Nat.le_trans hu9 hCs), fun a cc hcc => ?_⟩
    · rw [ho] at eo
      injection eo with eo
      rw [eo]
      rfl
    · obtain ⟨c', q1, q2, q3, q4⟩ := hs6 a cc hcc
      refine ⟨c', q1, q2, q3, fun i _ => q4 i (fun hmem => ?_)⟩
      have h1 := hLs _ hmem
      have h2 := (Array.getElem?_eq_some_iff.mp hcc).1
      exact hfree a h2 h1
  · unfold rj_kd; rw [hm18]; intro h; cases h
end MJB
