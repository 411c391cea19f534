/-! PATTERNS typed (wip/p28/genh05.py) -/
section H05
variable {s : lst} {H H1 H' : mj_G} {d k c m n : Nat} {w : Nat → Nat} {x : Int32}
theorem z_dv {y : Nat} (hy : y < 2 ^ 31) (hm2 : m < 2 ^ 31) : nI y / nI m = nI (y / m) := by
  have hq : y / m < 2 ^ 31 := Nat.lt_of_le_of_lt (Nat.div_le_self _ _) hy
  apply Int32.toInt_inj.mp
  rw [Int32.toInt_div, nI_toInt hy, nI_toInt hm2, nI_toInt hq, ← Int.ofNat_tdiv]
  generalize y / m = q at hq ⊢
  exact Int.bmod_eq_of_le (by omega) (by omega)
theorem and_n (x : Int32) (hm : m < 2 ^ 31) : ∃ r, r ≤ m ∧ x &&& nI m = nI r := by
  have h1 : (x.toBitVec &&& BitVec.ofNat 32 m).toNat ≤ m := by
    rw [BitVec.toNat_and, BitVec.toNat_ofNat, Nat.mod_eq_of_lt (by omega)]
    exact Nat.and_le_right
  refine ⟨(x.toBitVec &&& BitVec.ofNat 32 m).toNat, h1, ?_⟩
  apply Int32.toBitVec_inj.mp
  apply BitVec.eq_of_toNat_eq
  show (x.toBitVec &&& BitVec.ofNat 32 m).toNat = (BitVec.ofNat 32 (x.toBitVec &&& BitVec.ofNat 32 m).toNat).toNat
  rw [BitVec.toNat_ofNat, Nat.mod_eq_of_lt (by omega)]
/-- low -/
def lo (x n : Int32) : Int32 := (x &&& ((2147483647 : Int32))) - (x &&& ((2147483647 : Int32))) / n * n
theorem lo_n (x : Int32) (hm : 0 < m) (hm2 : m < 2 ^ 31) : ∃ r, r < m ∧ lo x (nI m) = nI r := by
  obtain ⟨y, hy, e⟩ := and_n x (m := 2147483647) (by decide)
  refine ⟨y % m, Nat.mod_lt _ hm, ?_⟩
  unfold lo
  rw [show (2147483647 : Int32) = nI 2147483647 from rfl, e, z_dv (by omega) hm2, z_mul, z_sub (Nat.div_mul_le_self y m)]
  congr 1
  have := Nat.div_add_mod y m
  have h2 : y / m * m = m * (y / m) := Nat.mul_comm _ _
  omega
theorem q_low {y : Int32} {G : mj_G} (hy : ¬ y = 0) : rj_X d 14001 0 [some (.inl x), some (.inl y)] [] G (fun o G1 => ∃ v, o = .inl (some (.inl v)) ∧ (lo x y = v ∧ G = G1)) := rk_14001_0 hy rfl ⟨_, rfl, rfl, rfl⟩
/-! texts typed -/
def wap (w : Nat → Nat) : Nat → List Nat → Nat → Nat
  | _, [] => w
  | n, c :: cs => wap (g_u w n c) (n + 1) cs
theorem wap_lt : ∀ (l : List Nat) {w : Nat → Nat} {n j : Nat}, j < n → wap w n l j = w j
  | [], _, _, _, _ => rfl
  | c :: cs, w, n, j, h => (wap_lt cs (by omega)).trans (g_un (by omega))
theorem wap_at : ∀ (l : List Nat) {w : Nat → Nat} {n i : Nat}, i < l.length → wap w n l (n + i) = l.getD i 0
  | [], _, _, _, h => absurd h (Nat.not_lt_zero _)
  | c :: cs, w, n, 0, _ => (wap_lt cs (by omega)).trans g_us
  | c :: cs, w, n, i + 1, h => by
    have h1 := wap_at cs (w := g_u w n c) (n := n + 1) (i := i) (Nat.lt_of_succ_lt_succ h)
    rw [show n + (i + 1) = n + 1 + i by omega]
    exact h1
theorem tyw_p : ∀ (l : List Nat) {s : lst}, (∀ c, c ∈ l → 32 ≤ c ∧ c ≤ 126) → ls_n s + l.length ≤ 80 → tyw l s = ls_z s (ls_n s + l.length) (wap (ls_w s) (ls_n s) l) (ls_k s)
  | [], s, _, _ => rfl
  | c :: cs, s, h, hn => by
    have hn' : ls_n s + (cs.length + 1) ≤ 80 := hn
    have h1 := h c (List.mem_cons_self ..)
    have e1 : tyf c s = ls_z s (ls_n s + 1) (g_u (ls_w s) (ls_n s) c) (ls_k s) := if_pos ⟨h1.1, h1.2, by omega⟩
    show tyw cs (tyf c s) = _
    rw [e1]
    have e2 := tyw_p cs (s := ls_z s (ls_n s + 1) (g_u (ls_w s) (ls_n s) c) (ls_k s)) (fun y hy => h y (List.mem_cons_of_mem _ hy)) (by show ls_n s + 1 + cs.length ≤ 80; omega)
    rw [e2]
    show ls_z s (ls_n s + 1 + cs.length) _ _ = ls_z s (ls_n s + (cs.length + 1)) _ _
    rw [show ls_n s + 1 + cs.length = ls_n s + (cs.length + 1) by omega]
    rfl
theorem tyw_a : ∀ (a b : List Nat) (s : lst), tyw (a ++ b) s = tyw b (tyw a s)
  | [], _, _ => rfl
  | c :: cs, b, s => tyw_a cs b (tyf c s)
theorem LT_le : ∀ {ls : List (List Nat)} {p : Nat}, LT w n ls p → p ≤ n
  | [], _, h => Nat.le_of_eq h
  | l :: ls, p, h => by
    have := LT_le h.2
    omega
theorem LT_ap {l : List Nat} : ∀ {ls : List (List Nat)} {p : Nat}, LT w n ls p → LT (wap w n l) (n + l.length) (ls ++ [l]) p
  | [], p, h => by
    have e : p = n := h
    subst e
    exact ⟨fun i hi => wap_at l hi, rfl⟩
  | l0 :: ls, p, h => by
    have := LT_le h.2
    exact ⟨fun i hi => (wap_lt l (by omega)).trans (h.1 i hi), LT_ap h.2⟩
theorem LT_cg {w' : Nat → Nat} (hw : ∀ j, j < n → w' j = w j) : ∀ {ls : List (List Nat)} {p : Nat}, LT w n ls p → LT w' n ls p
  | [], _, h => h
  | l0 :: ls, p, h => by
    have := LT_le h.2
    exact ⟨fun i hi => (hw _ (by omega)).trans (h.1 i hi), LT_cg hw h.2⟩
theorem hI_of {ls : List (List Nat)} {p0 : Nat} (hW : tx_W w n) (hT : LT w m ls p0) (hg : ∀ l, l ∈ ls → l ∈ lp_t) (hp : ∀ j, j < p0 → w j = 123 → ¬ tx_T (w (j + 1))) (hn : n ≤ m + 1) : ∀ j, w j = 123 → tx_T (w (j + 1)) → inst w j := fun j h1 h2 => by
  by_cases a : j < p0
  · exact absurd h2 (hp j a h1)
  by_cases b : j < m
  · exact LT_at hT (fun l hl => Or.inl (hg l hl)) j (by omega) b
  · rw [hW.2.2 (j + 1) (by omega)] at h2
    unfold tx_T at h2
    omega
theorem lp_c1 : (lp_t.all fun l => Nat.ble l.length 18 && l.all fun c => Nat.ble 32 c && Nat.ble c 126) = true := by decide +kernel
theorem lp_c {l : List Nat} (h : l ∈ lp_t) : l.length ≤ 18 ∧ ∀ c, c ∈ l → 32 ≤ c ∧ c ≤ 126 := by
  have h1 := List.all_eq_true.mp lp_c1 l h
  rw [Bool.and_eq_true] at h1
  refine ⟨Nat.le_of_ble_eq_true h1.1, fun c hc => ?_⟩
  have h2 := List.all_eq_true.mp h1.2 c hc
  rw [Bool.and_eq_true] at h2
  exact ⟨Nat.le_of_ble_eq_true h2.1, Nat.le_of_ble_eq_true h2.2⟩
theorem lp_i1 : ((List.range 25).all fun i => decide (lp_t.getD i [] ∈ lp_t)) = true := by decide +kernel
theorem lp_i {i : Nat} (h : i < 25) : lp_t.getD i [] ∈ lp_t := of_decide_eq_true (List.all_eq_true.mp lp_i1 i (List.mem_range.mpr h))
theorem tl_0_0 : tyl (418679423357 : Int64) byl = [97, 123, 61, 97, 125] := by decide +kernel
theorem t_pat_0 (hd : 1200 ≤ d) (hs : OB k s H) : ∃ H', OB (k + 24) (tyw (lp_t.getD 0 []) s) H' ∧ RV (d + 3) 14007 [some (.inl (nI 0))] (.inl none) H H' := by
  obtain ⟨H1, g0, r0⟩ := t_types (y := (418679423357 : Int64)) hd hs
  rw [tl_0_0] at g0
  have e : lp_t.getD 0 [] = [97, 123, 61, 97, 125] := by rfl
  rw [e]
  have h : RX (d + 3) 14007 0 (fun a => [some (.inr (.inr a)), some (.inl (nI 0))]) (fun _ => []) H (fun o G => o = .inl none ∧ G = H1) := by
    refine RX_b (fun a G Q _ h => rk_14007_0 (fun _ => h) (fun q => absurd q (by decide +kernel)) (fun q => absurd q (by decide +kernel)) (fun q => absurd q (by decide +kernel)) (fun q => absurd q (by decide +kernel)) (fun q => absurd q (by decide +kernel)) (fun q => absurd q (by decide +kernel)) (fun q => absurd q (by decide +kernel)) (fun q => absurd q (by decide +kernel)) (fun q => absurd q (by decide +kernel)) (fun q => absurd q (by decide +kernel)) (fun q => absurd q (by decide +kernel)) (fun q => absurd q (by decide +kernel)) (fun q => absurd q (by decide +kernel)) (fun q => absurd q (by decide +kernel)) (fun q => absurd q (by decide +kernel)) (fun q => absurd q (by decide +kernel)) (fun q => absurd q (by decide +kernel)) (fun q => absurd q (by decide +kernel)) (fun q => absurd q (by decide +kernel)) (fun q => absurd q (by decide +kernel)) (fun q => absurd q (by decide +kernel)) (fun q => absurd q (by decide +kernel)) (fun q => absurd q (by decide +kernel)) (fun q _ _ _ _ _ _ _ _ _ _ _ _ _ _ _ _ _ _ _ _ _ _ _ => absurd rfl q)) ?_
    refine RX_b (fun a G Q _ h => rk_14007_112 h) ?_
    refine RX_c r0 (fun a G Q T _ h hk => rc_14007_116 h hk) ?_
    refine RX_b (fun a G Q _ h => rk_14007_119 h) ?_
    exact RX_e (fun a G Q h => rk_14007_457 h) ⟨rfl, rfl⟩
  obtain ⟨o, H', ⟨rfl, rfl⟩, h2⟩ := RX_v h
  exact ⟨_, OB_m g0 (by omega), h2⟩
theorem tl_1_0 : tyl (259765633661 : Int64) byl = [60, 123, 61, 98, 125] := by decide +kernel
theorem t_pat_1 (hd : 1200 ≤ d) (hs : OB k s H) : ∃ H', OB (k + 24) (tyw (lp_t.getD 1 []) s) H' ∧ RV (d + 3) 14007 [some (.inl (nI 1))] (.inl none) H H' := by
  obtain ⟨H1, g0, r0⟩ := t_types (y := (259765633661 : Int64)) hd hs
  rw [tl_1_0] at g0
  have e : lp_t.getD 1 [] = [60, 123, 61, 98, 125] := by rfl
  rw [e]
  have h : RX (d + 3) 14007 0 (fun a => [some (.inr (.inr a)), some (.inl (nI 1))]) (fun _ => []) H (fun o G => o = .inl none ∧ G = H1) := by
    refine RX_b (fun a G Q _ h => rk_14007_0 (fun q => absurd q (by decide +kernel)) (fun _ => h) (fun q => absurd q (by decide +kernel)) (fun q => absurd q (by decide +kernel)) (fun q => absurd q (by decide +kernel)) (fun q => absurd q (by decide +kernel)) (fun q => absurd q (by decide +kernel)) (fun q => absurd q (by decide +kernel)) (fun q => absurd q (by decide +kernel)) (fun q => absurd q (by decide +kernel)) (fun q => absurd q (by decide +kernel)) (fun q => absurd q (by decide +kernel)) (fun q => absurd q (by decide +kernel)) (fun q => absurd q (by decide +kernel)) (fun q => absurd q (by decide +kernel)) (fun q => absurd q (by decide +kernel)) (fun q => absurd q (by decide +kernel)) (fun q => absurd q (by decide +kernel)) (fun q => absurd q (by decide +kernel)) (fun q => absurd q (by decide +kernel)) (fun q => absurd q (by decide +kernel)) (fun q => absurd q (by decide +kernel)) (fun q => absurd q (by decide +kernel)) (fun q => absurd q (by decide +kernel)) (fun _ q _ _ _ _ _ _ _ _ _ _ _ _ _ _ _ _ _ _ _ _ _ _ => absurd rfl q)) ?_
    refine RX_b (fun a G Q _ h => rk_14007_122 h) ?_
    refine RX_c r0 (fun a G Q T _ h hk => rc_14007_126 h hk) ?_
    refine RX_b (fun a G Q _ h => rk_14007_129 h) ?_
    exact RX_e (fun a G Q h => rk_14007_457 h) ⟨rfl, rfl⟩
  obtain ⟨o, H', ⟨rfl, rfl⟩, h2⟩ := RX_v h
  exact ⟨_, OB_m g0 (by omega), h2⟩
theorem tl_2_0 : tyl (17011783411499645 : Int64) byl = [60, 112, 32, 123, 61, 98, 125] := by decide +kernel
theorem t_pat_2 (hd : 1200 ≤ d) (hs : OB k s H) : ∃ H', OB (k + 24) (tyw (lp_t.getD 2 []) s) H' ∧ RV (d + 3) 14007 [some (.inl (nI 2))] (.inl none) H H' := by
  obtain ⟨H1, g0, r0⟩ := t_types (y := (17011783411499645 : Int64)) hd hs
  rw [tl_2_0] at g0
  have e : lp_t.getD 2 [] = [60, 112, 32, 123, 61, 98, 125] := by rfl
  rw [e]
  have h : RX (d + 3) 14007 0 (fun a => [some (.inr (.inr a)), some (.inl (nI 2))]) (fun _ => []) H (fun o G => o = .inl none ∧ G = H1) := by
    refine RX_b (fun a G Q _ h => rk_14007_0 (fun q => absurd q (by decide +kernel)) (fun q => absurd q (by decide +kernel)) (fun _ => h) (fun q => absurd q (by decide +kernel)) (fun q => absurd q (by decide +kernel)) (fun q => absurd q (by decide +kernel)) (fun q => absurd q (by decide +kernel)) (fun q => absurd q (by decide +kernel)) (fun q => absurd q (by decide +kernel)) (fun q => absurd q (by decide +kernel)) (fun q => absurd q (by decide +kernel)) (fun q => absurd q (by decide +kernel)) (fun q => absurd q (by decide +kernel)) (fun q => absurd q (by decide +kernel)) (fun q => absurd q (by decide +kernel)) (fun q => absurd q (by decide +kernel)) (fun q => absurd q (by decide +kernel)) (fun q => absurd q (by decide +kernel)) (fun q => absurd q (by decide +kernel)) (fun q => absurd q (by decide +kernel)) (fun q => absurd q (by decide +kernel)) (fun q => absurd q (by decide +kernel)) (fun q => absurd q (by decide +kernel)) (fun q => absurd q (by decide +kernel)) (fun _ _ q _ _ _ _ _ _ _ _ _ _ _ _ _ _ _ _ _ _ _ _ _ => absurd rfl q)) ?_
    refine RX_b (fun a G Q _ h => rk_14007_132 h) ?_
    refine RX_c r0 (fun a G Q T _ h hk => rc_14007_136 h hk) ?_
    refine RX_b (fun a G Q _ h => rk_14007_139 h) ?_
    exact RX_e (fun a G Q h => rk_14007_457 h) ⟨rfl, rfl⟩
  obtain ⟨o, H', ⟨rfl, rfl⟩, h2⟩ := RX_v h
  exact ⟨_, OB_m g0 (by omega), h2⟩
theorem tl_3_0 : tyl (37912699829538 : Int64) byl = [34, 123, 61, 97, 125, 34] := by decide +kernel
theorem t_pat_3 (hd : 1200 ≤ d) (hs : OB k s H) : ∃ H', OB (k + 24) (tyw (lp_t.getD 3 []) s) H' ∧ RV (d + 3) 14007 [some (.inl (nI 3))] (.inl none) H H' := by
  obtain ⟨H1, g0, r0⟩ := t_types (y := (37912699829538 : Int64)) hd hs
  rw [tl_3_0] at g0
  have e : lp_t.getD 3 [] = [34, 123, 61, 97, 125, 34] := by rfl
  rw [e]
  have h : RX (d + 3) 14007 0 (fun a => [some (.inr (.inr a)), some (.inl (nI 3))]) (fun _ => []) H (fun o G => o = .inl none ∧ G = H1) := by
    refine RX_b (fun a G Q _ h => rk_14007_0 (fun q => absurd q (by decide +kernel)) (fun q => absurd q (by decide +kernel)) (fun q => absurd q (by decide +kernel)) (fun _ => h) (fun q => absurd q (by decide +kernel)) (fun q => absurd q (by decide +kernel)) (fun q => absurd q (by decide +kernel)) (fun q => absurd q (by decide +kernel)) (fun q => absurd q (by decide +kernel)) (fun q => absurd q (by decide +kernel)) (fun q => absurd q (by decide +kernel)) (fun q => absurd q (by decide +kernel)) (fun q => absurd q (by decide +kernel)) (fun q => absurd q (by decide +kernel)) (fun q => absurd q (by decide +kernel)) (fun q => absurd q (by decide +kernel)) (fun q => absurd q (by decide +kernel)) (fun q => absurd q (by decide +kernel)) (fun q => absurd q (by decide +kernel)) (fun q => absurd q (by decide +kernel)) (fun q => absurd q (by decide +kernel)) (fun q => absurd q (by decide +kernel)) (fun q => absurd q (by decide +kernel)) (fun q => absurd q (by decide +kernel)) (fun _ _ _ q _ _ _ _ _ _ _ _ _ _ _ _ _ _ _ _ _ _ _ _ => absurd rfl q)) ?_
    refine RX_b (fun a G Q _ h => rk_14007_142 h) ?_
    refine RX_c r0 (fun a G Q T _ h hk => rc_14007_146 h hk) ?_
    refine RX_b (fun a G Q _ h => rk_14007_149 h) ?_
    exact RX_e (fun a G Q h => rk_14007_457 h) ⟨rfl, rfl⟩
  obtain ⟨o, H', ⟨rfl, rfl⟩, h2⟩ := RX_v h
  exact ⟨_, OB_m g0 (by omega), h2⟩
theorem tl_4_0 : tyl (8874910428723625220 : Int64) byl = [123, 42, 100, 99, 125, 123, 61, 100] := by decide +kernel
theorem tl_4_1 : tyl (9041884987275295613 : Int64) byl = [125, 123, 58, 125, 110, 123, 59, 125] := by decide +kernel
theorem t_pat_4 (hd : 1200 ≤ d) (hs : OB k s H) : ∃ H', OB (k + 24) (tyw (lp_t.getD 4 []) s) H' ∧ RV (d + 3) 14007 [some (.inl (nI 4))] (.inl none) H H' := by
  obtain ⟨H1, g0, r0⟩ := t_types (y := (8874910428723625220 : Int64)) hd hs
  obtain ⟨H2, g1, r1⟩ := t_types (y := (9041884987275295613 : Int64)) hd g0
  rw [tl_4_1] at g1
  rw [tl_4_0] at g1
  have e : lp_t.getD 4 [] = [123, 42, 100, 99, 125, 123, 61, 100] ++ [125, 123, 58, 125, 110, 123, 59, 125] := by rfl
  rw [e]
  rw [tyw_a]
  have h : RX (d + 3) 14007 0 (fun a => [some (.inr (.inr a)), some (.inl (nI 4))]) (fun _ => []) H (fun o G => o = .inl none ∧ G = H2) := by
    refine RX_b (fun a G Q _ h => rk_14007_0 (fun q => absurd q (by decide +kernel)) (fun q => absurd q (by decide +kernel)) (fun q => absurd q (by decide +kernel)) (fun q => absurd q (by decide +kernel)) (fun _ => h) (fun q => absurd q (by decide +kernel)) (fun q => absurd q (by decide +kernel)) (fun q => absurd q (by decide +kernel)) (fun q => absurd q (by decide +kernel)) (fun q => absurd q (by decide +kernel)) (fun q => absurd q (by decide +kernel)) (fun q => absurd q (by decide +kernel)) (fun q => absurd q (by decide +kernel)) (fun q => absurd q (by decide +kernel)) (fun q => absurd q (by decide +kernel)) (fun q => absurd q (by decide +kernel)) (fun q => absurd q (by decide +kernel)) (fun q => absurd q (by decide +kernel)) (fun q => absurd q (by decide +kernel)) (fun q => absurd q (by decide +kernel)) (fun q => absurd q (by decide +kernel)) (fun q => absurd q (by decide +kernel)) (fun q => absurd q (by decide +kernel)) (fun q => absurd q (by decide +kernel)) (fun _ _ _ _ q _ _ _ _ _ _ _ _ _ _ _ _ _ _ _ _ _ _ _ => absurd rfl q)) ?_
    refine RX_b (fun a G Q _ h => rk_14007_152 h) ?_
    refine RX_c r0 (fun a G Q T _ h hk => rc_14007_156 h hk) ?_
    refine RX_b (fun a G Q _ h => rk_14007_159 h) ?_
    refine RX_c r1 (fun a G Q T _ h hk => rc_14007_163 h hk) ?_
    refine RX_b (fun a G Q _ h => rk_14007_166 h) ?_
    exact RX_e (fun a G Q h => rk_14007_457 h) ⟨rfl, rfl⟩
  obtain ⟨o, H', ⟨rfl, rfl⟩, h2⟩ := RX_v h
  exact ⟨_, OB_m g1 (by omega), h2⟩
theorem tl_5_0 : tyl (8875325458921782651 : Int64) byl = [123, 43, 125, 123, 61, 99, 125, 123] := by decide +kernel
theorem tl_5_1 : tyl (64310247897981 : Int64) byl = [58, 125, 101, 123, 59, 125] := by decide +kernel
theorem t_pat_5 (hd : 1200 ≤ d) (hs : OB k s H) : ∃ H', OB (k + 24) (tyw (lp_t.getD 5 []) s) H' ∧ RV (d + 3) 14007 [some (.inl (nI 5))] (.inl none) H H' := by
  obtain ⟨H1, g0, r0⟩ := t_types (y := (8875325458921782651 : Int64)) hd hs
  obtain ⟨H2, g1, r1⟩ := t_types (y := (64310247897981 : Int64)) hd g0
  rw [tl_5_1] at g1
  rw [tl_5_0] at g1
  have e : lp_t.getD 5 [] = [123, 43, 125, 123, 61, 99, 125, 123] ++ [58, 125, 101, 123, 59, 125] := by rfl
  rw [e]
  rw [tyw_a]
  have h : RX (d + 3) 14007 0 (fun a => [some (.inr (.inr a)), some (.inl (nI 5))]) (fun _ => []) H (fun o G => o = .inl none ∧ G = H2) := by
    refine RX_b (fun a G Q _ h => rk_14007_0 (fun q => absurd q (by decide +kernel)) (fun q => absurd q (by decide +kernel)) (fun q => absurd q (by decide +kernel)) (fun q => absurd q (by decide +kernel)) (fun q => absurd q (by decide +kernel)) (fun _ => h) (fun q => absurd q (by decide +kernel)) (fun q => absurd q (by decide +kernel)) (fun q => absurd q (by decide +kernel)) (fun q => absurd q (by decide +kernel)) (fun q => absurd q (by decide +kernel)) (fun q => absurd q (by decide +kernel)) (fun q => absurd q (by decide +kernel)) (fun q => absurd q (by decide +kernel)) (fun q => absurd q (by decide +kernel)) (fun q => absurd q (by decide +kernel)) (fun q => absurd q (by decide +kernel)) (fun q => absurd q (by decide +kernel)) (fun q => absurd q (by decide +kernel)) (fun q => absurd q (by decide +kernel)) (fun q => absurd q (by decide +kernel)) (fun q => absurd q (by decide +kernel)) (fun q => absurd q (by decide +kernel)) (fun q => absurd q (by decide +kernel)) (fun _ _ _ _ _ q _ _ _ _ _ _ _ _ _ _ _ _ _ _ _ _ _ _ => absurd rfl q)) ?_
    refine RX_b (fun a G Q _ h => rk_14007_169 h) ?_
    refine RX_c r0 (fun a G Q T _ h hk => rc_14007_173 h hk) ?_
    refine RX_b (fun a G Q _ h => rk_14007_176 h) ?_
    refine RX_c r1 (fun a G Q T _ h hk => rc_14007_180 h hk) ?_
    refine RX_b (fun a G Q _ h => rk_14007_183 h) ?_
    exact RX_e (fun a G Q h => rk_14007_457 h) ⟨rfl, rfl⟩
  obtain ⟨o, H', ⟨rfl, rfl⟩, h2⟩ := RX_v h
  exact ⟨_, OB_m g1 (by omega), h2⟩
theorem tl_6_0 : tyl (8872990105442925826 : Int64) byl = [123, 35, 49, 125, 98, 123, 61, 98] := by decide +kernel
theorem tl_6_1 : tyl (2105228157 : Int64) byl = [125, 123, 59, 125] := by decide +kernel
theorem t_pat_6 (hd : 1200 ≤ d) (hs : OB k s H) : ∃ H', OB (k + 24) (tyw (lp_t.getD 6 []) s) H' ∧ RV (d + 3) 14007 [some (.inl (nI 6))] (.inl none) H H' := by
  obtain ⟨H1, g0, r0⟩ := t_types (y := (8872990105442925826 : Int64)) hd hs
  obtain ⟨H2, g1, r1⟩ := t_types (y := (2105228157 : Int64)) hd g0
  rw [tl_6_1] at g1
  rw [tl_6_0] at g1
  have e : lp_t.getD 6 [] = [123, 35, 49, 125, 98, 123, 61, 98] ++ [125, 123, 59, 125] := by rfl
  rw [e]
  rw [tyw_a]
  have h : RX (d + 3) 14007 0 (fun a => [some (.inr (.inr a)), some (.inl (nI 6))]) (fun _ => []) H (fun o G => o = .inl none ∧ G = H2) := by
    refine RX_b (fun a G Q _ h => rk_14007_0 (fun q => absurd q (by decide +kernel)) (fun q => absurd q (by decide +kernel)) (fun q => absurd q (by decide +kernel)) (fun q => absurd q (by decide +kernel)) (fun q => absurd q (by decide +kernel)) (fun q => absurd q (by decide +kernel)) (fun _ => h) (fun q => absurd q (by decide +kernel)) (fun q => absurd q (by decide +kernel)) (fun q => absurd q (by decide +kernel)) (fun q => absurd q (by decide +kernel)) (fun q => absurd q (by decide +kernel)) (fun q => absurd q (by decide +kernel)) (fun q => absurd q (by decide +kernel)) (fun q => absurd q (by decide +kernel)) (fun q => absurd q (by decide +kernel)) (fun q => absurd q (by decide +kernel)) (fun q => absurd q (by decide +kernel)) (fun q => absurd q (by decide +kernel)) (fun q => absurd q (by decide +kernel)) (fun q => absurd q (by decide +kernel)) (fun q => absurd q (by decide +kernel)) (fun q => absurd q (by decide +kernel)) (fun q => absurd q (by decide +kernel)) (fun _ _ _ _ _ _ q _ _ _ _ _ _ _ _ _ _ _ _ _ _ _ _ _ => absurd rfl q)) ?_
    refine RX_b (fun a G Q _ h => rk_14007_186 h) ?_
    refine RX_c r0 (fun a G Q T _ h hk => rc_14007_190 h hk) ?_
    refine RX_b (fun a G Q _ h => rk_14007_193 h) ?_
    refine RX_c r1 (fun a G Q T _ h hk => rc_14007_197 h hk) ?_
    refine RX_b (fun a G Q _ h => rk_14007_200 h) ?_
    exact RX_e (fun a G Q h => rk_14007_457 h) ⟨rfl, rfl⟩
  obtain ⟨o, H', ⟨rfl, rfl⟩, h2⟩ := RX_v h
  exact ⟨_, OB_m g1 (by omega), h2⟩
theorem tl_7_0 : tyl (8085117 : Int64) byl = [123, 94, 125] := by decide +kernel
theorem t_pat_7 (hd : 1200 ≤ d) (hs : OB k s H) : ∃ H', OB (k + 24) (tyw (lp_t.getD 7 []) s) H' ∧ RV (d + 3) 14007 [some (.inl (nI 7))] (.inl none) H H' := by
  obtain ⟨H1, g0, r0⟩ := t_types (y := (8085117 : Int64)) hd hs
  rw [tl_7_0] at g0
  have e : lp_t.getD 7 [] = [123, 94, 125] := by rfl
  rw [e]
  have h : RX (d + 3) 14007 0 (fun a => [some (.inr (.inr a)), some (.inl (nI 7))]) (fun _ => []) H (fun o G => o = .inl none ∧ G = H1) := by
    refine RX_b (fun a G Q _ h => rk_14007_0 (fun q => absurd q (by decide +kernel)) (fun q => absurd q (by decide +kernel)) (fun q => absurd q (by decide +kernel)) (fun q => absurd q (by decide +kernel)) (fun q => absurd q (by decide +kernel)) (fun q => absurd q (by decide +kernel)) (fun q => absurd q (by decide +kernel)) (fun _ => h) (fun q => absurd q (by decide +kernel)) (fun q => absurd q (by decide +kernel)) (fun q => absurd q (by decide +kernel)) (fun q => absurd q (by decide +kernel)) (fun q => absurd q (by decide +kernel)) (fun q => absurd q (by decide +kernel)) (fun q => absurd q (by decide +kernel)) (fun q => absurd q (by decide +kernel)) (fun q => absurd q (by decide +kernel)) (fun q => absurd q (by decide +kernel)) (fun q => absurd q (by decide +kernel)) (fun q => absurd q (by decide +kernel)) (fun q => absurd q (by decide +kernel)) (fun q => absurd q (by decide +kernel)) (fun q => absurd q (by decide +kernel)) (fun q => absurd q (by decide +kernel)) (fun _ _ _ _ _ _ _ q _ _ _ _ _ _ _ _ _ _ _ _ _ _ _ _ => absurd rfl q)) ?_
    refine RX_b (fun a G Q _ h => rk_14007_203 h) ?_
    refine RX_c r0 (fun a G Q T _ h hk => rc_14007_207 h hk) ?_
    refine RX_b (fun a G Q _ h => rk_14007_210 h) ?_
    exact RX_e (fun a G Q h => rk_14007_457 h) ⟨rfl, rfl⟩
  obtain ⟨o, H', ⟨rfl, rfl⟩, h2⟩ := RX_v h
  exact ⟨_, OB_m g0 (by omega), h2⟩
theorem tl_8_0 : tyl (2067804541 : Int64) byl = [123, 64, 49, 125] := by decide +kernel
theorem t_pat_8 (hd : 1200 ≤ d) (hs : OB k s H) : ∃ H', OB (k + 24) (tyw (lp_t.getD 8 []) s) H' ∧ RV (d + 3) 14007 [some (.inl (nI 8))] (.inl none) H H' := by
  obtain ⟨H1, g0, r0⟩ := t_types (y := (2067804541 : Int64)) hd hs
  rw [tl_8_0] at g0
  have e : lp_t.getD 8 [] = [123, 64, 49, 125] := by rfl
  rw [e]
  have h : RX (d + 3) 14007 0 (fun a => [some (.inr (.inr a)), some (.inl (nI 8))]) (fun _ => []) H (fun o G => o = .inl none ∧ G = H1) := by
    refine RX_b (fun a G Q _ h => rk_14007_0 (fun q => absurd q (by decide +kernel)) (fun q => absurd q (by decide +kernel)) (fun q => absurd q (by decide +kernel)) (fun q => absurd q (by decide +kernel)) (fun q => absurd q (by decide +kernel)) (fun q => absurd q (by decide +kernel)) (fun q => absurd q (by decide +kernel)) (fun q => absurd q (by decide +kernel)) (fun _ => h) (fun q => absurd q (by decide +kernel)) (fun q => absurd q (by decide +kernel)) (fun q => absurd q (by decide +kernel)) (fun q => absurd q (by decide +kernel)) (fun q => absurd q (by decide +kernel)) (fun q => absurd q (by decide +kernel)) (fun q => absurd q (by decide +kernel)) (fun q => absurd q (by decide +kernel)) (fun q => absurd q (by decide +kernel)) (fun q => absurd q (by decide +kernel)) (fun q => absurd q (by decide +kernel)) (fun q => absurd q (by decide +kernel)) (fun q => absurd q (by decide +kernel)) (fun q => absurd q (by decide +kernel)) (fun q => absurd q (by decide +kernel)) (fun _ _ _ _ _ _ _ _ q _ _ _ _ _ _ _ _ _ _ _ _ _ _ _ => absurd rfl q)) ?_
    refine RX_b (fun a G Q _ h => rk_14007_213 h) ?_
    refine RX_c r0 (fun a G Q T _ h hk => rc_14007_217 h hk) ?_
    refine RX_b (fun a G Q _ h => rk_14007_220 h) ?_
    exact RX_e (fun a G Q h => rk_14007_457 h) ⟨rfl, rfl⟩
  obtain ⟨o, H', ⟨rfl, rfl⟩, h2⟩ := RX_v h
  exact ⟨_, OB_m g0 (by omega), h2⟩
theorem tl_9_0 : tyl (2067804797 : Int64) byl = [123, 64, 50, 125] := by decide +kernel
theorem t_pat_9 (hd : 1200 ≤ d) (hs : OB k s H) : ∃ H', OB (k + 24) (tyw (lp_t.getD 9 []) s) H' ∧ RV (d + 3) 14007 [some (.inl (nI 9))] (.inl none) H H' := by
  obtain ⟨H1, g0, r0⟩ := t_types (y := (2067804797 : Int64)) hd hs
  rw [tl_9_0] at g0
  have e : lp_t.getD 9 [] = [123, 64, 50, 125] := by rfl
  rw [e]
  have h : RX (d + 3) 14007 0 (fun a => [some (.inr (.inr a)), some (.inl (nI 9))]) (fun _ => []) H (fun o G => o = .inl none ∧ G = H1) := by
    refine RX_b (fun a G Q _ h => rk_14007_0 (fun q => absurd q (by decide +kernel)) (fun q => absurd q (by decide +kernel)) (fun q => absurd q (by decide +kernel)) (fun q => absurd q (by decide +kernel)) (fun q => absurd q (by decide +kernel)) (fun q => absurd q (by decide +kernel)) (fun q => absurd q (by decide +kernel)) (fun q => absurd q (by decide +kernel)) (fun q => absurd q (by decide +kernel)) (fun _ => h) (fun q => absurd q (by decide +kernel)) (fun q => absurd q (by decide +kernel)) (fun q => absurd q (by decide +kernel)) (fun q => absurd q (by decide +kernel)) (fun q => absurd q (by decide +kernel)) (fun q => absurd q (by decide +kernel)) (fun q => absurd q (by decide +kernel)) (fun q => absurd q (by decide +kernel)) (fun q => absurd q (by decide +kernel)) (fun q => absurd q (by decide +kernel)) (fun q => absurd q (by decide +kernel)) (fun q => absurd q (by decide +kernel)) (fun q => absurd q (by decide +kernel)) (fun q => absurd q (by decide +kernel)) (fun _ _ _ _ _ _ _ _ _ q _ _ _ _ _ _ _ _ _ _ _ _ _ _ => absurd rfl q)) ?_
    refine RX_b (fun a G Q _ h => rk_14007_223 h) ?_
    refine RX_c r0 (fun a G Q T _ h hk => rc_14007_227 h hk) ?_
    refine RX_b (fun a G Q _ h => rk_14007_230 h) ?_
    exact RX_e (fun a G Q h => rk_14007_457 h) ⟨rfl, rfl⟩
  obtain ⟨o, H', ⟨rfl, rfl⟩, h2⟩ := RX_v h
  exact ⟨_, OB_m g0 (by omega), h2⟩
theorem tl_10_0 : tyl (8873271046229014397 : Int64) byl = [123, 36, 49, 97, 98, 61, 55, 125] := by decide +kernel
theorem tl_10_1 : tyl (8880256778210540923 : Int64) byl = [123, 61, 98, 125, 123, 126, 125, 123] := by decide +kernel
theorem tl_10_2 : tyl (15229 : Int64) byl = [59, 125] := by decide +kernel
theorem t_pat_10 (hd : 1200 ≤ d) (hs : OB k s H) : ∃ H', OB (k + 24) (tyw (lp_t.getD 10 []) s) H' ∧ RV (d + 3) 14007 [some (.inl (nI 10))] (.inl none) H H' := by
  obtain ⟨H1, g0, r0⟩ := t_types (y := (8873271046229014397 : Int64)) hd hs
  obtain ⟨H2, g1, r1⟩ := t_types (y := (8880256778210540923 : Int64)) hd g0
  obtain ⟨H3, g2, r2⟩ := t_types (y := (15229 : Int64)) hd g1
  rw [tl_10_2] at g2
  rw [tl_10_0] at g2
  rw [tl_10_1] at g2
  have e : lp_t.getD 10 [] = [123, 36, 49, 97, 98, 61, 55, 125] ++ [123, 61, 98, 125, 123, 126, 125, 123] ++ [59, 125] := by rfl
  rw [e]
  rw [tyw_a]
  rw [tyw_a]
  have h : RX (d + 3) 14007 0 (fun a => [some (.inr (.inr a)), some (.inl (nI 10))]) (fun _ => []) H (fun o G => o = .inl none ∧ G = H3) := by
    refine RX_b (fun a G Q _ h => rk_14007_0 (fun q => absurd q (by decide +kernel)) (fun q => absurd q (by decide +kernel)) (fun q => absurd q (by decide +kernel)) (fun q => absurd q (by decide +kernel)) (fun q => absurd q (by decide +kernel)) (fun q => absurd q (by decide +kernel)) (fun q => absurd q (by decide +kernel)) (fun q => absurd q (by decide +kernel)) (fun q => absurd q (by decide +kernel)) (fun q => absurd q (by decide +kernel)) (fun _ => h) (fun q => absurd q (by decide +kernel)) (fun q => absurd q (by decide +kernel)) (fun q => absurd q (by decide +kernel)) (fun q => absurd q (by decide +kernel)) (fun q => absurd q (by decide +kernel)) (fun q => absurd q (by decide +kernel)) (fun q => absurd q (by decide +kernel)) (fun q => absurd q (by decide +kernel)) (fun q => absurd q (by decide +kernel)) (fun q => absurd q (by decide +kernel)) (fun q => absurd q (by decide +kernel)) (fun q => absurd q (by decide +kernel)) (fun q => absurd q (by decide +kernel)) (fun _ _ _ _ _ _ _ _ _ _ q _ _ _ _ _ _ _ _ _ _ _ _ _ => absurd rfl q)) ?_
    refine RX_b (fun a G Q _ h => rk_14007_233 h) ?_
    refine RX_c r0 (fun a G Q T _ h hk => rc_14007_237 h hk) ?_
    refine RX_b (fun a G Q _ h => rk_14007_240 h) ?_
    refine RX_c r1 (fun a G Q T _ h hk => rc_14007_244 h hk) ?_
    refine RX_b (fun a G Q _ h => rk_14007_247 h) ?_
    refine RX_c r2 (fun a G Q T _ h hk => rc_14007_251 h hk) ?_
    refine RX_b (fun a G Q _ h => rk_14007_254 h) ?_
    exact RX_e (fun a G Q h => rk_14007_457 h) ⟨rfl, rfl⟩
  obtain ⟨o, H', ⟨rfl, rfl⟩, h2⟩ := RX_v h
  exact ⟨_, OB_m g2 (by omega), h2⟩
theorem tl_11_0 : tyl (8872426621999659522 : Int64) byl = [123, 33, 49, 97, 44, 98, 58, 98] := by decide +kernel
theorem tl_11_1 : tyl (125 : Int64) byl = [125] := by decide +kernel
theorem t_pat_11 (hd : 1200 ≤ d) (hs : OB k s H) : ∃ H', OB (k + 24) (tyw (lp_t.getD 11 []) s) H' ∧ RV (d + 3) 14007 [some (.inl (nI 11))] (.inl none) H H' := by
  obtain ⟨H1, g0, r0⟩ := t_types (y := (8872426621999659522 : Int64)) hd hs
  obtain ⟨H2, g1, r1⟩ := t_types (y := (125 : Int64)) hd g0
  rw [tl_11_1] at g1
  rw [tl_11_0] at g1
  have e : lp_t.getD 11 [] = [123, 33, 49, 97, 44, 98, 58, 98] ++ [125] := by rfl
  rw [e]
  rw [tyw_a]
  have h : RX (d + 3) 14007 0 (fun a => [some (.inr (.inr a)), some (.inl (nI 11))]) (fun _ => []) H (fun o G => o = .inl none ∧ G = H2) := by
    refine RX_b (fun a G Q _ h => rk_14007_0 (fun q => absurd q (by decide +kernel)) (fun q => absurd q (by decide +kernel)) (fun q => absurd q (by decide +kernel)) (fun q => absurd q (by decide +kernel)) (fun q => absurd q (by decide +kernel)) (fun q => absurd q (by decide +kernel)) (fun q => absurd q (by decide +kernel)) (fun q => absurd q (by decide +kernel)) (fun q => absurd q (by decide +kernel)) (fun q => absurd q (by decide +kernel)) (fun q => absurd q (by decide +kernel)) (fun _ => h) (fun q => absurd q (by decide +kernel)) (fun q => absurd q (by decide +kernel)) (fun q => absurd q (by decide +kernel)) (fun q => absurd q (by decide +kernel)) (fun q => absurd q (by decide +kernel)) (fun q => absurd q (by decide +kernel)) (fun q => absurd q (by decide +kernel)) (fun q => absurd q (by decide +kernel)) (fun q => absurd q (by decide +kernel)) (fun q => absurd q (by decide +kernel)) (fun q => absurd q (by decide +kernel)) (fun q => absurd q (by decide +kernel)) (fun _ _ _ _ _ _ _ _ _ _ _ q _ _ _ _ _ _ _ _ _ _ _ _ => absurd rfl q)) ?_
    refine RX_b (fun a G Q _ h => rk_14007_257 h) ?_
    refine RX_c r0 (fun a G Q T _ h hk => rc_14007_261 h hk) ?_
    refine RX_b (fun a G Q _ h => rk_14007_264 h) ?_
    refine RX_c r1 (fun a G Q T _ h hk => rc_14007_268 h hk) ?_
    refine RX_b (fun a G Q _ h => rk_14007_271 h) ?_
    exact RX_e (fun a G Q h => rk_14007_457 h) ⟨rfl, rfl⟩
  obtain ⟨o, H', ⟨rfl, rfl⟩, h2⟩ := RX_v h
  exact ⟨_, OB_m g1 (by omega), h2⟩
theorem tl_12_0 : tyl (8873834002545065220 : Int64) byl = [123, 38, 49, 98, 125, 123, 61, 100] := by decide +kernel
theorem tl_12_1 : tyl (35013069423459197 : Int64) byl = [124, 100, 51, 125, 123, 59, 125] := by decide +kernel
theorem t_pat_12 (hd : 1200 ≤ d) (hs : OB k s H) : ∃ H', OB (k + 24) (tyw (lp_t.getD 12 []) s) H' ∧ RV (d + 3) 14007 [some (.inl (nI 12))] (.inl none) H H' := by
  obtain ⟨H1, g0, r0⟩ := t_types (y := (8873834002545065220 : Int64)) hd hs
  obtain ⟨H2, g1, r1⟩ := t_types (y := (35013069423459197 : Int64)) hd g0
  rw [tl_12_1] at g1
  rw [tl_12_0] at g1
  have e : lp_t.getD 12 [] = [123, 38, 49, 98, 125, 123, 61, 100] ++ [124, 100, 51, 125, 123, 59, 125] := by rfl
  rw [e]
  rw [tyw_a]
  have h : RX (d + 3) 14007 0 (fun a => [some (.inr (.inr a)), some (.inl (nI 12))]) (fun _ => []) H (fun o G => o = .inl none ∧ G = H2) := by
    refine RX_b (fun a G Q _ h => rk_14007_0 (fun q => absurd q (by decide +kernel)) (fun q => absurd q (by decide +kernel)) (fun q => absurd q (by decide +kernel)) (fun q => absurd q (by decide +kernel)) (fun q => absurd q (by decide +kernel)) (fun q => absurd q (by decide +kernel)) (fun q => absurd q (by decide +kernel)) (fun q => absurd q (by decide +kernel)) (fun q => absurd q (by decide +kernel)) (fun q => absurd q (by decide +kernel)) (fun q => absurd q (by decide +kernel)) (fun q => absurd q (by decide +kernel)) (fun _ => h) (fun q => absurd q (by decide +kernel)) (fun q => absurd q (by decide +kernel)) (fun q => absurd q (by decide +kernel)) (fun q => absurd q (by decide +kernel)) (fun q => absurd q (by decide +kernel)) (fun q => absurd q (by decide +kernel)) (fun q => absurd q (by decide +kernel)) (fun q => absurd q (by decide +kernel)) (fun q => absurd q (by decide +kernel)) (fun q => absurd q (by decide +kernel)) (fun q => absurd q (by decide +kernel)) (fun _ _ _ _ _ _ _ _ _ _ _ _ q _ _ _ _ _ _ _ _ _ _ _ => absurd rfl q)) ?_
    refine RX_b (fun a G Q _ h => rk_14007_274 h) ?_
    refine RX_c r0 (fun a G Q T _ h hk => rc_14007_278 h hk) ?_
    refine RX_b (fun a G Q _ h => rk_14007_281 h) ?_
    refine RX_c r1 (fun a G Q T _ h hk => rc_14007_285 h hk) ?_
    refine RX_b (fun a G Q _ h => rk_14007_288 h) ?_
    exact RX_e (fun a G Q h => rk_14007_457 h) ⟨rfl, rfl⟩
  obtain ⟨o, H', ⟨rfl, rfl⟩, h2⟩ := RX_v h
  exact ⟨_, OB_m g1 (by omega), h2⟩
theorem tl_13_0 : tyl (8873503210668241193 : Int64) byl = [123, 37, 100, 40, 97, 43, 49, 41] := by decide +kernel
theorem tl_13_1 : tyl (125 : Int64) byl = [125] := by decide +kernel
theorem t_pat_13 (hd : 1200 ≤ d) (hs : OB k s H) : ∃ H', OB (k + 24) (tyw (lp_t.getD 13 []) s) H' ∧ RV (d + 3) 14007 [some (.inl (nI 13))] (.inl none) H H' := by
  obtain ⟨H1, g0, r0⟩ := t_types (y := (8873503210668241193 : Int64)) hd hs
  obtain ⟨H2, g1, r1⟩ := t_types (y := (125 : Int64)) hd g0
  rw [tl_13_1] at g1
  rw [tl_13_0] at g1
  have e : lp_t.getD 13 [] = [123, 37, 100, 40, 97, 43, 49, 41] ++ [125] := by rfl
  rw [e]
  rw [tyw_a]
  have h : RX (d + 3) 14007 0 (fun a => [some (.inr (.inr a)), some (.inl (nI 13))]) (fun _ => []) H (fun o G => o = .inl none ∧ G = H2) := by
    refine RX_b (fun a G Q _ h => rk_14007_0 (fun q => absurd q (by decide +kernel)) (fun q => absurd q (by decide +kernel)) (fun q => absurd q (by decide +kernel)) (fun q => absurd q (by decide +kernel)) (fun q => absurd q (by decide +kernel)) (fun q => absurd q (by decide +kernel)) (fun q => absurd q (by decide +kernel)) (fun q => absurd q (by decide +kernel)) (fun q => absurd q (by decide +kernel)) (fun q => absurd q (by decide +kernel)) (fun q => absurd q (by decide +kernel)) (fun q => absurd q (by decide +kernel)) (fun q => absurd q (by decide +kernel)) (fun _ => h) (fun q => absurd q (by decide +kernel)) (fun q => absurd q (by decide +kernel)) (fun q => absurd q (by decide +kernel)) (fun q => absurd q (by decide +kernel)) (fun q => absurd q (by decide +kernel)) (fun q => absurd q (by decide +kernel)) (fun q => absurd q (by decide +kernel)) (fun q => absurd q (by decide +kernel)) (fun q => absurd q (by decide +kernel)) (fun q => absurd q (by decide +kernel)) (fun _ _ _ _ _ _ _ _ _ _ _ _ _ q _ _ _ _ _ _ _ _ _ _ => absurd rfl q)) ?_
    refine RX_b (fun a G Q _ h => rk_14007_291 h) ?_
    refine RX_c r0 (fun a G Q T _ h hk => rc_14007_295 h hk) ?_
    refine RX_b (fun a G Q _ h => rk_14007_298 h) ?_
    refine RX_c r1 (fun a G Q T _ h hk => rc_14007_302 h hk) ?_
    refine RX_b (fun a G Q _ h => rk_14007_305 h) ?_
    exact RX_e (fun a G Q h => rk_14007_457 h) ⟨rfl, rfl⟩
  obtain ⟨o, H', ⟨rfl, rfl⟩, h2⟩ := RX_v h
  exact ⟨_, OB_m g1 (by omega), h2⟩
theorem tl_14_0 : tyl (8873503207367851559 : Int64) byl = [123, 37, 100, 39, 60, 115, 62, 39] := by decide +kernel
theorem tl_14_1 : tyl (125 : Int64) byl = [125] := by decide +kernel
theorem t_pat_14 (hd : 1200 ≤ d) (hs : OB k s H) : ∃ H', OB (k + 24) (tyw (lp_t.getD 14 []) s) H' ∧ RV (d + 3) 14007 [some (.inl (nI 14))] (.inl none) H H' := by
  obtain ⟨H1, g0, r0⟩ := t_types (y := (8873503207367851559 : Int64)) hd hs
  obtain ⟨H2, g1, r1⟩ := t_types (y := (125 : Int64)) hd g0
  rw [tl_14_1] at g1
  rw [tl_14_0] at g1
  have e : lp_t.getD 14 [] = [123, 37, 100, 39, 60, 115, 62, 39] ++ [125] := by rfl
  rw [e]
  rw [tyw_a]
  have h : RX (d + 3) 14007 0 (fun a => [some (.inr (.inr a)), some (.inl (nI 14))]) (fun _ => []) H (fun o G => o = .inl none ∧ G = H2) := by
    refine RX_b (fun a G Q _ h => rk_14007_0 (fun q => absurd q (by decide +kernel)) (fun q => absurd q (by decide +kernel)) (fun q => absurd q (by decide +kernel)) (fun q => absurd q (by decide +kernel)) (fun q => absurd q (by decide +kernel)) (fun q => absurd q (by decide +kernel)) (fun q => absurd q (by decide +kernel)) (fun q => absurd q (by decide +kernel)) (fun q => absurd q (by decide +kernel)) (fun q => absurd q (by decide +kernel)) (fun q => absurd q (by decide +kernel)) (fun q => absurd q (by decide +kernel)) (fun q => absurd q (by decide +kernel)) (fun q => absurd q (by decide +kernel)) (fun _ => h) (fun q => absurd q (by decide +kernel)) (fun q => absurd q (by decide +kernel)) (fun q => absurd q (by decide +kernel)) (fun q => absurd q (by decide +kernel)) (fun q => absurd q (by decide +kernel)) (fun q => absurd q (by decide +kernel)) (fun q => absurd q (by decide +kernel)) (fun q => absurd q (by decide +kernel)) (fun q => absurd q (by decide +kernel)) (fun _ _ _ _ _ _ _ _ _ _ _ _ _ _ q _ _ _ _ _ _ _ _ _ => absurd rfl q)) ?_
    refine RX_b (fun a G Q _ h => rk_14007_308 h) ?_
    refine RX_c r0 (fun a G Q T _ h hk => rc_14007_312 h hk) ?_
    refine RX_b (fun a G Q _ h => rk_14007_315 h) ?_
    refine RX_c r1 (fun a G Q T _ h hk => rc_14007_319 h hk) ?_
    refine RX_b (fun a G Q _ h => rk_14007_322 h) ?_
    exact RX_e (fun a G Q h => rk_14007_457 h) ⟨rfl, rfl⟩
  obtain ⟨o, H', ⟨rfl, rfl⟩, h2⟩ := RX_v h
  exact ⟨_, OB_m g1 (by omega), h2⟩
theorem tl_15_0 : tyl (8893256304181444989 : Int64) byl = [123, 107, 49, 125, 123, 61, 97, 125] := by decide +kernel
theorem tl_15_1 : tyl (8076157 : Int64) byl = [123, 59, 125] := by decide +kernel
theorem t_pat_15 (hd : 1200 ≤ d) (hs : OB k s H) : ∃ H', OB (k + 24) (tyw (lp_t.getD 15 []) s) H' ∧ RV (d + 3) 14007 [some (.inl (nI 15))] (.inl none) H H' := by
  obtain ⟨H1, g0, r0⟩ := t_types (y := (8893256304181444989 : Int64)) hd hs
  obtain ⟨H2, g1, r1⟩ := t_types (y := (8076157 : Int64)) hd g0
  rw [tl_15_1] at g1
  rw [tl_15_0] at g1
  have e : lp_t.getD 15 [] = [123, 107, 49, 125, 123, 61, 97, 125] ++ [123, 59, 125] := by rfl
  rw [e]
  rw [tyw_a]
  have h : RX (d + 3) 14007 0 (fun a => [some (.inr (.inr a)), some (.inl (nI 15))]) (fun _ => []) H (fun o G => o = .inl none ∧ G = H2) := by
    refine RX_b (fun a G Q _ h => rk_14007_0 (fun q => absurd q (by decide +kernel)) (fun q => absurd q (by decide +kernel)) (fun q => absurd q (by decide +kernel)) (fun q => absurd q (by decide +kernel)) (fun q => absurd q (by decide +kernel)) (fun q => absurd q (by decide +kernel)) (fun q => absurd q (by decide +kernel)) (fun q => absurd q (by decide +kernel)) (fun q => absurd q (by decide +kernel)) (fun q => absurd q (by decide +kernel)) (fun q => absurd q (by decide +kernel)) (fun q => absurd q (by decide +kernel)) (fun q => absurd q (by decide +kernel)) (fun q => absurd q (by decide +kernel)) (fun q => absurd q (by decide +kernel)) (fun _ => h) (fun q => absurd q (by decide +kernel)) (fun q => absurd q (by decide +kernel)) (fun q => absurd q (by decide +kernel)) (fun q => absurd q (by decide +kernel)) (fun q => absurd q (by decide +kernel)) (fun q => absurd q (by decide +kernel)) (fun q => absurd q (by decide +kernel)) (fun q => absurd q (by decide +kernel)) (fun _ _ _ _ _ _ _ _ _ _ _ _ _ _ _ q _ _ _ _ _ _ _ _ => absurd rfl q)) ?_
    refine RX_b (fun a G Q _ h => rk_14007_325 h) ?_
    refine RX_c r0 (fun a G Q T _ h hk => rc_14007_329 h hk) ?_
    refine RX_b (fun a G Q _ h => rk_14007_332 h) ?_
    refine RX_c r1 (fun a G Q T _ h hk => rc_14007_336 h hk) ?_
    refine RX_b (fun a G Q _ h => rk_14007_339 h) ?_
    exact RX_e (fun a G Q h => rk_14007_457 h) ⟨rfl, rfl⟩
  obtain ⟨o, H', ⟨rfl, rfl⟩, h2⟩ := RX_v h
  exact ⟨_, OB_m g1 (by omega), h2⟩
theorem tl_16_0 : tyl (8893257403693073532 : Int64) byl = [123, 107, 50, 125, 123, 61, 100, 124] := by decide +kernel
theorem tl_16_1 : tyl (110159426435965 : Int64) byl = [100, 48, 125, 123, 59, 125] := by decide +kernel
theorem t_pat_16 (hd : 1200 ≤ d) (hs : OB k s H) : ∃ H', OB (k + 24) (tyw (lp_t.getD 16 []) s) H' ∧ RV (d + 3) 14007 [some (.inl (nI 16))] (.inl none) H H' := by
  obtain ⟨H1, g0, r0⟩ := t_types (y := (8893257403693073532 : Int64)) hd hs
  obtain ⟨H2, g1, r1⟩ := t_types (y := (110159426435965 : Int64)) hd g0
  rw [tl_16_1] at g1
  rw [tl_16_0] at g1
  have e : lp_t.getD 16 [] = [123, 107, 50, 125, 123, 61, 100, 124] ++ [100, 48, 125, 123, 59, 125] := by rfl
  rw [e]
  rw [tyw_a]
  have h : RX (d + 3) 14007 0 (fun a => [some (.inr (.inr a)), some (.inl (nI 16))]) (fun _ => []) H (fun o G => o = .inl none ∧ G = H2) := by
    refine RX_b (fun a G Q _ h => rk_14007_0 (fun q => absurd q (by decide +kernel)) (fun q => absurd q (by decide +kernel)) (fun q => absurd q (by decide +kernel)) (fun q => absurd q (by decide +kernel)) (fun q => absurd q (by decide +kernel)) (fun q => absurd q (by decide +kernel)) (fun q => absurd q (by decide +kernel)) (fun q => absurd q (by decide +kernel)) (fun q => absurd q (by decide +kernel)) (fun q => absurd q (by decide +kernel)) (fun q => absurd q (by decide +kernel)) (fun q => absurd q (by decide +kernel)) (fun q => absurd q (by decide +kernel)) (fun q => absurd q (by decide +kernel)) (fun q => absurd q (by decide +kernel)) (fun q => absurd q (by decide +kernel)) (fun _ => h) (fun q => absurd q (by decide +kernel)) (fun q => absurd q (by decide +kernel)) (fun q => absurd q (by decide +kernel)) (fun q => absurd q (by decide +kernel)) (fun q => absurd q (by decide +kernel)) (fun q => absurd q (by decide +kernel)) (fun q => absurd q (by decide +kernel)) (fun _ _ _ _ _ _ _ _ _ _ _ _ _ _ _ _ q _ _ _ _ _ _ _ => absurd rfl q)) ?_
    refine RX_b (fun a G Q _ h => rk_14007_342 h) ?_
    refine RX_c r0 (fun a G Q T _ h hk => rc_14007_346 h hk) ?_
    refine RX_b (fun a G Q _ h => rk_14007_349 h) ?_
    refine RX_c r1 (fun a G Q T _ h hk => rc_14007_353 h hk) ?_
    refine RX_b (fun a G Q _ h => rk_14007_356 h) ?_
    exact RX_e (fun a G Q h => rk_14007_457 h) ⟨rfl, rfl⟩
  obtain ⟨o, H', ⟨rfl, rfl⟩, h2⟩ := RX_v h
  exact ⟨_, OB_m g1 (by omega), h2⟩
theorem tl_17_0 : tyl (139505532192 : Int64) byl = [32, 123, 45, 125, 32] := by decide +kernel
theorem t_pat_17 (hd : 1200 ≤ d) (hs : OB k s H) : ∃ H', OB (k + 24) (tyw (lp_t.getD 17 []) s) H' ∧ RV (d + 3) 14007 [some (.inl (nI 17))] (.inl none) H H' := by
  obtain ⟨H1, g0, r0⟩ := t_types (y := (139505532192 : Int64)) hd hs
  rw [tl_17_0] at g0
  have e : lp_t.getD 17 [] = [32, 123, 45, 125, 32] := by rfl
  rw [e]
  have h : RX (d + 3) 14007 0 (fun a => [some (.inr (.inr a)), some (.inl (nI 17))]) (fun _ => []) H (fun o G => o = .inl none ∧ G = H1) := by
    refine RX_b (fun a G Q _ h => rk_14007_0 (fun q => absurd q (by decide +kernel)) (fun q => absurd q (by decide +kernel)) (fun q => absurd q (by decide +kernel)) (fun q => absurd q (by decide +kernel)) (fun q => absurd q (by decide +kernel)) (fun q => absurd q (by decide +kernel)) (fun q => absurd q (by decide +kernel)) (fun q => absurd q (by decide +kernel)) (fun q => absurd q (by decide +kernel)) (fun q => absurd q (by decide +kernel)) (fun q => absurd q (by decide +kernel)) (fun q => absurd q (by decide +kernel)) (fun q => absurd q (by decide +kernel)) (fun q => absurd q (by decide +kernel)) (fun q => absurd q (by decide +kernel)) (fun q => absurd q (by decide +kernel)) (fun q => absurd q (by decide +kernel)) (fun _ => h) (fun q => absurd q (by decide +kernel)) (fun q => absurd q (by decide +kernel)) (fun q => absurd q (by decide +kernel)) (fun q => absurd q (by decide +kernel)) (fun q => absurd q (by decide +kernel)) (fun q => absurd q (by decide +kernel)) (fun _ _ _ _ _ _ _ _ _ _ _ _ _ _ _ _ _ q _ _ _ _ _ _ => absurd rfl q)) ?_
    refine RX_b (fun a G Q _ h => rk_14007_359 h) ?_
    refine RX_c r0 (fun a G Q T _ h hk => rc_14007_363 h hk) ?_
    refine RX_b (fun a G Q _ h => rk_14007_366 h) ?_
    exact RX_e (fun a G Q h => rk_14007_457 h) ⟨rfl, rfl⟩
  obtain ⟨o, H', ⟨rfl, rfl⟩, h2⟩ := RX_v h
  exact ⟨_, OB_m g0 (by omega), h2⟩
theorem tl_18_0 : tyl (530230280573 : Int64) byl = [123, 116, 48, 97, 125] := by decide +kernel
theorem t_pat_18 (hd : 1200 ≤ d) (hs : OB k s H) : ∃ H', OB (k + 24) (tyw (lp_t.getD 18 []) s) H' ∧ RV (d + 3) 14007 [some (.inl (nI 18))] (.inl none) H H' := by
  obtain ⟨H1, g0, r0⟩ := t_types (y := (530230280573 : Int64)) hd hs
  rw [tl_18_0] at g0
  have e : lp_t.getD 18 [] = [123, 116, 48, 97, 125] := by rfl
  rw [e]
  have h : RX (d + 3) 14007 0 (fun a => [some (.inr (.inr a)), some (.inl (nI 18))]) (fun _ => []) H (fun o G => o = .inl none ∧ G = H1) := by
    refine RX_b (fun a G Q _ h => rk_14007_0 (fun q => absurd q (by decide +kernel)) (fun q => absurd q (by decide +kernel)) (fun q => absurd q (by decide +kernel)) (fun q => absurd q (by decide +kernel)) (fun q => absurd q (by decide +kernel)) (fun q => absurd q (by decide +kernel)) (fun q => absurd q (by decide +kernel)) (fun q => absurd q (by decide +kernel)) (fun q => absurd q (by decide +kernel)) (fun q => absurd q (by decide +kernel)) (fun q => absurd q (by decide +kernel)) (fun q => absurd q (by decide +kernel)) (fun q => absurd q (by decide +kernel)) (fun q => absurd q (by decide +kernel)) (fun q => absurd q (by decide +kernel)) (fun q => absurd q (by decide +kernel)) (fun q => absurd q (by decide +kernel)) (fun q => absurd q (by decide +kernel)) (fun _ => h) (fun q => absurd q (by decide +kernel)) (fun q => absurd q (by decide +kernel)) (fun q => absurd q (by decide +kernel)) (fun q => absurd q (by decide +kernel)) (fun q => absurd q (by decide +kernel)) (fun _ _ _ _ _ _ _ _ _ _ _ _ _ _ _ _ _ _ q _ _ _ _ _ => absurd rfl q)) ?_
    refine RX_b (fun a G Q _ h => rk_14007_369 h) ?_
    refine RX_c r0 (fun a G Q T _ h hk => rc_14007_373 h hk) ?_
    refine RX_b (fun a G Q _ h => rk_14007_376 h) ?_
    exact RX_e (fun a G Q h => rk_14007_457 h) ⟨rfl, rfl⟩
  obtain ⟨o, H', ⟨rfl, rfl⟩, h2⟩ := RX_v h
  exact ⟨_, OB_m g0 (by omega), h2⟩
theorem tl_19_0 : tyl (8880819727140338301 : Int64) byl = [123, 63, 98, 125, 62, 123, 58, 125] := by decide +kernel
theorem tl_19_1 : tyl (8880256773814844219 : Int64) byl = [123, 61, 98, 124, 117, 125, 123, 59] := by decide +kernel
theorem tl_19_2 : tyl (125 : Int64) byl = [125] := by decide +kernel
theorem t_pat_19 (hd : 1200 ≤ d) (hs : OB k s H) : ∃ H', OB (k + 24) (tyw (lp_t.getD 19 []) s) H' ∧ RV (d + 3) 14007 [some (.inl (nI 19))] (.inl none) H H' := by
  obtain ⟨H1, g0, r0⟩ := t_types (y := (8880819727140338301 : Int64)) hd hs
  obtain ⟨H2, g1, r1⟩ := t_types (y := (8880256773814844219 : Int64)) hd g0
  obtain ⟨H3, g2, r2⟩ := t_types (y := (125 : Int64)) hd g1
  rw [tl_19_2] at g2
  rw [tl_19_0] at g2
  rw [tl_19_1] at g2
  have e : lp_t.getD 19 [] = [123, 63, 98, 125, 62, 123, 58, 125] ++ [123, 61, 98, 124, 117, 125, 123, 59] ++ [125] := by rfl
  rw [e]
  rw [tyw_a]
  rw [tyw_a]
  have h : RX (d + 3) 14007 0 (fun a => [some (.inr (.inr a)), some (.inl (nI 19))]) (fun _ => []) H (fun o G => o = .inl none ∧ G = H3) := by
    refine RX_b (fun a G Q _ h => rk_14007_0 (fun q => absurd q (by decide +kernel)) (fun q => absurd q (by decide +kernel)) (fun q => absurd q (by decide +kernel)) (fun q => absurd q (by decide +kernel)) (fun q => absurd q (by decide +kernel)) (fun q => absurd q (by decide +kernel)) (fun q => absurd q (by decide +kernel)) (fun q => absurd q (by decide +kernel)) (fun q => absurd q (by decide +kernel)) (fun q => absurd q (by decide +kernel)) (fun q => absurd q (by decide +kernel)) (fun q => absurd q (by decide +kernel)) (fun q => absurd q (by decide +kernel)) (fun q => absurd q (by decide +kernel)) (fun q => absurd q (by decide +kernel)) (fun q => absurd q (by decide +kernel)) (fun q => absurd q (by decide +kernel)) (fun q => absurd q (by decide +kernel)) (fun q => absurd q (by decide +kernel)) (fun _ => h) (fun q => absurd q (by decide +kernel)) (fun q => absurd q (by decide +kernel)) (fun q => absurd q (by decide +kernel)) (fun q => absurd q (by decide +kernel)) (fun _ _ _ _ _ _ _ _ _ _ _ _ _ _ _ _ _ _ _ q _ _ _ _ => absurd rfl q)) ?_
    refine RX_b (fun a G Q _ h => rk_14007_379 h) ?_
    refine RX_c r0 (fun a G Q T _ h hk => rc_14007_383 h hk) ?_
    refine RX_b (fun a G Q _ h => rk_14007_386 h) ?_
    refine RX_c r1 (fun a G Q T _ h hk => rc_14007_390 h hk) ?_
    refine RX_b (fun a G Q _ h => rk_14007_393 h) ?_
    refine RX_c r2 (fun a G Q T _ h hk => rc_14007_397 h hk) ?_
    refine RX_b (fun a G Q _ h => rk_14007_400 h) ?_
    exact RX_e (fun a G Q h => rk_14007_457 h) ⟨rfl, rfl⟩
  obtain ⟨o, H', ⟨rfl, rfl⟩, h2⟩ := RX_v h
  exact ⟨_, OB_m g2 (by omega), h2⟩
theorem tl_20_0 : tyl (4355893603889644157 : Int64) byl = [60, 115, 62, 39, 123, 61, 98, 125] := by decide +kernel
theorem tl_20_1 : tyl (135501981706877 : Int64) byl = [123, 61, 99, 124, 106, 125] := by decide +kernel
theorem t_pat_20 (hd : 1200 ≤ d) (hs : OB k s H) : ∃ H', OB (k + 24) (tyw (lp_t.getD 20 []) s) H' ∧ RV (d + 3) 14007 [some (.inl (nI 20))] (.inl none) H H' := by
  obtain ⟨H1, g0, r0⟩ := t_types (y := (4355893603889644157 : Int64)) hd hs
  obtain ⟨H2, g1, r1⟩ := t_types (y := (135501981706877 : Int64)) hd g0
  rw [tl_20_1] at g1
  rw [tl_20_0] at g1
  have e : lp_t.getD 20 [] = [60, 115, 62, 39, 123, 61, 98, 125] ++ [123, 61, 99, 124, 106, 125] := by rfl
  rw [e]
  rw [tyw_a]
  have h : RX (d + 3) 14007 0 (fun a => [some (.inr (.inr a)), some (.inl (nI 20))]) (fun _ => []) H (fun o G => o = .inl none ∧ G = H2) := by
    refine RX_b (fun a G Q _ h => rk_14007_0 (fun q => absurd q (by decide +kernel)) (fun q => absurd q (by decide +kernel)) (fun q => absurd q (by decide +kernel)) (fun q => absurd q (by decide +kernel)) (fun q => absurd q (by decide +kernel)) (fun q => absurd q (by decide +kernel)) (fun q => absurd q (by decide +kernel)) (fun q => absurd q (by decide +kernel)) (fun q => absurd q (by decide +kernel)) (fun q => absurd q (by decide +kernel)) (fun q => absurd q (by decide +kernel)) (fun q => absurd q (by decide +kernel)) (fun q => absurd q (by decide +kernel)) (fun q => absurd q (by decide +kernel)) (fun q => absurd q (by decide +kernel)) (fun q => absurd q (by decide +kernel)) (fun q => absurd q (by decide +kernel)) (fun q => absurd q (by decide +kernel)) (fun q => absurd q (by decide +kernel)) (fun q => absurd q (by decide +kernel)) (fun _ => h) (fun q => absurd q (by decide +kernel)) (fun q => absurd q (by decide +kernel)) (fun q => absurd q (by decide +kernel)) (fun _ _ _ _ _ _ _ _ _ _ _ _ _ _ _ _ _ _ _ _ q _ _ _ => absurd rfl q)) ?_
    refine RX_b (fun a G Q _ h => rk_14007_403 h) ?_
    refine RX_c r0 (fun a G Q T _ h hk => rc_14007_407 h hk) ?_
    refine RX_b (fun a G Q _ h => rk_14007_410 h) ?_
    refine RX_c r1 (fun a G Q T _ h hk => rc_14007_414 h hk) ?_
    refine RX_b (fun a G Q _ h => rk_14007_417 h) ?_
    exact RX_e (fun a G Q h => rk_14007_457 h) ⟨rfl, rfl⟩
  obtain ⟨o, H', ⟨rfl, rfl⟩, h2⟩ := RX_v h
  exact ⟨_, OB_m g1 (by omega), h2⟩
theorem tl_21_0 : tyl (8093309 : Int64) byl = [123, 126, 125] := by decide +kernel
theorem t_pat_21 (hd : 1200 ≤ d) (hs : OB k s H) : ∃ H', OB (k + 24) (tyw (lp_t.getD 21 []) s) H' ∧ RV (d + 3) 14007 [some (.inl (nI 21))] (.inl none) H H' := by
  obtain ⟨H1, g0, r0⟩ := t_types (y := (8093309 : Int64)) hd hs
  rw [tl_21_0] at g0
  have e : lp_t.getD 21 [] = [123, 126, 125] := by rfl
  rw [e]
  have h : RX (d + 3) 14007 0 (fun a => [some (.inr (.inr a)), some (.inl (nI 21))]) (fun _ => []) H (fun o G => o = .inl none ∧ G = H1) := by
    refine RX_b (fun a G Q _ h => rk_14007_0 (fun q => absurd q (by decide +kernel)) (fun q => absurd q (by decide +kernel)) (fun q => absurd q (by decide +kernel)) (fun q => absurd q (by decide +kernel)) (fun q => absurd q (by decide +kernel)) (fun q => absurd q (by decide +kernel)) (fun q => absurd q (by decide +kernel)) (fun q => absurd q (by decide +kernel)) (fun q => absurd q (by decide +kernel)) (fun q => absurd q (by decide +kernel)) (fun q => absurd q (by decide +kernel)) (fun q => absurd q (by decide +kernel)) (fun q => absurd q (by decide +kernel)) (fun q => absurd q (by decide +kernel)) (fun q => absurd q (by decide +kernel)) (fun q => absurd q (by decide +kernel)) (fun q => absurd q (by decide +kernel)) (fun q => absurd q (by decide +kernel)) (fun q => absurd q (by decide +kernel)) (fun q => absurd q (by decide +kernel)) (fun q => absurd q (by decide +kernel)) (fun _ => h) (fun q => absurd q (by decide +kernel)) (fun q => absurd q (by decide +kernel)) (fun _ _ _ _ _ _ _ _ _ _ _ _ _ _ _ _ _ _ _ _ _ q _ _ => absurd rfl q)) ?_
    refine RX_b (fun a G Q _ h => rk_14007_420 h) ?_
    refine RX_c r0 (fun a G Q T _ h hk => rc_14007_424 h hk) ?_
    refine RX_b (fun a G Q _ h => rk_14007_427 h) ?_
    exact RX_e (fun a G Q h => rk_14007_457 h) ⟨rfl, rfl⟩
  obtain ⟨o, H', ⟨rfl, rfl⟩, h2⟩ := RX_v h
  exact ⟨_, OB_m g0 (by omega), h2⟩
theorem tl_22_0 : tyl (135501976580477 : Int64) byl = [123, 61, 99, 46, 49, 125] := by decide +kernel
theorem t_pat_22 (hd : 1200 ≤ d) (hs : OB k s H) : ∃ H', OB (k + 24) (tyw (lp_t.getD 22 []) s) H' ∧ RV (d + 3) 14007 [some (.inl (nI 22))] (.inl none) H H' := by
  obtain ⟨H1, g0, r0⟩ := t_types (y := (135501976580477 : Int64)) hd hs
  rw [tl_22_0] at g0
  have e : lp_t.getD 22 [] = [123, 61, 99, 46, 49, 125] := by rfl
  rw [e]
  have h : RX (d + 3) 14007 0 (fun a => [some (.inr (.inr a)), some (.inl (nI 22))]) (fun _ => []) H (fun o G => o = .inl none ∧ G = H1) := by
    refine RX_b (fun a G Q _ h => rk_14007_0 (fun q => absurd q (by decide +kernel)) (fun q => absurd q (by decide +kernel)) (fun q => absurd q (by decide +kernel)) (fun q => absurd q (by decide +kernel)) (fun q => absurd q (by decide +kernel)) (fun q => absurd q (by decide +kernel)) (fun q => absurd q (by decide +kernel)) (fun q => absurd q (by decide +kernel)) (fun q => absurd q (by decide +kernel)) (fun q => absurd q (by decide +kernel)) (fun q => absurd q (by decide +kernel)) (fun q => absurd q (by decide +kernel)) (fun q => absurd q (by decide +kernel)) (fun q => absurd q (by decide +kernel)) (fun q => absurd q (by decide +kernel)) (fun q => absurd q (by decide +kernel)) (fun q => absurd q (by decide +kernel)) (fun q => absurd q (by decide +kernel)) (fun q => absurd q (by decide +kernel)) (fun q => absurd q (by decide +kernel)) (fun q => absurd q (by decide +kernel)) (fun q => absurd q (by decide +kernel)) (fun _ => h) (fun q => absurd q (by decide +kernel)) (fun _ _ _ _ _ _ _ _ _ _ _ _ _ _ _ _ _ _ _ _ _ _ q _ => absurd rfl q)) ?_
    refine RX_b (fun a G Q _ h => rk_14007_430 h) ?_
    refine RX_c r0 (fun a G Q T _ h hk => rc_14007_434 h hk) ?_
    refine RX_b (fun a G Q _ h => rk_14007_437 h) ?_
    exact RX_e (fun a G Q h => rk_14007_457 h) ⟨rfl, rfl⟩
  obtain ⟨o, H', ⟨rfl, rfl⟩, h2⟩ := RX_v h
  exact ⟨_, OB_m g0 (by omega), h2⟩
theorem tl_23_0 : tyl (10046 : Int64) byl = [39, 62] := by decide +kernel
theorem t_pat_23 (hd : 1200 ≤ d) (hs : OB k s H) : ∃ H', OB (k + 24) (tyw (lp_t.getD 23 []) s) H' ∧ RV (d + 3) 14007 [some (.inl (nI 23))] (.inl none) H H' := by
  obtain ⟨H1, g0, r0⟩ := t_types (y := (10046 : Int64)) hd hs
  rw [tl_23_0] at g0
  have e : lp_t.getD 23 [] = [39, 62] := by rfl
  rw [e]
  have h : RX (d + 3) 14007 0 (fun a => [some (.inr (.inr a)), some (.inl (nI 23))]) (fun _ => []) H (fun o G => o = .inl none ∧ G = H1) := by
    refine RX_b (fun a G Q _ h => rk_14007_0 (fun q => absurd q (by decide +kernel)) (fun q => absurd q (by decide +kernel)) (fun q => absurd q (by decide +kernel)) (fun q => absurd q (by decide +kernel)) (fun q => absurd q (by decide +kernel)) (fun q => absurd q (by decide +kernel)) (fun q => absurd q (by decide +kernel)) (fun q => absurd q (by decide +kernel)) (fun q => absurd q (by decide +kernel)) (fun q => absurd q (by decide +kernel)) (fun q => absurd q (by decide +kernel)) (fun q => absurd q (by decide +kernel)) (fun q => absurd q (by decide +kernel)) (fun q => absurd q (by decide +kernel)) (fun q => absurd q (by decide +kernel)) (fun q => absurd q (by decide +kernel)) (fun q => absurd q (by decide +kernel)) (fun q => absurd q (by decide +kernel)) (fun q => absurd q (by decide +kernel)) (fun q => absurd q (by decide +kernel)) (fun q => absurd q (by decide +kernel)) (fun q => absurd q (by decide +kernel)) (fun q => absurd q (by decide +kernel)) (fun _ => h) (fun _ _ _ _ _ _ _ _ _ _ _ _ _ _ _ _ _ _ _ _ _ _ _ q => absurd rfl q)) ?_
    refine RX_b (fun a G Q _ h => rk_14007_440 h) ?_
    refine RX_c r0 (fun a G Q T _ h hk => rc_14007_444 h hk) ?_
    refine RX_b (fun a G Q _ h => rk_14007_447 h) ?_
    exact RX_e (fun a G Q h => rk_14007_457 h) ⟨rfl, rfl⟩
  obtain ⟨o, H', ⟨rfl, rfl⟩, h2⟩ := RX_v h
  exact ⟨_, OB_m g0 (by omega), h2⟩
theorem t_pat_24 (hd : 1200 ≤ d) (hs : OB k s H) : ∃ H', OB (k + 24) (tyw (lp_t.getD 24 []) s) H' ∧ RV (d + 3) 14007 [some (.inl (nI 24))] (.inl none) H H' := by
  obtain ⟨v, H1, g0, r0⟩ := t_type (d := d + 1) (x := (Int8.ofInt (120)).toInt32) (by omega) hs
  have h : RX (d + 3) 14007 0 (fun a => [some (.inr (.inr a)), some (.inl (nI 24))]) (fun _ => []) H (fun o G => o = .inl none ∧ G = H1) := by
    refine RX_b (fun a G Q _ h => rk_14007_0 (fun q => absurd q (by decide +kernel)) (fun q => absurd q (by decide +kernel)) (fun q => absurd q (by decide +kernel)) (fun q => absurd q (by decide +kernel)) (fun q => absurd q (by decide +kernel)) (fun q => absurd q (by decide +kernel)) (fun q => absurd q (by decide +kernel)) (fun q => absurd q (by decide +kernel)) (fun q => absurd q (by decide +kernel)) (fun q => absurd q (by decide +kernel)) (fun q => absurd q (by decide +kernel)) (fun q => absurd q (by decide +kernel)) (fun q => absurd q (by decide +kernel)) (fun q => absurd q (by decide +kernel)) (fun q => absurd q (by decide +kernel)) (fun q => absurd q (by decide +kernel)) (fun q => absurd q (by decide +kernel)) (fun q => absurd q (by decide +kernel)) (fun q => absurd q (by decide +kernel)) (fun q => absurd q (by decide +kernel)) (fun q => absurd q (by decide +kernel)) (fun q => absurd q (by decide +kernel)) (fun q => absurd q (by decide +kernel)) (fun q => absurd q (by decide +kernel)) (fun _ _ _ _ _ _ _ _ _ _ _ _ _ _ _ _ _ _ _ _ _ _ _ _ => h)) ?_
    refine RX_b (fun a G Q _ h => rk_14007_450 h) ?_
    refine RX_c r0 (fun a G Q T _ h hk => rc_14007_453 (R := fun v' G1 => v = v' ∧ T G1) (rc_i h) (fun v' G1 hR => by
      obtain ⟨rfl, hT⟩ := hR
      exact hk G1 hT)) ?_
    refine RX_b (fun a G Q _ h => rk_14007_456 h) ?_
    exact RX_e (fun a G Q h => rk_14007_457 h) ⟨rfl, rfl⟩
  obtain ⟨o, H', ⟨rfl, rfl⟩, h2⟩ := RX_v h
  have e : i2n (Int8.ofInt (120)).toInt32 = 120 := by decide +kernel
  rw [e] at g0
  exact ⟨_, OB_m g0 (by omega), h2⟩
theorem t_pat {i : Nat} (hi : i < 25) (hd : 1200 ≤ d) (hs : OB k s H) : ∃ H', OB (k + 24) (tyw (lp_t.getD i []) s) H' ∧ RV (d + 3) 14007 [some (.inl (nI i))] (.inl none) H H' := by
  have hi' : i = 0 ∨ i = 1 ∨ i = 2 ∨ i = 3 ∨ i = 4 ∨ i = 5 ∨ i = 6 ∨ i = 7 ∨ i = 8 ∨ i = 9 ∨ i = 10 ∨ i = 11 ∨ i = 12 ∨ i = 13 ∨ i = 14 ∨ i = 15 ∨ i = 16 ∨ i = 17 ∨ i = 18 ∨ i = 19 ∨ i = 20 ∨ i = 21 ∨ i = 22 ∨ i = 23 ∨ i = 24 := by omega
  rcases hi' with rfl | rfl | rfl | rfl | rfl | rfl | rfl | rfl | rfl | rfl | rfl | rfl | rfl | rfl | rfl | rfl | rfl | rfl | rfl | rfl | rfl | rfl | rfl | rfl | rfl
  · exact t_pat_0 hd hs
  · exact t_pat_1 hd hs
  · exact t_pat_2 hd hs
  · exact t_pat_3 hd hs
  · exact t_pat_4 hd hs
  · exact t_pat_5 hd hs
  · exact t_pat_6 hd hs
  · exact t_pat_7 hd hs
  · exact t_pat_8 hd hs
  · exact t_pat_9 hd hs
  · exact t_pat_10 hd hs
  · exact t_pat_11 hd hs
  · exact t_pat_12 hd hs
  · exact t_pat_13 hd hs
  · exact t_pat_14 hd hs
  · exact t_pat_15 hd hs
  · exact t_pat_16 hd hs
  · exact t_pat_17 hd hs
  · exact t_pat_18 hd hs
  · exact t_pat_19 hd hs
  · exact t_pat_20 hd hs
  · exact t_pat_21 hd hs
  · exact t_pat_22 hd hs
  · exact t_pat_23 hd hs
  · exact t_pat_24 hd hs
end H05
