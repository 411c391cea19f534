/-! WHERE CHARACTERS COME FROM, and why a rendering fails -/
/-- the source of a cell: a template and a place -/
def sg (z : Nat) : Prop := ∃ T p, T < 10 ∧ p < 80 ∧ z / 262144 = 100 * T + p
def OS (o : ost) : Prop := ∀ i, i < o_n o → sg (o_c o i)
def FS (FG : Nat → kfr) : Prop := ∀ i, i < 10 → k_is (FG i) = true → ∀ j, j < k_n (FG i) → sg (k_c (FG i) j)
/-- none, or one of nine reasons -/
def er (e : Int32) : Prop := e = nI 0 ∨ e = Int32.ofInt (-2) ∨ e = Int32.ofInt (-3) ∨ e = Int32.ofInt (-4) ∨ e = Int32.ofInt (-5) ∨ e = Int32.ofInt (-6) ∨ e = Int32.ofInt (-7) ∨ e = Int32.ofInt (-8) ∨ e = Int32.ofInt (-9) ∨ e = Int32.ofInt (-10)
theorem er_0 : er (nI 0) := Or.inl rfl
theorem er_2 : er (Int32.ofInt (-2)) := Or.inr (Or.inl rfl)
theorem er_3 : er (Int32.ofInt (-3)) := Or.inr (Or.inr (Or.inl rfl))
theorem er_4 : er (Int32.ofInt (-4)) := Or.inr (Or.inr (Or.inr (Or.inl rfl)))
theorem er_5 : er (Int32.ofInt (-5)) := Or.inr (Or.inr (Or.inr (Or.inr (Or.inl rfl))))
theorem er_6 : er (Int32.ofInt (-6)) := Or.inr (Or.inr (Or.inr (Or.inr (Or.inr (Or.inl rfl)))))
theorem er_7 : er (Int32.ofInt (-7)) := Or.inr (Or.inr (Or.inr (Or.inr (Or.inr (Or.inr (Or.inl rfl))))))
theorem er_8 : er (Int32.ofInt (-8)) := Or.inr (Or.inr (Or.inr (Or.inr (Or.inr (Or.inr (Or.inr (Or.inl rfl)))))))
theorem er_9 : er (Int32.ofInt (-9)) := Or.inr (Or.inr (Or.inr (Or.inr (Or.inr (Or.inr (Or.inr (Or.inr (Or.inl rfl))))))))
theorem er_10 : er (Int32.ofInt (-10)) := Or.inr (Or.inr (Or.inr (Or.inr (Or.inr (Or.inr (Or.inr (Or.inr (Or.inr rfl))))))))
section F02
variable {u : wo} {o : ost} {D : Nat → rv} {I : Nat → Nat → rv} {B : Nat → Nat} {V : Nat → Nat → Option rv} {M : Nat} {S : Nat → Nat} {x : Nat} {G0 : mj_G} {v w : rv} {c k : Nat}
theorem er_it : er (rv_it I v k).1 := by
  unfold rv_it
  by_cases h1 : rv_t v = 3
  · rw [if_pos h1]
    by_cases h2 : k < rv_l v
    · rw [if_pos h2]; exact er_0
    · rw [if_neg h2]; exact er_4
  · rw [if_neg h1]; exact er_3
theorem er_fi : er (rv_fi I c v).1 := by
  unfold rv_fi
  by_cases h1 : c = 106
  · rw [if_pos h1]
    by_cases h2 : rv_t v = 3
    · rw [if_pos h2]
      by_cases h3 : (jn I (rv_d v) (rv_l v)).1 ≤ 300
      · rw [if_pos h3]; exact er_0
      · rw [if_neg h3]; exact er_10
    · rw [if_neg h2]; exact er_3
  rw [if_neg h1]
  by_cases h2 : c = 108
  · rw [if_pos h2]
    by_cases h3 : 2 ≤ rv_t v
    · rw [if_pos h3]; exact er_0
    · rw [if_neg h3]; exact er_3
  rw [if_neg h2]
  by_cases h3 : rv_t v = 2
  · rw [if_pos h3]
    by_cases h4 : c = 117
    · rw [if_pos h4]; exact er_0
    rw [if_neg h4]
    by_cases h5 : c = 114
    · rw [if_pos h5]; exact er_0
    · rw [if_neg h5]; exact er_0
  · rw [if_neg h3]; exact er_3
theorem er_op : er (rv_op I c v w).1 := by
  unfold rv_op
  by_cases h1 : c = 38
  · rw [if_pos h1]; exact er_0
  rw [if_neg h1]
  by_cases h2 : c = 61
  · rw [if_pos h2]; exact er_0
  rw [if_neg h2]
  by_cases h3 : rv_t v = 1 ∧ rv_t w = 1
  · rw [if_pos h3]
    by_cases h4 : c = 60
    · rw [if_pos h4]; exact er_0
    rw [if_neg h4]
    by_cases h5 : lg_cmp (rv_ar c (rv_n v) (rv_n w)) (rv_ar c (rv_n v) (rv_n w)).toInt32.toInt64 = nI 0
    · rw [if_pos h5]; exact er_0
    · rw [if_neg h5]; exact er_5
  rw [if_neg h3]
  by_cases h4 : rv_t v = 2 ∧ rv_t w = 2
  · rw [if_pos h4]
    by_cases h5 : c = 43
    · rw [if_pos h5]
      by_cases h6 : rv_l v + rv_l w ≤ 300
      · rw [if_pos h6]; exact er_0
      · rw [if_neg h6]; exact er_10
    rw [if_neg h5]
    by_cases h6 : c = 60
    · rw [if_pos h6]; exact er_0
    · rw [if_neg h6]; exact er_3
  · rw [if_neg h4]; exact er_3
theorem FN_er : ∀ {n r : Nat} {ra rd : Nat → Int32} {e : Int32} {v : rv} {ra1 rd1 : Nat → Int32}, FN D I B V M S x G0 n r ra rd e v ra1 rd1 → er e
  | 0, _, _, _, _, _, _, _, h => h.elim
  | n + 1, r, ra, rd, e, v, ra1, rd1, h => by
    rcases h with ⟨k2, rfl, rfl, rfl, rfl⟩ | ⟨k2, rfl, rfl, rfl, rfl⟩ | ⟨k2, l2, m1, m2, rfl, rfl, rfl, rfl⟩ | ⟨k2, l2, m2, m1, m3, m4, m5, rfl, rfl, rfl, rfl⟩ | ⟨k2, v2, h2, rfl⟩ | ⟨c2, e2, v2, k2, hc2, h2, q2⟩ | ⟨k2, e2, v2, ra2, rd2, h2, q2⟩ | ⟨c2, e2, v2, ra2, rd2, k2, hc2, h2, q2⟩
    · exact er_0
    · exact er_0
    · exact er_0
    · exact er_it
    · exact FN_er h2
    · rcases q2 with ⟨-, rfl, -⟩ | ⟨-, rfl, -⟩
      · exact er_fi
      · exact FN_er h2
    · rcases q2 with ⟨-, -, h3⟩ | ⟨-, -, rfl, -⟩ | ⟨-, rfl, -⟩
      · exact FN_er h3
      · exact er_0
      · exact FN_er h2
    · rcases q2 with ⟨-, rfl, -⟩ | ⟨-, -, rfl, -⟩ | ⟨-, -, e3, v3, h3, h4⟩
      · exact FN_er h2
      · exact er_0
      · rcases h4 with ⟨-, rfl, -⟩ | ⟨-, rfl, -⟩
        · exact FN_er h3
        · by_cases q : c2 = 63
          · rw [if_pos q]; exact er_0
          · rw [if_neg q]; exact er_op
theorem FE_er {N r : Nat} {ra rd : Nat → Int32} {e : Int32} {v : rv} {ra1 rd1 : Nat → Int32} (h : FE u N B M S V r ra rd e v ra1 rd1) : er e := by
  obtain ⟨n, h⟩ := h
  exact FN_er h
theorem AGk_er {N m2 : Nat} {lt : Nat → Nat} : ∀ {n r j un : Nat} {ga : Nat → Nat} {av : Nat → rv} {ra rd : Nat → Int32} {e : Int32} {ga' : Nat → Nat} {av' : Nat → rv} {ra' rd' : Nat → Int32}, AGk u N B M S V m2 lt n r j un ga av ra rd e ga' av' ra' rd' → er e
  | 0, _, _, _, _, _, _, _, _, _, _, _, _, h => h.elim
  | n + 1, r, j, un, ga, av, ra, rd, e, ga', av', ra', rd', h => by
    rcases h with ⟨-, rfl, -⟩ | ⟨-, e1, v, ra1, rd1, h1, h2⟩
    · exact er_0
    · rcases h2 with ⟨-, rfl, -⟩ | ⟨-, pl, un', -, h3⟩
      · exact FE_er h1
      · rcases h3 with ⟨-, rfl, -⟩ | ⟨-, h4⟩
        · exact er_6
        · exact AGk_er h4
theorem DFk_er {N m2 : Nat} {lt y : Nat → Nat} : ∀ {n i : Nat} {g : Nat → Option rv} {ra rd : Nat → Int32} {e : Int32} {g' : Nat → Option rv} {ra' rd' : Nat → Int32}, DFk u N B M S V m2 lt y n i g ra rd e g' ra' rd' → er e
  | 0, _, _, _, _, _, _, _, _, h => h.elim
  | n + 1, i, g, ra, rd, e, g', ra', rd', h => by
    rcases h with ⟨-, rfl, -⟩ | ⟨-, h⟩
    · exact er_0
    · rcases h with ⟨v, -, h⟩ | ⟨-, -, h⟩ | ⟨-, -, e1, v, ra1, rd1, h1, h2⟩
      · exact DFk_er h
      · exact DFk_er h
      · rcases h2 with ⟨-, rfl, -⟩ | ⟨-, h3⟩
        · exact FE_er h1
        · exact DFk_er h3
theorem OI_er {r N lc op : Nat} {ln : Nat → Nat} {ch : List en} {ra rd : Nat → Int32} {sp : Nat → Bool} {e : Int32} {ra' rd' : Nat → Int32} {sp' : Nat → Bool} (h : OI u r N B M S lc ln op ch V ra rd sp e ra' rd' sp') : er e := by
  rcases h with ⟨g, k0, -, a2, -⟩ | ⟨T, p, -, -, -, rfl, -⟩ | ⟨T, p, tg, -, -, -, -, rfl, -⟩ | ⟨T, p, -, a2, -⟩ | ⟨T, p, c1, gg, -, -, -, -, -, rfl, -⟩ | ⟨c1, rm, m2, T2, y, a, e1, g', ⟨-, e2, ga, av, ra1, rd1, ⟨n1, a1⟩, a2⟩, -, rfl, -⟩
  · rcases a2 with ⟨-, rfl⟩ | ⟨-, -, rfl⟩
    · exact er_7
    · exact er_8
  · exact er_7
  · exact er_8
  · rcases a2 with ⟨-, rfl⟩ | ⟨-, -, rfl⟩
    · exact er_0
    · exact er_8
  · exact er_6
  · by_cases q : e1 = nI 0
    · rw [if_pos q]; exact er_8
    · rw [if_neg q]
      rcases a2 with ⟨-, rfl, -⟩ | ⟨-, n2, a3⟩
      · exact AGk_er a1
      · exact DFk_er a3
theorem OS_pc {C : Nat → Nat} : ∀ {m i : Nat} {o : ost}, OS o → (∀ j, i ≤ j → j < i + m → sg (C j)) → OS (o_pc C m i o).2 ∧ er (o_pc C m i o).1
  | 0, _, _, h, _ => ⟨h, er_0⟩
  | m + 1, i, o, h, hC => by
    by_cases q : o_n o = 300
    · rw [o_pc_f q]
      exact ⟨h, er_10⟩
    · rw [o_pc_s q]
      refine OS_pc (fun j hj => ?_) (fun j h1 h2 => hC j (by omega) (by omega))
      have hj' : j < o_n o + 1 := hj
      show sg (if j = o_n o then C i else o_c o j)
      by_cases t : j = o_n o
      · rw [if_pos t]
        exact hC i (Nat.le_refl i) (by omega)
      · rw [if_neg t]
        exact h j (by omega)
theorem sg_S {T p : Nat} (hT : T < 10) (hp : p < 80) (hc : c < 128) : sg (oc_S c (100 * T + p)) := ⟨T, p, hT, hp, by unfold oc_S; omega⟩
theorem sg_L {T p : Nat} (hT : T < 10) (hp : p < 80) (hc : c < 128) : sg (oc_L c (100 * T + p)) := ⟨T, p, hT, hp, by unfold oc_L; omega⟩
theorem sg_E {T p y j : Nat} (hT : T < 10) (hp : p < 80) (hc : c < 128) (hy : y < 128) (hj : j < 3) : sg (oc_E c y j (100 * T + p)) := ⟨T, p, hT, hp, by unfold oc_E; omega⟩
theorem OS_sf {T p m i : Nat} {C : Nat → Nat} (hT : T < 10) (hp : p < 80) (h : OS o) (hC : ∀ j, i ≤ j → j < i + m → C j < 128) : OS (o_sf (100 * T + p) C m i o).2 ∧ er (o_sf (100 * T + p) C m i o).1 := by
  rw [o_sf_pc]
  exact OS_pc h (fun j h1 h2 => sg_S hT hp (hC j h1 h2))
theorem es_h128_all : ((List.range 8).all fun a => (List.range 127).all fun c => (List.range 3).all fun j => Nat.blt (es_h a c j) 128) = true := by decide +kernel
theorem es_h128 {a j : Nat} (ha : a < 8) (hc : c < 127) (hj : j < 3) : es_h a c j < 128 := by
  have h := List.all_eq_true.mp (List.all_eq_true.mp (List.all_eq_true.mp es_h128_all a (List.mem_range.mpr ha)) c (List.mem_range.mpr hc)) j (List.mem_range.mpr hj)
  exact Nat.blt_eq.mp h
theorem OS_es {T p : Nat} {C : Nat → Nat} (hT : T < 10) (hp : p < 80) : ∀ {m i : Nat} {o : ost}, OS o → OX o → (∀ j, j < m → C (i + j) < 127) → OS (o_es (100 * T + p) C m i o).2 ∧ er (o_es (100 * T + p) C m i o).1
  | 0, _, _, h, _, _ => ⟨h, er_0⟩
  | m + 1, i, o, h, hO, hC => by
    have hx : o_x o (o_n o) < 8 := OX_8 hO _ (Nat.le_refl _)
    have hc : C i < 127 := hC 0 (Nat.succ_pos m)
    have h3 := es_k3 hx (c := C i) (by omega)
    have one : OS (o_e1 (100 * T + p) (C i) (o_x o (o_n o)) (es_k (o_x o (o_n o)) (C i)) 0 o).2 ∧ er (o_e1 (100 * T + p) (C i) (o_x o (o_n o)) (es_k (o_x o (o_n o)) (C i)) 0 o).1 := by
      rw [o_e1_pc]
      exact OS_pc h (fun j _ hj => sg_E hT hp (es_h128 hx hc (by omega)) (by omega) (by omega))
    unfold o_es
    by_cases q : (o_e1 (100 * T + p) (C i) (o_x o (o_n o)) (es_k (o_x o (o_n o)) (C i)) 0 o).1 = nI 0
    · rw [if_pos q]
      exact OS_es hT hp one.1 (OX_e1 hO) (fun j hj => by
        have := hC (j + 1) (by omega)
        rw [show i + 1 + j = i + (j + 1) by omega]
        exact this)
    · rw [if_neg q]
      exact one
theorem OS_v {T p : Nat} (hT : T < 10) (hp : p < 80) (h : OS o) (hO : OX o) (hv : rv_ok v) : OS (o_v (100 * T + p) v o).2 ∧ er (o_v (100 * T + p) v o).1 := by
  unfold o_v
  by_cases q0 : rv_t v = 0
  · rw [if_pos q0]; exact ⟨h, er_2⟩
  rw [if_neg q0]
  by_cases q3 : rv_t v = 3
  · rw [if_pos q3]; exact ⟨h, er_3⟩
  rw [if_neg q3]
  by_cases q1 : rv_t v = 1
  · rw [if_pos q1]
    exact OS_sf hT hp h (fun j _ _ => by have := dg_cb (rv_n v) j; omega)
  rw [if_neg q1]
  have h2 : rv_t v = 2 := by
    have := hv.1
    omega
  obtain ⟨-, hc⟩ := hv.2.2.2.1 h2
  by_cases qs : rv_s v = true
  · rw [if_pos qs]
    exact OS_sf hT hp h (fun j _ hj => by have := hc j (by omega); omega)
  · rw [if_neg qs]
    exact OS_es hT hp h hO (fun j hj => by
      have := hc j hj
      rw [Nat.zero_add]
      omega)
theorem OS_fm {T p : Nat} {C : Nat → Nat} {y : Int32} (hT : T < 10) (hp : p < 80) : ∀ {m i : Nat} {o : ost}, OS o → (∀ j, j < m → C (i + j) < 128) → OS (o_fm (100 * T + p) C y m i o).2 ∧ er (o_fm (100 * T + p) C y m i o).1
  | 0, _, _, h, _ => ⟨h, er_0⟩
  | m + 1, i, o, h, hC => by
    have hc : C i < 128 := hC 0 (Nat.succ_pos m)
    have hC' : ∀ j, j < m → C (i + 1 + j) < 128 := fun j hj => by
      have := hC (j + 1) (by omega)
      rw [show i + 1 + j = i + (j + 1) by omega]
      exact this
    unfold o_fm
    by_cases q : C i = 35
    · rw [if_pos q]
      have one := OS_sf (C := dg_c y) (m := dg_l y) (i := 0) hT hp h (fun j _ _ => by have := dg_cb y j; omega)
      by_cases t : (o_sf (100 * T + p) (dg_c y) (dg_l y) 0 o).1 = nI 0
      · rw [if_pos t]
        exact OS_fm hT hp one.1 hC'
      · rw [if_neg t]
        exact one
    · rw [if_neg q]
      by_cases t : o_n o = 300
      · rw [if_pos t]; exact ⟨h, er_10⟩
      · rw [if_neg t]
        refine OS_fm hT hp (fun j hj => ?_) hC'
        have hj' : j < o_n o + 1 := hj
        show sg (if j = o_n o then oc_S (C i) (100 * T + p) else o_c o j)
        by_cases t : j = o_n o
        · rw [if_pos t]
          exact sg_S hT hp hc
        · rw [if_neg t]
          exact h j (by omega)
theorem OS_mg {T p g : Nat} (hu : uP u) (hT : T < 10) (hp : p < 80) (hg : g < 10) (h : OS o) : OS (o_mg (u_F u) (100 * T + p) g v o).2 ∧ er (o_mg (u_F u) (100 * T + p) g v o).1 := by
  unfold o_mg
  by_cases q : rv_t v = 1
  · rw [if_pos q]
    have hi : 2 * g + (if rv_n v = nI 1 then 0 else 1) < 20 := by
      by_cases t : rv_n v = nI 1
      · rw [if_pos t]; omega
      · rw [if_neg t]; omega
    obtain ⟨f1, f2, -⟩ := hu.2.2.1 _ hi
    obtain ⟨-, hc⟩ := f1.2.2.2.1 f2
    exact OS_fm hT hp h (fun j hj => by
      have := hc j hj
      rw [Nat.zero_add]
      omega)
  · rw [if_neg q]; exact ⟨h, er_3⟩
theorem SBk_g (hu : uP u) : ∀ {n : Nat} {j : sj} {N : Nat} {B : Nat → Nat} {M : Nat} {S : Nat → Nat} {lc : Nat} {ln : Nat → Nat} {op : Nat} {ch : List en} {s s1 : sS} {e : Int32}, SBk u n j (N, B, M, S, lc, ln, op, ch) s e s1 → OX s.2.1 → OS s.2.1 → FS s.2.2.2.2.2 → OS s1.2.1 ∧ FS s1.2.2.2.2.2 ∧ er e
  | 0, _, _, _, _, _, _, _, _, _, _, _, _, h, _, _, _ => h.elim
  | n + 1, (0, r, _, _), N, B, M, S, lc, ln, op, ch, s, s1, e, h, hO, hS, hF => by
    rcases h with ⟨a1, rfl, rfl⟩ | ⟨a1, e1, s2, a2, a3⟩
    · exact ⟨hS, hF, er_0⟩
    · have c := SBk_g hu a2 hO hS hF
      rcases a3 with ⟨x1, rfl, rfl⟩ | ⟨x1, x2⟩
      · exact c
      · exact SBk_g hu x2 (SBk_O a2 hO) c.1 c.2.1
  | n + 1, (1, r, _, _), N, B, M, S, lc, ln, op, ch, s, s1, e, h, hO, hS, hF => by
    obtain ⟨V, o, ra, rd, sp, FG⟩ := s
    rcases h with (⟨T1, p1, n1, rfl, rfl⟩ | ⟨T1, p1, n1, t1, u1, rfl, rfl⟩ | ⟨T1, p1, v1, ra1, rd1, n1, t1, u1, y1, f1, rfl, rfl⟩ | ⟨T1, p1, g1, v1, ra1, rd1, n1, t1, u1, w1, x1, f1, rfl, rfl⟩ | ⟨T1, p1, l1, v1, ra1, rd1, n1, w1, x1, y1, f1, rfl, rfl⟩ | ⟨T1, p1, n1, rfl, rfl⟩ | ⟨T1, p1, c1, v1, ra1, rd1, n1, hc1, he1, f1, rfl⟩ | ⟨T1, p1, v1, ra1, rd1, n1, f1, q1, rfl, rfl⟩ | ⟨ra1, rd1, sp1, h1, rfl⟩ | ⟨rfl, rfl⟩ | ⟨T1, p1, i1, n1, t1, u1, w1, x1, q1⟩) | ⟨T1, p1, v1, ra1, rd1, n1, f1, h1⟩ | ⟨T1, p1, v1, ra1, rd1, n1, f1, q1, h1⟩ | ⟨T1, p1, e1, V1, o1, ra1, rd1, sp1, FG1, n1, h1, q1⟩ | ⟨r1, xx1, lc1, ln1, ch1, V1, ra1, rd1, sp1, W1, o1, rb1, rc1, sq1, FG1, h1, b1, rfl⟩ | ⟨T1, p1, i1, V1, o1, ra1, rd1, sp1, FG1, n1, t1, u1, w1, x1, y1, z1, h1, q1⟩
    · exact ⟨hS, hF, er_0⟩
    · have hw := tx_le (hu.2.2.2 T1 t1).1 p1
      have : OS (o_lt (u_w u T1 p1) (100 * T1 + p1) o).2 ∧ er (o_lt (u_w u T1 p1) (100 * T1 + p1) o).1 := by
        unfold o_lt
        by_cases q : o_w o = true ∧ u_w u T1 p1 = 32
        · rw [if_pos q]; exact ⟨hS, er_0⟩
        · rw [if_neg q]
          exact OS_pc (C := fun _ => oc_L (u_w u T1 p1) (100 * T1 + p1)) (m := 1) (i := 0) hS (fun j _ _ => sg_L t1 u1 (by omega))
      exact ⟨this.1, hF, this.2⟩
    · have := OS_v t1 u1 hS hO y1.1
      exact ⟨this.1, hF, this.2⟩
    · have := OS_mg (v := v1) hu t1 u1 x1 hS
      exact ⟨this.1, hF, this.2⟩
    · exact ⟨hS, hF, er_0⟩
    · exact ⟨fun i hi => hS i (Nat.lt_of_lt_of_le hi o_drl), hF, er_0⟩
    · exact ⟨hS, hF, FE_er f1⟩
    · exact ⟨hS, hF, er_3⟩
    · exact ⟨hS, hF, OI_er h1⟩
    · exact ⟨hS, hF, er_9⟩
    · rcases q1 with ⟨g1, -, rfl, rfl⟩ | ⟨-, -, rfl, rfl⟩
      · have := OS_pc (o := o) hS (fun j (_ : 0 ≤ j) (hj : j < 0 + k_n (FG i1)) => hF i1 x1 g1.1 j (show j < k_n (FG i1) by omega))
        exact ⟨this.1, hF, this.2⟩
      · exact ⟨hS, hF, er_8⟩
    · exact SBk_g hu (s := (V, o, ra1, rd1, sp, FG)) h1 hO hS hF
    · rcases h1 with ⟨x1, x2⟩ | ⟨x1, x2⟩
      · exact SBk_g hu (s := (V, o, ra1, rd1, sp, FG)) x2 hO hS hF
      · exact SBk_g hu (s := (V, o, ra1, rd1, sp, FG)) x2 hO hS hF
    · have c := SBk_g hu (s := (V, o, ra, rd, sp, FG)) (s1 := (V1, o1, ra1, rd1, sp1, FG1)) h1 hO hS hF
      rcases q1 with ⟨x1, rfl, rfl⟩ | ⟨x1, -, x2⟩
      · exact c
      · exact SBk_g hu (s := (V, o, ra1, rd1, sp1, FG1)) x2 hO hS c.2.1
    · exact SBk_g hu (s := (V1, o, ra1, rd1, sp1, FG)) (s1 := (W1, o1, rb1, rc1, sq1, FG1)) b1 hO hS hF
    · have c := SBk_g hu (s := (V, o, g_u ra M (nI 0), g_u rd M (nI 0), g_u sp M false, FG)) (s1 := (V1, o1, ra1, rd1, sp1, FG1)) h1 hO hS hF
      rcases q1 with ⟨-, rfl⟩ | ⟨-, rfl⟩
      · refine ⟨c.1, ?_, c.2.2⟩
        show FS (if sp1 M = true then FG1 else g_u FG1 i1 (k_nw u T1 p1 r lc ln (o_n o) (o_w o) o1 (ra1 M) (rd1 M) N B V))
        by_cases q : sp1 M = true
        · rw [if_pos q]; exact c.2.1
        · rw [if_neg q]
          intro i hi hs j hj
          by_cases t : i = i1
          · rw [t, g_us] at hj ⊢
            have hj' : j < o_n o1 - o_n o := hj
            exact c.1 (o_n o + j) (by show o_n o + j < o_n o1; omega)
          · rw [g_un t] at hs hj ⊢
            exact c.2.1 i hi hs j hj
      · exact c
  | n + 1, (k + 2, r, j, v), N, B, M, S, lc, ln, op, ch, s, s1, e, h, hO, hS, hF => by
    obtain ⟨V, o, ra, rd, sp, FG⟩ := s
    rcases h with ⟨a1, rfl⟩ | ⟨a1, l, e1, V1, o1, ra1, rd1, sp1, FG1, a2, a3, a4, a5⟩
    · refine ⟨hS, hF, ?_⟩
      rcases a1 with ⟨-, rfl⟩ | rfl
      · exact er_0
      · exact er_9
    · have c := SBk_g hu (s := (e_st V N l (u_I u (rv_d v) j), o, ra, rd, sp, FG)) (s1 := (V1, o1, ra1, rd1, sp1, FG1)) a4 hO hS hF
      have cO := SBk_O (s := (e_st V N l (u_I u (rv_d v) j), o, ra, rd, sp, FG)) (s1 := (V1, o1, ra1, rd1, sp1, FG1)) a4 hO
      rcases a5 with ⟨x1, rfl, rfl⟩ | ⟨x1, x2⟩
      · exact c
      · exact SBk_g hu (s := (V, o1, ra1, rd1, sp1, FG1)) x2 cO c.1 c.2.1
/-- a rendering: sources, fragments, why it fails -/
theorem RR_g {tg : Nat} {FG FG1 : Nat → kfr} {e : Int32} {o : ost} (hu : uP u) (hF : FS FG) (h : RR u tg FG e o FG1) : FS FG1 ∧ er e ∧ (e = nI 0 → OS o ∧ OX o) := by
  rcases h with ⟨-, V', ra', rd', sp', n, h⟩ | ⟨-, rfl, rfl⟩
  · have c := SBk_g hu h OX_0 (fun i hi => absurd hi (Nat.not_lt_zero i)) hF
    exact ⟨c.2.1, c.2.2, fun _ => ⟨c.1, SBk_O h OX_0⟩⟩
  · exact ⟨hF, er_8, fun q => absurd q (by decide)⟩
end F02
