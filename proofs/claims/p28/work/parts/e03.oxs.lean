/-! THE OUTPUT'S CONTEXTS FOLLOW ONE ANOTHER, whatever is rendered -/
section E03
variable {u : wo}
theorem OX_t {o : ost} {z : Nat} (h : OX o) : OX (o_t o z).2 := by
  unfold o_t
  by_cases q : o_n o = 300
  · rw [if_pos q]; exact h
  · rw [if_neg q]; exact OX_p h
theorem OX_lt {o : ost} {c s : Nat} (h : OX o) : OX (o_lt c s o).2 := by
  unfold o_lt
  by_cases q : o_w o = true ∧ c = 32
  · rw [if_pos q]; exact h
  · rw [if_neg q]; exact OX_t h
theorem OX_sf {s m i : Nat} {c : Nat → Nat} {o : ost} (h : OX o) : OX (o_sf s c m i o).2 := by
  rw [o_sf_pc]
  exact OX_pc h
theorem OX_e1 {s c x m i : Nat} {o : ost} (h : OX o) : OX (o_e1 s c x m i o).2 := by
  rw [o_e1_pc]
  exact OX_pc h
theorem OX_es {s : Nat} {c : Nat → Nat} : ∀ {m i : Nat} {o : ost}, OX o → OX (o_es s c m i o).2
  | 0, _, _, h => h
  | m + 1, i, o, h => by
    unfold o_es
    by_cases q : (o_e1 s (c i) (o_x o (o_n o)) (es_k (o_x o (o_n o)) (c i)) 0 o).1 = nI 0
    · rw [if_pos q]; exact OX_es (OX_e1 h)
    · rw [if_neg q]; exact OX_e1 h
theorem OX_v {s : Nat} {v : rv} {o : ost} (h : OX o) : OX (o_v s v o).2 := by
  unfold o_v
  by_cases q0 : rv_t v = 0
  · rw [if_pos q0]; exact h
  rw [if_neg q0]
  by_cases q3 : rv_t v = 3
  · rw [if_pos q3]; exact h
  rw [if_neg q3]
  by_cases q1 : rv_t v = 1
  · rw [if_pos q1]; exact OX_sf h
  rw [if_neg q1]
  by_cases qs : rv_s v = true
  · rw [if_pos qs]; exact OX_sf h
  · rw [if_neg qs]; exact OX_es h
theorem OX_fm {s : Nat} {c : Nat → Nat} {x : Int32} : ∀ {m i : Nat} {o : ost}, OX o → OX (o_fm s c x m i o).2
  | 0, _, _, h => h
  | m + 1, i, o, h => by
    unfold o_fm
    by_cases q : c i = 35
    · rw [if_pos q]
      by_cases t : (o_sf s (dg_c x) (dg_l x) 0 o).1 = nI 0
      · rw [if_pos t]; exact OX_fm (OX_sf h)
      · rw [if_neg t]; exact OX_sf h
    · rw [if_neg q]
      by_cases t : o_n o = 300
      · rw [if_pos t]; exact h
      · rw [if_neg t]; exact OX_fm (OX_p h)
theorem OX_mg {F : Nat → rv} {s g : Nat} {v : rv} {o : ost} (h : OX o) : OX (o_mg F s g v o).2 := by
  unfold o_mg
  by_cases q : rv_t v = 1
  · rw [if_pos q]; exact OX_fm h
  · rw [if_neg q]; exact h
theorem SBk_O : ∀ {n : Nat} {j : sj} {N : Nat} {B : Nat → Nat} {M : Nat} {S : Nat → Nat} {lc : Nat} {ln : Nat → Nat} {op : Nat} {ch : List en} {s s1 : sS} {e : Int32}, SBk u n j (N, B, M, S, lc, ln, op, ch) s e s1 → OX s.2.1 → OX s1.2.1
  | 0, _, _, _, _, _, _, _, _, _, _, _, _, h, _ => h.elim
  | n + 1, (0, r, _, _), N, B, M, S, lc, ln, op, ch, s, s1, e, h, hO => by
    rcases h with ⟨a1, rfl, rfl⟩ | ⟨a1, e1, s2, a2, a3⟩
    · exact hO
    · have c := SBk_O a2 hO
      rcases a3 with ⟨x1, rfl, rfl⟩ | ⟨x1, x2⟩
      · exact c
      · exact SBk_O x2 c
  | n + 1, (1, r, _, _), N, B, M, S, lc, ln, op, ch, s, s1, e, h, hO => by
    obtain ⟨V, o, ra, rd, sp, FG⟩ := s
    rcases h with (⟨T1, p1, n1, rfl, rfl⟩ | ⟨T1, p1, n1, t1, u1, rfl, rfl⟩ | ⟨T1, p1, v1, ra1, rd1, n1, t1, u1, y1, f1, rfl, rfl⟩ | ⟨T1, p1, g1, v1, ra1, rd1, n1, t1, u1, w1, x1, f1, rfl, rfl⟩ | ⟨T1, p1, l1, v1, ra1, rd1, n1, w1, x1, y1, f1, rfl, rfl⟩ | ⟨T1, p1, n1, rfl, rfl⟩ | ⟨T1, p1, c1, v1, ra1, rd1, n1, hc1, he1, f1, rfl⟩ | ⟨T1, p1, v1, ra1, rd1, n1, f1, q1, rfl, rfl⟩ | ⟨ra1, rd1, sp1, h1, rfl⟩ | ⟨rfl, rfl⟩ | ⟨T1, p1, i1, n1, t1, u1, w1, x1, q1⟩) | ⟨T1, p1, v1, ra1, rd1, n1, f1, h1⟩ | ⟨T1, p1, v1, ra1, rd1, n1, f1, q1, h1⟩ | ⟨T1, p1, e1, V1, o1, ra1, rd1, sp1, FG1, n1, h1, q1⟩ | ⟨r1, xx1, lc1, ln1, ch1, V1, ra1, rd1, sp1, W1, o1, rb1, rc1, sq1, FG1, h1, b1, rfl⟩ | ⟨T1, p1, i1, V1, o1, ra1, rd1, sp1, FG1, n1, t1, u1, w1, x1, y1, z1, h1, q1⟩
    · exact hO
    · exact OX_lt hO
    · exact OX_v hO
    · exact OX_mg hO
    · exact hO
    · exact OX_tm hO
    · exact hO
    · exact hO
    · exact hO
    · exact hO
    · rcases q1 with ⟨-, -, -, rfl⟩ | ⟨-, -, -, rfl⟩
      · exact OX_pc hO
      · exact hO
    · exact SBk_O (s := (V, o, ra1, rd1, sp, FG)) h1 hO
    · rcases h1 with ⟨x1, x2⟩ | ⟨x1, x2⟩
      · exact SBk_O (s := (V, o, ra1, rd1, sp, FG)) x2 hO
      · exact SBk_O (s := (V, o, ra1, rd1, sp, FG)) x2 hO
    · have c := SBk_O (s := (V, o, ra, rd, sp, FG)) (s1 := (V1, o1, ra1, rd1, sp1, FG1)) h1 hO
      rcases q1 with ⟨x1, rfl, rfl⟩ | ⟨x1, -, x2⟩
      · exact c
      · exact SBk_O (s := (V, o, ra1, rd1, sp1, FG1)) x2 hO
    · exact SBk_O (s := (V1, o, ra1, rd1, sp1, FG)) (s1 := (W1, o1, rb1, rc1, sq1, FG1)) b1 hO
    · have c := SBk_O (s := (V, o, g_u ra M (nI 0), g_u rd M (nI 0), g_u sp M false, FG)) (s1 := (V1, o1, ra1, rd1, sp1, FG1)) h1 hO
      rcases q1 with ⟨-, rfl⟩ | ⟨-, rfl⟩
      · exact c
      · exact c
  | n + 1, (k + 2, r, j, v), N, B, M, S, lc, ln, op, ch, s, s1, e, h, hO => by
    obtain ⟨V, o, ra, rd, sp, FG⟩ := s
    rcases h with ⟨a1, rfl⟩ | ⟨a1, l, e1, V1, o1, ra1, rd1, sp1, FG1, a2, a3, a4, a5⟩
    · exact hO
    · have c := SBk_O (s := (e_st V N l (u_I u (rv_d v) j), o, ra, rd, sp, FG)) (s1 := (V1, o1, ra1, rd1, sp1, FG1)) a4 hO
      rcases a5 with ⟨x1, rfl, rfl⟩ | ⟨x1, x2⟩
      · exact c
      · exact SBk_O (s := (V, o1, ra1, rd1, sp1, FG1)) x2 c
theorem OX_0 : OX o_0 := ⟨by show 0 < 8; decide, fun i hi => absurd hi (Nat.not_lt_zero i)⟩
end E03
