/-! ONE TAG, without bodies: what it does to output and variables -/
section E05
variable {u : wo}
theorem tg_sim {n r N c : Nat} {B : Nat → Nat} {M : Nat} {S : Nat → Nat} {lc : Nat} {ln : Nat → Nat} {op : Nat} {ch : List en} {V : Nat → Nat → Option rv} {o : ost} {ra rd : Nat → Int32} {sp : Nat → Bool} {FG : Nat → kfr} {s1 : sS} {e : Int32} (he : e = nI 0) (hk : mj_i (u_G u) r 0 = nI c) (hc : c < 200) (hn : ¬ (c = 63 ∨ c = 43 ∨ c = 42 ∨ c = 107)) (h : SBk u n (jtg r) (N, B, M, S, lc, ln, op, ch) (V, o, ra, rd, sp, FG) e s1) :
    (c = 36 ∧ s1.1 = V ∧ s1.2.1 = o) ∨ (c = 45 ∧ s1.1 = V ∧ s1.2.1 = o_tm o) ∨ (c = 1 ∧ s1.1 = V ∧ ∃ T p, nd u T r p 1 ∧ T < 10 ∧ p < 80 ∧ (o_lt (u_w u T p) (100 * T + p) o).1 = nI 0 ∧ s1.2.1 = (o_lt (u_w u T p) (100 * T + p) o).2) ∨ (c = 61 ∧ s1.1 = V ∧ ∃ src v ra1 rd1, rv_in (u_D u) v ∧ FE u N B M S V (mj_r (u_G u) r 6) ra rd (nI 0) v ra1 rd1 ∧ (o_v src v o).1 = nI 0 ∧ s1.2.1 = (o_v src v o).2) ∨ (c = 37 ∧ s1.2.1 = o ∧ ∃ l v, mj_i (u_G u) r 4 = nI l ∧ l < 26 ∧ rv_in (u_D u) v ∧ s1.1 = e_st V (N - 1) l v) ∨ ((c = 116 ∨ c = 35 ∨ c = 94 ∨ c = 64 ∨ c = 126 ∨ c = 33 ∨ c = 38) ∧ s1.1 = V) := by
  cases n with
  | zero => exact h.elim
  | succ n =>
    rcases h with (⟨T1, p1, n1, hz, rfl⟩ | ⟨T1, p1, n1, t1, u1, hz, rfl⟩ | ⟨T1, p1, v1, ra1, rd1, n1, t1, u1, y1, f1, hz, rfl⟩ | ⟨T1, p1, g1, v1, ra1, rd1, n1, t1, u1, w1, x1, f1, hz, rfl⟩ | ⟨T1, p1, l1, v1, ra1, rd1, n1, w1, x1, y1, f1, hz, rfl⟩ | ⟨T1, p1, n1, hz, rfl⟩ | ⟨T1, p1, c1, v1, ra1, rd1, n1, hc1, he1, f1, rfl⟩ | ⟨T1, p1, v1, ra1, rd1, n1, f1, q1, hz, rfl⟩ | ⟨ra1, rd1, sp1, h1, rfl⟩ | ⟨hz, rfl⟩ | ⟨T1, p1, i1, n1, -⟩) | ⟨T1, p1, v1, ra1, rd1, n1, f1, h1⟩ | ⟨T1, p1, v1, ra1, rd1, n1, f1, q1, h1⟩ | ⟨T1, p1, e1, V1, o1, ra1, rd1, sp1, FG1, n1, h1, q1⟩ | ⟨r1, xx1, lc1, ln1, ch1, V1, ra1, rd1, sp1, W1, o1, rb1, rc1, sq1, FG1, h1, b1, rfl⟩ | ⟨T1, p1, i1, V1, o1, ra1, rd1, sp1, FG1, n1, -⟩
    · obtain rfl := nkd hk n1.2.2.2.2.2 hc (by decide)
      exact Or.inl ⟨rfl, rfl, rfl⟩
    · obtain rfl := nkd hk n1.2.2.2.2.2 hc (by decide)
      exact Or.inr (Or.inr (Or.inl ⟨rfl, rfl, T1, p1, n1, t1, u1, (hz.symm.trans he), rfl⟩))
    · obtain rfl := nkd hk n1.2.2.2.2.2 hc (by decide)
      exact Or.inr (Or.inr (Or.inr (Or.inl ⟨rfl, rfl, 100 * T1 + p1, v1, ra1, rd1, y1, f1, (hz.symm.trans he), rfl⟩)))
    · obtain rfl := nkd hk n1.2.2.2.2.2 hc (by decide)
      exact Or.inr (Or.inr (Or.inr (Or.inr (Or.inr ⟨by decide, rfl⟩))))
    · obtain rfl := nkd hk n1.2.2.2.2.2 hc (by decide)
      exact Or.inr (Or.inr (Or.inr (Or.inr (Or.inl ⟨rfl, rfl, l1, v1, w1, x1, y1, rfl⟩))))
    · obtain rfl := nkd hk n1.2.2.2.2.2 hc (by decide)
      exact Or.inr (Or.inl ⟨rfl, rfl, rfl⟩)
    · exact absurd he he1
    · exact absurd (he.symm.trans hz) (by decide)
    · obtain ⟨c1, hc1, k1⟩ := OI_kd h1
      obtain rfl := nkd hk k1 hc (by omega)
      exact Or.inr (Or.inr (Or.inr (Or.inr (Or.inr ⟨by omega, rfl⟩))))
    · exact absurd (he.symm.trans hz) (by decide)
    · exact absurd (nkd hk n1.2.2.2.2.2 hc (by decide)) (by omega)
    · exact absurd (nkd hk n1.2.2.2.2.2 hc (by decide)) (by omega)
    · exact absurd (nkd hk n1.2.2.2.2.2 hc (by decide)) (by omega)
    · exact absurd (nkd hk n1.2.2.2.2.2 hc (by decide)) (by omega)
    · obtain ⟨c1, hc1, k1⟩ := OO_kd h1
      obtain rfl := nkd hk k1 hc (by omega)
      exact Or.inr (Or.inr (Or.inr (Or.inr (Or.inr ⟨by omega, rfl⟩))))
    · exact absurd (nkd hk n1.2.2.2.2.2 hc (by decide)) (by omega)
end E05
