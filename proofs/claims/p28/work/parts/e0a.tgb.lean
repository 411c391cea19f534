/-! WHERE A TEMPLATE MAY END: the tags with bodies -/
section E0A
variable {u : wo} {ch : Int32}
theorem xr_cho {r : Nat} {S S1 S2 : Int32} (hk : mj_i (u_G u) r 0 = nI 63) (h1 : xr u ch S S1 (jbd (mj_r (u_G u) r 8))) (h2 : xr u ch S S2 (jbd (mj_r (u_G u) r 9))) : xr u ch S (S1 ||| S2) (jtg r) := fun n N B M Sm lc ln op cn V o ra rd sp FG s1 hN hB hV hO hS h => by
  cases n with
  | zero => exact h.elim
  | succ n =>
    rcases h with (⟨T1, p1, n1, -⟩ | ⟨T1, p1, n1, -⟩ | ⟨T1, p1, v1, ra1, rd1, n1, -⟩ | ⟨T1, p1, g1, v1, ra1, rd1, n1, -⟩ | ⟨T1, p1, l1, v1, ra1, rd1, n1, -⟩ | ⟨T1, p1, n1, -⟩ | ⟨T1, p1, c1, v1, ra1, rd1, n1, hc1, he1, -⟩ | ⟨T1, p1, v1, ra1, rd1, n1, -, -, hz, -⟩ | ⟨ra1, rd1, sp1, g1, -⟩ | ⟨hz, -⟩ | ⟨T1, p1, i1, n1, -⟩) | ⟨T1, p1, v1, ra1, rd1, n1, f1, g1⟩ | ⟨T1, p1, v1, ra1, rd1, n1, -⟩ | ⟨T1, p1, e1, V1, o1, ra1, rd1, sp1, FG1, n1, -⟩ | ⟨r1, xx1, lc1, ln1, ch1, V1, ra1, rd1, sp1, W1, o1, rb1, rc1, sq1, FG1, g1, -⟩ | ⟨T1, p1, i1, V1, o1, ra1, rd1, sp1, FG1, n1, -⟩
    · exact absurd (nkd hk n1.2.2.2.2.2 (by decide) (by decide)) (by decide)
    · exact absurd (nkd hk n1.2.2.2.2.2 (by decide) (by decide)) (by decide)
    · exact absurd (nkd hk n1.2.2.2.2.2 (by decide) (by decide)) (by decide)
    · exact absurd (nkd hk n1.2.2.2.2.2 (by decide) (by decide)) (by decide)
    · exact absurd (nkd hk n1.2.2.2.2.2 (by decide) (by decide)) (by decide)
    · exact absurd (nkd hk n1.2.2.2.2.2 (by decide) (by decide)) (by decide)
    · exact absurd rfl he1
    · exact absurd hz (by decide)
    · obtain ⟨c1, hc1, k1⟩ := OI_kd g1
      exact absurd (nkd hk k1 (by decide) (by omega)) (by omega)
    · exact absurd hz (by decide)
    · exact absurd (nkd hk n1.2.2.2.2.2 (by decide) (by decide)) (by decide)
    · by_cases hb : rv_B (rv_tr v1) = true
      · rw [if_pos hb] at g1
        obtain ⟨d1, d2⟩ := h1 n N B M Sm lc ln op cn V o ra1 rd1 sp FG s1 hN hB hV hO hS g1
        exact ⟨by rw [bt_or2]; exact Or.inl d1, d2⟩
      · rw [if_neg hb] at g1
        obtain ⟨d1, d2⟩ := h2 n N B M Sm lc ln op cn V o ra1 rd1 sp FG s1 hN hB hV hO hS g1
        exact ⟨by rw [bt_or2]; exact Or.inr d1, d2⟩
    · exact absurd (nkd hk n1.2.2.2.2.2 (by decide) (by decide)) (by decide)
    · exact absurd (nkd hk n1.2.2.2.2.2 (by decide) (by decide)) (by decide)
    · obtain ⟨c1, hc1, k1⟩ := OO_kd g1
      exact absurd (nkd hk k1 (by decide) (by omega)) (by omega)
    · exact absurd (nkd hk n1.2.2.2.2.2 (by decide) (by decide)) (by decide)
theorem xr_try {r : Nat} {S S1 S2 : Int32} (hk : mj_i (u_G u) r 0 = nI 43) (h1 : xr u ch S S1 (jbd (mj_r (u_G u) r 8))) (h2 : xr u ch S S2 (jbd (mj_r (u_G u) r 9))) : xr u ch S (S1 ||| S2) (jtg r) := fun n N B M Sm lc ln op cn V o ra rd sp FG s1 hN hB hV hO hS h => by
  cases n with
  | zero => exact h.elim
  | succ n =>
    rcases h with (⟨T1, p1, n1, -⟩ | ⟨T1, p1, n1, -⟩ | ⟨T1, p1, v1, ra1, rd1, n1, -⟩ | ⟨T1, p1, g1, v1, ra1, rd1, n1, -⟩ | ⟨T1, p1, l1, v1, ra1, rd1, n1, -⟩ | ⟨T1, p1, n1, -⟩ | ⟨T1, p1, c1, v1, ra1, rd1, n1, hc1, he1, -⟩ | ⟨T1, p1, v1, ra1, rd1, n1, -, -, hz, -⟩ | ⟨ra1, rd1, sp1, g1, -⟩ | ⟨hz, -⟩ | ⟨T1, p1, i1, n1, -⟩) | ⟨T1, p1, v1, ra1, rd1, n1, -⟩ | ⟨T1, p1, v1, ra1, rd1, n1, -⟩ | ⟨T1, p1, e1, V1, o1, ra1, rd1, sp1, FG1, n1, f1, g1⟩ | ⟨r1, xx1, lc1, ln1, ch1, V1, ra1, rd1, sp1, W1, o1, rb1, rc1, sq1, FG1, g1, -⟩ | ⟨T1, p1, i1, V1, o1, ra1, rd1, sp1, FG1, n1, -⟩
    · exact absurd (nkd hk n1.2.2.2.2.2 (by decide) (by decide)) (by decide)
    · exact absurd (nkd hk n1.2.2.2.2.2 (by decide) (by decide)) (by decide)
    · exact absurd (nkd hk n1.2.2.2.2.2 (by decide) (by decide)) (by decide)
    · exact absurd (nkd hk n1.2.2.2.2.2 (by decide) (by decide)) (by decide)
    · exact absurd (nkd hk n1.2.2.2.2.2 (by decide) (by decide)) (by decide)
    · exact absurd (nkd hk n1.2.2.2.2.2 (by decide) (by decide)) (by decide)
    · exact absurd rfl he1
    · exact absurd hz (by decide)
    · obtain ⟨c1, hc1, k1⟩ := OI_kd g1
      exact absurd (nkd hk k1 (by decide) (by omega)) (by omega)
    · exact absurd hz (by decide)
    · exact absurd (nkd hk n1.2.2.2.2.2 (by decide) (by decide)) (by decide)
    · exact absurd (nkd hk n1.2.2.2.2.2 (by decide) (by decide)) (by decide)
    · exact absurd (nkd hk n1.2.2.2.2.2 (by decide) (by decide)) (by decide)
    · rcases g1 with ⟨-, q2, rfl⟩ | ⟨-, -, q3⟩
      · subst q2
        obtain ⟨d1, -⟩ := h1 n (N + 1) _ M Sm lc ln op cn V o ra rd sp FG _ (Nat.le_add_left 1 N) (bh_le hB) (VI_up hV) hO hS f1
        exact ⟨by rw [bt_or2]; exact Or.inl d1, hV⟩
      · obtain ⟨d1, d2⟩ := h2 n N B M Sm lc ln op cn V o ra1 rd1 sp1 FG1 s1 hN hB hV hO hS q3
        exact ⟨by rw [bt_or2]; exact Or.inr d1, d2⟩
    · obtain ⟨c1, hc1, k1⟩ := OO_kd g1
      exact absurd (nkd hk k1 (by decide) (by omega)) (by omega)
    · exact absurd (nkd hk n1.2.2.2.2.2 (by decide) (by decide)) (by decide)
end E0A
