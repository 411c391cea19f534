/-! WHERE A TEMPLATE MAY END: the loop's tag -/
section E0B
variable {u : wo} {ch : Int32}
theorem xr_lop {r : Nat} {S A L S2 : Int32} (hD : da (u_D u) (u_I u)) (hk : mj_i (u_G u) r 0 = nI 42) (hin : ∀ {N : Nat} {B : Nat → Nat} {M : Nat} {Sm : Nat → Nat} {V : Nat → Nat → Option rv} {ra rd : Nat → Int32} {v : rv} {ra1 rd1 : Nat → Int32}, (∀ s, B s ≤ s) → VI u ch N V → FE u N B M Sm V (mj_r (u_G u) r 6) ra rd (nI 0) v ra1 rd1 → rv_in (u_D u) v) (hA : ∀ a, bt S a → bt A a) (hL : ∀ a, bt L a → bt A a) (h1 : xr u ch A L (jbd (mj_r (u_G u) r 8))) (h2 : xr u ch S S2 (jbd (mj_r (u_G u) r 9))) : xr u ch S (L ||| S2) (jtg r) := fun n N B M Sm lc ln op cn V o ra rd sp FG s1 hN hB hV hO hS h => by
  cases n with
  | zero => exact h.elim
  | succ n =>
    rcases h with (⟨T1, p1, n1, -⟩ | ⟨T1, p1, n1, -⟩ | ⟨T1, p1, v1, ra1, rd1, n1, -⟩ | ⟨T1, p1, g1, v1, ra1, rd1, n1, -⟩ | ⟨T1, p1, l1, v1, ra1, rd1, n1, -⟩ | ⟨T1, p1, n1, -⟩ | ⟨T1, p1, c1, v1, ra1, rd1, n1, hc1, he1, -⟩ | ⟨T1, p1, v1, ra1, rd1, n1, -, -, hz, -⟩ | ⟨ra1, rd1, sp1, g1, -⟩ | ⟨hz, -⟩ | ⟨T1, p1, i1, n1, -⟩) | ⟨T1, p1, v1, ra1, rd1, n1, -⟩ | ⟨T1, p1, v1, ra1, rd1, n1, f1, t3, g1⟩ | ⟨T1, p1, e1, V1, o1, ra1, rd1, sp1, FG1, n1, -⟩ | ⟨r1, xx1, lc1, ln1, ch1, V1, ra1, rd1, sp1, W1, o1, rb1, rc1, sq1, FG1, g1, -⟩ | ⟨T1, p1, i1, V1, o1, ra1, rd1, sp1, FG1, n1, -⟩
    · exact absurd (nkd hk n1.2.2.2.2.2 (by decide) (by decide)) (by decide)
    · exact absurd (nkd hk n1.2.2.2.2.2 (by decide) (by decide)) (by decide)
    · exact absurd (nkd hk n1.2.2.2.2.2 (by decide) (by decide)) (by decide)
    · exact absurd (nkd hk n1.2.2.2.2.2 (by decide) (by decide)) (by decide)
    · exact absurd (nkd hk n1.2.2.2.2.2 (by decide) (by decide)) (by decide)
    · exact absurd (nkd hk n1.2.2.2.2.2 (by decide) (by decide)) (by decide)
    · exact absurd rfl he1
    · exact absurd hz (by decide)
    · obtain ⟨c1, hc1, k1⟩ := OI_kd g1
      exact absurd (nkd hk k1 (by decide) (by omega)) (by omega)
    · exact absurd hz (by decide)
    · exact absurd (nkd hk n1.2.2.2.2.2 (by decide) (by decide)) (by decide)
    · exact absurd (nkd hk n1.2.2.2.2.2 (by decide) (by decide)) (by decide)
    · rcases g1 with ⟨-, q2⟩ | ⟨q1, q2⟩
      · obtain ⟨d1, d2⟩ := h2 n N B M Sm lc ln op cn V o ra1 rd1 sp FG s1 hN hB hV hO hS q2
        exact ⟨by rw [bt_or2]; exact Or.inr d1, d2⟩
      · obtain ⟨d1, d2⟩ := xs_rounds hD h1 hL hN hB hV hO (hA _ hS) (hin hB hV f1) t3 q2
        rw [d1]
        refine ⟨?_, hV⟩
        rcases d2 with ⟨d2, -⟩ | d2
        · exact absurd d2.symm q1
        · rw [bt_or2]
          exact Or.inl d2
    · exact absurd (nkd hk n1.2.2.2.2.2 (by decide) (by decide)) (by decide)
    · obtain ⟨c1, hc1, k1⟩ := OO_kd g1
      exact absurd (nkd hk k1 (by decide) (by omega)) (by omega)
    · exact absurd (nkd hk n1.2.2.2.2.2 (by decide) (by decide)) (by decide)
end E0B
