/-! WHERE A TEMPLATE MAY END: the tags without bodies -/
section E09
variable {u : wo} {ch : Int32}
theorem x255 {a : Nat} (h : a < 8) : bt (nI 255) a := by
  have hall : ((List.range 8).all fun i => (nI 255).toBitVec.getLsbD i) = true := by decide +kernel
  exact List.all_eq_true.mp hall a (List.mem_range.mpr h)
theorem cx_8 {o : ost} (h : OX o) : cx o < 8 := OX_8 h _ (Nat.le_refl _)
theorem xr_255 {r c : Nat} {S : Int32} (hk : mj_i (u_G u) r 0 = nI c) (hc : c = 116 ∨ c = 35 ∨ c = 94 ∨ c = 64 ∨ c = 33 ∨ c = 38 ∨ c = 126) : xr u ch S (nI 255) (jtg r) := fun n N B M Sm lc ln op cn V o ra rd sp FG s1 hN hB hV hO hS h => by
  refine ⟨x255 (cx_8 (SBk_O h hO)), ?_⟩
  rcases tg_sim rfl hk (by omega) (by omega) h with ⟨q, -⟩ | ⟨q, -⟩ | ⟨q, -⟩ | ⟨q, -⟩ | ⟨q, -⟩ | ⟨-, q⟩
  · omega
  · omega
  · omega
  · omega
  · omega
  · rw [q]
    exact hV
theorem xr_set {r c : Nat} {S : Int32} (hk : mj_i (u_G u) r 0 = nI c) (hc : c = 36 ∨ c = 37) (hset : c = 37 → ∀ l, mj_i (u_G u) r 4 = nI l → l < 26 → bt ch l) : xr u ch S S (jtg r) := fun n N B M Sm lc ln op cn V o ra rd sp FG s1 hN hB hV hO hS h => by
  rcases tg_sim rfl hk (by omega) (by omega) h with ⟨-, q1, q2⟩ | ⟨q, -⟩ | ⟨q, -⟩ | ⟨q, -⟩ | ⟨q, q2, l, v, q3, q4, q5, q6⟩ | ⟨q, -⟩
  · rw [q1, q2]
    exact ⟨hS, hV⟩
  · omega
  · omega
  · omega
  · rw [q2, q6]
    exact ⟨hS, VI_st hV hN q5 (Or.inl (hset q l q3 q4))⟩
  · omega
theorem xr_trm {r : Nat} {S S' : Int32} (hk : mj_i (u_G u) r 0 = nI 45) (h1 : ∀ a, bt S a → bt S' a) (h2 : bt S 2 → bt S' 1) : xr u ch S S' (jtg r) := fun n N B M Sm lc ln op cn V o ra rd sp FG s1 hN hB hV hO hS h => by
  rcases tg_sim rfl hk (by decide) (by decide) h with ⟨q, -⟩ | ⟨-, q1, q2⟩ | ⟨q, -⟩ | ⟨q, -⟩ | ⟨q, -⟩ | ⟨q, -⟩
  · exact absurd q (by decide)
  · rw [q1, q2]
    refine ⟨?_, hV⟩
    rcases o_tm_x hO with g | ⟨g, g2⟩
    · rw [g]
      exact h1 _ hS
    · rw [g2]
      exact h2 (g ▸ hS)
  · exact absurd q (by decide)
  · exact absurd q (by decide)
  · exact absurd q (by decide)
  · exact absurd q (by decide)
theorem xr_put {r : Nat} {S S' : Int32} (hk : mj_i (u_G u) r 0 = nI 61) (h1 : ∀ a, bt S a → bt S' a) (h2 : bt S 1 → bt S' 2) (hv : ∀ {N : Nat} {B : Nat → Nat} {M : Nat} {Sm : Nat → Nat} {V : Nat → Nat → Option rv} {ra rd : Nat → Int32} {v : rv} {ra1 rd1 : Nat → Int32}, (∀ s, B s ≤ s) → VI u ch N V → FE u N B M Sm V (mj_r (u_G u) r 6) ra rd (nI 0) v ra1 rd1 → tme v) : xr u ch S S' (jtg r) := fun n N B M Sm lc ln op cn V o ra rd sp FG s1 hN hB hV hO hS h => by
  rcases tg_sim rfl hk (by decide) (by decide) h with ⟨q, -⟩ | ⟨q, -⟩ | ⟨q, -⟩ | ⟨-, q1, src, v, ra1, rd1, q2, q3, q4, q5⟩ | ⟨q, -⟩ | ⟨q, -⟩
  · exact absurd q (by decide)
  · exact absurd q (by decide)
  · exact absurd q (by decide)
  · rw [q1, q5]
    refine ⟨?_, hV⟩
    rcases o_v_x (cx_8 hO) q2.1 (hv hB hV q3) q4 with g | ⟨g, g2⟩
    · rw [g]
      exact h1 _ hS
    · rw [g2]
      exact h2 (g ▸ hS)
  · exact absurd q (by decide)
  · exact absurd q (by decide)
theorem xr_puu {r : Nat} {S : Int32} (hk : mj_i (u_G u) r 0 = nI 61) : xr u ch S (nI 255) (jtg r) := fun n N B M Sm lc ln op cn V o ra rd sp FG s1 hN hB hV hO hS h => by
  refine ⟨x255 (cx_8 (SBk_O h hO)), ?_⟩
  rcases tg_sim rfl hk (by decide) (by decide) h with ⟨q, -⟩ | ⟨q, -⟩ | ⟨q, -⟩ | ⟨-, q1, -⟩ | ⟨q, -⟩ | ⟨q, -⟩
  · exact absurd q (by decide)
  · exact absurd q (by decide)
  · exact absurd q (by decide)
  · rw [q1]
    exact hV
  · exact absurd q (by decide)
  · exact absurd q (by decide)
theorem xr_lit {r T p : Nat} {S S' : Int32} (hk : mj_i (u_G u) r 0 = nI 1) (h1 : mj_i (u_G u) r 1 = nI T) (h2 : mj_i (u_G u) r 2 = nI p) (hT : T < 10) (hp : p < 80) (hw : u_w u T p < 128) (hv : ∀ a, a < 8 → bt S a → bt S' (ld a (u_w u T p))) (h32 : u_w u T p = 32 → ∀ a, bt S a → bt S' a) : xr u ch S S' (jtg r) := fun n N B M Sm lc ln op cn V o ra rd sp FG s1 hN hB hV hO hS h => by
  rcases tg_sim rfl hk (by decide) (by decide) h with ⟨q, -⟩ | ⟨q, -⟩ | ⟨-, q1, T2, p2, q2, q3, q4, q5, q6⟩ | ⟨q, -⟩ | ⟨q, -⟩ | ⟨q, -⟩
  · exact absurd q (by decide)
  · exact absurd q (by decide)
  · have e1 : nI T2 = nI T := q2.2.2.2.1.symm.trans h1
    have e2 : nI p2 = nI p := q2.2.2.2.2.1.symm.trans h2
    rw [z_eq (by omega) (by omega)] at e1 e2
    subst e1
    subst e2
    rw [q1, q6]
    refine ⟨?_, hV⟩
    rcases o_lt_x hw q5 with g | ⟨g, g2⟩
    · rw [g]
      exact hv _ (cx_8 hO) hS
    · rw [g2]
      exact h32 g _ hS
  · exact absurd q (by decide)
  · exact absurd q (by decide)
  · exact absurd q (by decide)
end E09
