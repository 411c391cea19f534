/-! FRAGMENTS THAT HOLD ONE VALUE -/
/-- the variables: none of a scope that is not open; all of them values -/
def VK (N : Nat) (V : Nat → Nat → Option rv) : Prop := (∀ s l, N ≤ s → V s l = none) ∧ ∀ s l v, V s l = some v → rv_t v ≤ 3
section D06
variable {u : wo} {Z : Nat → Prop}
theorem VK_st {N l : Nat} {V : Nat → Nat → Option rv} {v : rv} (h : VK N V) (hN : 1 ≤ N) (hv : rv_t v ≤ 3) : VK N (e_st V (N - 1) l v) := by
  refine ⟨fun s m hs => ?_, fun s m w hw => ?_⟩
  · show (if s = N - 1 ∧ m = l then some v else V s m) = none
    rw [if_neg (by omega)]
    exact h.1 s m hs
  · have hw' : (if s = N - 1 ∧ m = l then some v else V s m) = some w := hw
    by_cases q : s = N - 1 ∧ m = l
    · rw [if_pos q] at hw'
      obtain rfl := Option.some.inj hw'
      exact hv
    · rw [if_neg q] at hw'
      exact h.2 s m w hw'
theorem SBk_V : ∀ {n : Nat} {j : sj} {N : Nat} {B : Nat → Nat} {M : Nat} {S : Nat → Nat} {lc : Nat} {ln : Nat → Nat} {op : Nat} {ch : List en} {s s1 : sS} {e : Int32}, SBk u n j (N, B, M, S, lc, ln, op, ch) s e s1 → 1 ≤ N → VK N s.1 → VK N s1.1 ∧ (2 ≤ j.1 → s1.1 = s.1)
  | 0, _, _, _, _, _, _, _, _, _, _, _, _, h, _, _ => h.elim
  | n + 1, (0, r, _, _), N, B, M, S, lc, ln, op, ch, s, s1, e, h, hN, hV => by
    refine ⟨?_, fun q => absurd q (by show ¬ 2 ≤ 0; decide)⟩
    rcases h with ⟨a1, rfl, rfl⟩ | ⟨a1, e1, s2, a2, a3⟩
    · exact hV
    · have hV2 := (SBk_V a2 hN hV).1
      rcases a3 with ⟨x1, rfl, rfl⟩ | ⟨x1, x2⟩
      · exact hV2
      · exact (SBk_V x2 hN hV2).1
  | n + 1, (1, r, _, _), N, B, M, S, lc, ln, op, ch, s, s1, e, h, hN, hV => by
    refine ⟨?_, fun q => absurd q (by show ¬ 2 ≤ 1; decide)⟩
    obtain ⟨V, o, ra, rd, sp, FG⟩ := s
    rcases h with (⟨T1, p1, n1, rfl, rfl⟩ | ⟨T1, p1, n1, t1, u1, rfl, rfl⟩ | ⟨T1, p1, v1, ra1, rd1, n1, t1, u1, y1, f1, rfl, rfl⟩ | ⟨T1, p1, g1, v1, ra1, rd1, n1, t1, u1, w1, x1, f1, rfl, rfl⟩ | ⟨T1, p1, l1, v1, ra1, rd1, n1, w1, x1, y1, f1, rfl, rfl⟩ | ⟨T1, p1, n1, rfl, rfl⟩ | ⟨T1, p1, c1, v1, ra1, rd1, n1, hc1, he1, f1, rfl⟩ | ⟨T1, p1, v1, ra1, rd1, n1, f1, q1, rfl, rfl⟩ | ⟨ra1, rd1, sp1, h1, rfl⟩ | ⟨rfl, rfl⟩ | ⟨T1, p1, i1, n1, t1, u1, w1, x1, q1⟩) | ⟨T1, p1, v1, ra1, rd1, n1, f1, h1⟩ | ⟨T1, p1, v1, ra1, rd1, n1, f1, q1, h1⟩ | ⟨T1, p1, e1, V1, o1, ra1, rd1, sp1, FG1, n1, h1, q1⟩ | ⟨r1, xx1, lc1, ln1, ch1, V1, ra1, rd1, sp1, W1, o1, rb1, rc1, sq1, FG1, h1, b1, rfl⟩ | ⟨T1, p1, i1, V1, o1, ra1, rd1, sp1, FG1, n1, t1, u1, w1, x1, y1, z1, h1, q1⟩
    · exact hV
    · exact hV
    · exact hV
    · exact hV
    · exact VK_st hV hN y1.1.1
    · exact hV
    · exact hV
    · exact hV
    · exact hV
    · exact hV
    · rcases q1 with ⟨-, -, -, rfl⟩ | ⟨-, -, -, rfl⟩
      · exact hV
      · exact hV
    · exact (SBk_V h1 hN hV).1
    · rcases h1 with ⟨x1, x2⟩ | ⟨x1, x2⟩
      · exact (SBk_V x2 hN hV).1
      · exact (SBk_V x2 hN hV).1
    · rcases q1 with ⟨x1, rfl, rfl⟩ | ⟨x1, -, x2⟩
      · exact hV
      · exact (SBk_V x2 hN hV).1
    · exact hV
    · rcases q1 with ⟨-, rfl⟩ | ⟨-, rfl⟩
      · exact hV
      · exact hV
  | n + 1, (k + 2, r, j, v), N, B, M, S, lc, ln, op, ch, s, s1, e, h, hN, hV => by
    obtain ⟨V, o, ra, rd, sp, FG⟩ := s
    rcases h with ⟨a1, rfl⟩ | ⟨a1, l, e1, V1, o1, ra1, rd1, sp1, FG1, a2, a3, a4, a5⟩
    · exact ⟨hV, fun _ => rfl⟩
    · rcases a5 with ⟨x1, rfl, rfl⟩ | ⟨x1, x2⟩
      · exact ⟨hV, fun _ => rfl⟩
      · obtain ⟨c1, c2⟩ := SBk_V x2 hN hV
        exact ⟨c1, fun _ => c2 (Nat.le_add_left 2 0)⟩
/-- a value, or what stands for none -/
def vw (w : Option Int32) (v : rv) : rv := if rv_t v = 0 then (match w with | none => v | some y => rv_N y) else v
/-- an expression that is a variable, or that and a number for none -/
def KE (u : wo) (r l : Nat) (w : Option Int32) : Prop := l < 26 ∧ ((w = none ∧ mj_i (u_G u) r 0 = nI 3 ∧ mj_i (u_G u) r 1 = nI l) ∨ (mj_i (u_G u) r 0 = nI 100 ∧ mj_i (u_G u) (mj_r (u_G u) r 4) 0 = nI 3 ∧ mj_i (u_G u) (mj_r (u_G u) r 4) 1 = nI l ∧ mj_i (u_G u) (mj_r (u_G u) r 5) 0 = nI 1 ∧ w = some (mj_i (u_G u) (mj_r (u_G u) r 5) 1)))
/-- a fragment's body: one value put out; its source -/
def KB (u : wo) (r l : Nat) (w : Option Int32) (src : Nat) : Prop := mj_r (u_G u) r 8 ≠ 0 ∧ mj_r (u_G u) (mj_r (u_G u) r 8) 10 = 0 ∧ KE u (mj_r (u_G u) (mj_r (u_G u) r 8) 6) l w ∧ ∃ T p, nd u T (mj_r (u_G u) r 8) p 61 ∧ T < 10 ∧ p < 80 ∧ src = 100 * T + p
theorem KE_f {r l N : Nat} {w : Option Int32} {B : Nat → Nat} {M : Nat} {S : Nat → Nat} {V : Nat → Nat → Option rv} {ra rd : Nat → Int32} (h : KE u r l w) : FE u N B M S V r ra rd (nI 0) (vw w (e_vl (u_D u) B V l N)) (e_na B M S l N (e_fd B V l N N) ra) (e_nd B M S l N (e_fd B V l N N) rd) := by
  obtain ⟨hl, h⟩ := h
  rcases h with ⟨rfl, h1, h2⟩ | ⟨h1, h2, h3, h4, rfl⟩
  · have e : vw none (e_vl (u_D u) B V l N) = e_vl (u_D u) B V l N := by
      unfold vw
      by_cases q : rv_t (e_vl (u_D u) B V l N) = 0
      · rw [if_pos q]
      · rw [if_neg q]
    rw [e]
    exact ⟨1, FN.var h1 h2 hl⟩
  · by_cases q : rv_t (e_vl (u_D u) B V l N) = 0
    · rw [show vw (some (mj_i (u_G u) (mj_r (u_G u) r 5) 1)) (e_vl (u_D u) B V l N) = rv_N (mj_i (u_G u) (mj_r (u_G u) r 5) 1) from if_pos q]
      exact ⟨2, FN.els0 h1 q (FN.var h2 h3 hl) (FN.num h4)⟩
    · rw [show vw (some (mj_i (u_G u) (mj_r (u_G u) r 5) 1)) (e_vl (u_D u) B V l N) = e_vl (u_D u) B V l N from if_neg q]
      exact ⟨2, FN.els1 h1 q (FN.var h2 h3 hl)⟩
/-- a tag that puts a value out -/
theorem PT_run {n r l N : Nat} {w : Option Int32} {B : Nat → Nat} {M : Nat} {S : Nat → Nat} {lc : Nat} {ln : Nat → Nat} {op : Nat} {ch : List en} {V : Nat → Nat → Option rv} {o : ost} {ra rd : Nat → Int32} {sp : Nat → Bool} {FG : Nat → kfr} {e : Int32} {s1 : sS} {T p : Nat} (n0 : nd u T r p 61) (hT : T < 10) (hp : p < 80) (hE : KE u (mj_r (u_G u) r 6) l w) (h : SBk u n (jtg r) (N, B, M, S, lc, ln, op, ch) (V, o, ra, rd, sp, FG) e s1) : (e = Int32.ofInt (-9) ∧ s1 = (V, o, ra, rd, sp, FG)) ∨ (e = (o_v (100 * T + p) (vw w (e_vl (u_D u) B V l N)) o).1 ∧ ∃ ra1 rd1, s1 = (V, (o_v (100 * T + p) (vw w (e_vl (u_D u) B V l N)) o).2, ra1, rd1, sp, FG) ∧ pw2 ra rd ra rd ra1 rd1 (e_na B M S l N (e_fd B V l N N) ra) (e_nd B M S l N (e_fd B V l N N) rd)) := by
  have k0 := n0.2.2.2.2.2
  cases n with
  | zero => exact h.elim
  | succ n =>
    rcases h with (⟨T1, p1, n1, rfl, rfl⟩ | ⟨T1, p1, n1, t1, u1, rfl, rfl⟩ | ⟨T1, p1, v1, ra1, rd1, n1, t1, u1, y1, f1, rfl, rfl⟩ | ⟨T1, p1, g1, v1, ra1, rd1, n1, t1, u1, w1, x1, f1, rfl, rfl⟩ | ⟨T1, p1, l1, v1, ra1, rd1, n1, w1, x1, y1, f1, rfl, rfl⟩ | ⟨T1, p1, n1, rfl, rfl⟩ | ⟨T1, p1, c1, v1, ra1, rd1, n1, hc1, he1, f1, rfl⟩ | ⟨T1, p1, v1, ra1, rd1, n1, f1, q1, rfl, rfl⟩ | ⟨ra1, rd1, sp1, h1, rfl⟩ | ⟨rfl, rfl⟩ | ⟨T1, p1, i1, n1, -⟩) | ⟨T1, p1, v1, ra1, rd1, n1, f1, h1⟩ | ⟨T1, p1, v1, ra1, rd1, n1, f1, q1, h1⟩ | ⟨T1, p1, e1, V1, o1, ra1, rd1, sp1, FG1, n1, h1, q1⟩ | ⟨r1, xx1, lc1, ln1, ch1, V1, ra1, rd1, sp1, W1, o1, rb1, rc1, sq1, FG1, h1, b1, rfl⟩ | ⟨T1, p1, i1, V1, o1, ra1, rd1, sp1, FG1, n1, -⟩
    · exact absurd (nkd k0 n1.2.2.2.2.2 (by decide) (by decide)) (by decide)
    · exact absurd (nkd k0 n1.2.2.2.2.2 (by decide) (by decide)) (by decide)
    · obtain rfl := nd_T n0 n1 hT t1
      obtain rfl := nd_p n0 n1 hp u1
      obtain ⟨-, rfl, pf⟩ := FE_det f1 (KE_f (ra := ra) (rd := rd) hE)
      exact Or.inr ⟨rfl, ra1, rd1, rfl, pf⟩
    · exact absurd (nkd k0 n1.2.2.2.2.2 (by decide) (by decide)) (by decide)
    · exact absurd (nkd k0 n1.2.2.2.2.2 (by decide) (by decide)) (by decide)
    · exact absurd (nkd k0 n1.2.2.2.2.2 (by decide) (by decide)) (by decide)
    · exact absurd (FE_det f1 (KE_f (ra := ra) (rd := rd) hE)).1 he1
    · exact absurd (nkd k0 n1.2.2.2.2.2 (by decide) (by decide)) (by decide)
    · obtain ⟨c, hc, k⟩ := OI_kd h1
      exact absurd (nkd k0 k (by decide) (by omega)) (by omega)
    · exact Or.inl ⟨rfl, rfl⟩
    · exact absurd (nkd k0 n1.2.2.2.2.2 (by decide) (by decide)) (by decide)
    · exact absurd (nkd k0 n1.2.2.2.2.2 (by decide) (by decide)) (by decide)
    · exact absurd (nkd k0 n1.2.2.2.2.2 (by decide) (by decide)) (by decide)
    · exact absurd (nkd k0 n1.2.2.2.2.2 (by decide) (by decide)) (by decide)
    · obtain ⟨c, hc, k⟩ := OO_kd h1
      exact absurd (nkd k0 k (by decide) (by omega)) (by omega)
    · exact absurd (nkd k0 n1.2.2.2.2.2 (by decide) (by decide)) (by decide)
/-- a fragment's body rendered -/
theorem KB_run {n r l N src : Nat} {w : Option Int32} {B : Nat → Nat} {M : Nat} {S : Nat → Nat} {lc : Nat} {ln : Nat → Nat} {op : Nat} {ch : List en} {V : Nat → Nat → Option rv} {o : ost} {ra rd : Nat → Int32} {sp : Nat → Bool} {FG : Nat → kfr} {e : Int32} {s1 : sS} (hK : KB u r l w src) (h : SBk u n (jbd (mj_r (u_G u) r 8)) (N, B, M, S, lc, ln, op, ch) (V, o, ra, rd, sp, FG) e s1) : (e = Int32.ofInt (-9) ∧ s1 = (V, o, ra, rd, sp, FG)) ∨ (e = (o_v src (vw w (e_vl (u_D u) B V l N)) o).1 ∧ ∃ ra1 rd1, s1 = (V, (o_v src (vw w (e_vl (u_D u) B V l N)) o).2, ra1, rd1, sp, FG) ∧ pw2 ra rd ra rd ra1 rd1 (e_na B M S l N (e_fd B V l N N) ra) (e_nd B M S l N (e_fd B V l N N) rd)) := by
  obtain ⟨h0, h10, hE, T, p, hn, hT, hp, rfl⟩ := hK
  cases n with
  | zero => exact h.elim
  | succ n =>
    rcases h with ⟨a1, -⟩ | ⟨-, e1, s2, a2, a3⟩
    · exact absurd a1 h0
    · have c := PT_run hn hT hp hE a2
      rcases a3 with ⟨x1, rfl, rfl⟩ | ⟨x1, x2⟩
      · exact c
      · rcases c with ⟨c1, -⟩ | ⟨c1, ra1, rd1, rfl, c2⟩
        · exact absurd (c1.symm.trans x1) (by decide)
        · rw [h10] at x2
          cases n with
          | zero => exact x2.elim
          | succ n =>
            rcases x2 with ⟨-, rfl, rfl⟩ | ⟨y1, -⟩
            · exact Or.inr ⟨x1.symm.trans c1, ra1, rd1, rfl, c2⟩
            · exact absurd rfl y1
end D06
