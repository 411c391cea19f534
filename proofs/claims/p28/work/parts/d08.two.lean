/-! RENDERED TWICE -/
/-- a body as a list of items -/
def RB (u : wo) (Z : Nat → Prop) : List (Nat × Nat) → Nat → Prop
  | [], r => r = 0
  | (k, d) :: l, r => r ≠ 0 ∧ RB u Z l (mj_r (u_G u) r 10) ∧ ((k = 0 ∧ TZ u Z r) ∨ (k = 1 ∧ KN u r d) ∨ (k = 2 ∧ (∃ T p, nd u T r p 64) ∧ mj_i (u_G u) r 3 = nI d ∧ d < 10))
/-- the world is so: bodies without fragments and includes are closed; the bodies of templates are lists of items -/
def NW (u : wo) (Z : Nat → Prop) (b : Nat → List (Nat × Nat)) : Prop := CZ u Z ∧ UL u ∧ (∀ l, l < 26 → rv_t (u_D u l) ≤ 3) ∧ ∀ tg, tg < 10 → (l_of (u_pa u) tg).1 = true → RB u Z (b tg) (u_bd u ((l_of (u_pa u) tg).2.2 ((l_of (u_pa u) tg).2.1 - 1))) ∧ ∀ j, j < (l_of (u_pa u) tg).2.1 → (l_of (u_pa u) tg).2.2 j < 10
section D08
variable {u : wo} {Z : Nat → Prop} {b : Nat → List (Nat × Nat)}
theorem VK_vl {N l : Nat} {B : Nat → Nat} {V : Nat → Nat → Option rv} (hD : ∀ l, l < 26 → rv_t (u_D u l) ≤ 3) (hV : VK N V) (hl : l < 26) : rv_t (e_vl (u_D u) B V l N) ≤ 3 := by
  unfold e_vl
  by_cases q : e_fd B V l N N = 0
  · rw [if_pos q]
    exact hD l hl
  · rw [if_neg q]
    cases hv : V (e_fd B V l N N - 1) l with
    | none => show 0 ≤ 3; decide
    | some v => exact hV.2 _ _ _ hv
theorem VK_up {N : Nat} {V : Nat → Nat → Option rv} (h : VK N V) : VK (N + 1) V := ⟨fun s l hs => h.1 s l (by omega), h.2⟩
/-- an include, once -/
theorem I_tag {n r tg N : Nat} {B : Nat → Nat} {M : Nat} {S : Nat → Nat} {lc : Nat} {ln : Nat → Nat} {op : Nat} {ch : List en} {V : Nat → Nat → Option rv} {o : ost} {ra rd : Nat → Int32} {sp : Nat → Bool} {FG : Nat → kfr} {e : Int32} {s1 : sS} (n0 : ∃ T p, nd u T r p 64) (h3 : mj_i (u_G u) r 3 = nI tg) (ht : tg < 10) (h : SBk u n (jtg r) (N, B, M, S, lc, ln, op, ch) (V, o, ra, rd, sp, FG) e s1) :
    (e = Int32.ofInt (-9) ∧ s1.2.2.2.2.2 = FG) ∨ ((op = 12 ∨ ¬ (l_of (u_pa u) tg).1 = true) ∧ e = Int32.ofInt (-8) ∧ s1.2.2.2.2.2 = FG) ∨ (op < 12 ∧ (l_of (u_pa u) tg).1 = true ∧ ∃ n' V' o' ra1 rd1 sp1 FG1, n' < n ∧ SBk u n' (jbd (u_bd u ((l_of (u_pa u) tg).2.2 ((l_of (u_pa u) tg).2.1 - 1)))) (N + 1, e_bh B N N, M, S, (l_of (u_pa u) tg).2.1, (l_of (u_pa u) tg).2.2, op + 1, []) (V, o, ra, rd, sp, FG) e (V', o', ra1, rd1, sp1, FG1) ∧ s1 = (V, o', ra1, rd1, sp1, FG1)) := by
  obtain ⟨T, p, n0⟩ := n0
  have k0 := n0.2.2.2.2.2
  cases n with
  | zero => exact h.elim
  | succ n =>
    rcases h with (⟨T1, p1, n1, rfl, rfl⟩ | ⟨T1, p1, n1, t1, u1, rfl, rfl⟩ | ⟨T1, p1, v1, ra1, rd1, n1, t1, u1, y1, f1, rfl, rfl⟩ | ⟨T1, p1, g1, v1, ra1, rd1, n1, t1, u1, w1, x1, f1, rfl, rfl⟩ | ⟨T1, p1, l1, v1, ra1, rd1, n1, w1, x1, y1, f1, rfl, rfl⟩ | ⟨T1, p1, n1, rfl, rfl⟩ | ⟨T1, p1, c1, v1, ra1, rd1, n1, hc1, he1, f1, rfl⟩ | ⟨T1, p1, v1, ra1, rd1, n1, f1, q1, rfl, rfl⟩ | ⟨ra1, rd1, sp1, h1, rfl⟩ | ⟨rfl, rfl⟩ | ⟨T1, p1, i1, n1, -⟩) | ⟨T1, p1, v1, ra1, rd1, n1, f1, h1⟩ | ⟨T1, p1, v1, ra1, rd1, n1, f1, q1, h1⟩ | ⟨T1, p1, e1, V1, o1, ra1, rd1, sp1, FG1, n1, h1, q1⟩ | ⟨r1, xx1, lc1, ln1, ch1, V1, ra1, rd1, sp1, W1, o1, rb1, rc1, sq1, FG1, h1, b1, rfl⟩ | ⟨T1, p1, i1, V1, o1, ra1, rd1, sp1, FG1, n1, -⟩
    · exact absurd (nkd k0 n1.2.2.2.2.2 (by decide) (by decide)) (by decide)
    · exact absurd (nkd k0 n1.2.2.2.2.2 (by decide) (by decide)) (by decide)
    · exact absurd (nkd k0 n1.2.2.2.2.2 (by decide) (by decide)) (by decide)
    · exact absurd (nkd k0 n1.2.2.2.2.2 (by decide) (by decide)) (by decide)
    · exact absurd (nkd k0 n1.2.2.2.2.2 (by decide) (by decide)) (by decide)
    · exact absurd (nkd k0 n1.2.2.2.2.2 (by decide) (by decide)) (by decide)
    · exact absurd (nkd k0 n1.2.2.2.2.2 (by decide) (by omega)) (by omega)
    · exact absurd (nkd k0 n1.2.2.2.2.2 (by decide) (by decide)) (by decide)
    · rcases h1 with ⟨g, k1, a1, -⟩ | ⟨T1, p1, a1, -⟩ | ⟨T1, p1, tg1, a1, a2, a3, a4, rfl, rfl, rfl, rfl⟩ | ⟨T1, p1, a1, -⟩ | ⟨T1, p1, c1, gg, a1, a2, -⟩ | ⟨c1, rm, m2, T2, x, a, e1, g1, a1, -⟩
      · obtain ⟨c, hc, k⟩ := BK_kd a1
        exact absurd (nkd k0 k (by decide) (by omega)) (by omega)
      · exact absurd (nkd k0 a1.2.2.2.2.2 (by decide) (by decide)) (by decide)
      · obtain rfl := nkd h3 a2 (by omega) (by omega)
        exact Or.inr (Or.inl ⟨a4, rfl, rfl⟩)
      · exact absurd (nkd k0 a1.2.2.2.2.2 (by decide) (by decide)) (by decide)
      · exact absurd (nkd k0 a1.2.2.2.2.2 (by decide) (by omega)) (by omega)
      · obtain ⟨hc, k⟩ := CLL_kd a1
        exact absurd (nkd k0 k (by decide) (by omega)) (by omega)
    · exact Or.inl ⟨rfl, rfl⟩
    · exact absurd (nkd k0 n1.2.2.2.2.2 (by decide) (by decide)) (by decide)
    · exact absurd (nkd k0 n1.2.2.2.2.2 (by decide) (by decide)) (by decide)
    · exact absurd (nkd k0 n1.2.2.2.2.2 (by decide) (by decide)) (by decide)
    · exact absurd (nkd k0 n1.2.2.2.2.2 (by decide) (by decide)) (by decide)
    · rcases h1 with ⟨ho, ⟨g, k1, a1, -⟩ | ⟨T1, p1, tg1, a1, a2, a3, a4, rfl, rfl, rfl, rfl, rfl, rfl, rfl, rfl, rfl⟩ | ⟨T1, p1, y, L, a1, -⟩ | ⟨c1, rm, m2, T2, x, a, g1, a1, -⟩⟩
      · obtain ⟨c, hc, k⟩ := BK_kd a1
        exact absurd (nkd k0 k (by decide) (by omega)) (by omega)
      · obtain rfl := nkd h3 a2 (by omega) (by omega)
        exact Or.inr (Or.inr ⟨ho, a4, n, _, _, _, _, _, _, Nat.lt_succ_self n, b1, rfl⟩)
      · exact absurd (nkd k0 a1.2.2.2.2.2 (by decide) (by decide)) (by decide)
      · obtain ⟨hc, k⟩ := CLL_kd a1
        exact absurd (nkd k0 k (by decide) (by omega)) (by omega)
    · exact absurd (nkd k0 n1.2.2.2.2.2 (by decide) (by decide)) (by decide)
/-- fragments that agree where they were met -/
def RF (u : wo) (D : Nat → Prop) (FG FG' : Nat → kfr) : Prop := SF u FG ∧ SF u FG' ∧ ∀ i, i < 10 → D i → AGR u (FG i) (FG' i)
/-- a body rendered by both, with so many more to open -/
def MT (u : wo) (Z : Nat → Prop) (b : Nat → List (Nat × Nat)) (h : Nat) : Prop := ∀ (l P lf : List (Nat × Nat)) (D : Nat → Prop) (r op N : Nat) (B S : Nat → Nat) (lc : Nat) (ln : Nat → Nat) (ch : List en) (V : Nat → Nat → Option rv) (o : ost) (ra rd ra' rd' : Nat → Int32) (sp sp' : Nat → Bool) (FG FG' : Nat → kfr) (n n' : Nat) (e e' : Int32) (s1 s1' : sS), op + h = 12 → lf = P ++ l → RB u Z l r → Cx b h D lf → NP b h P → 1 ≤ N → VK N V → (∀ s, B s ≤ s) → XZ Z lc ln ch → RF u (acc b D P) FG FG' → SBk u n (jbd r) (N, B, 0, S, lc, ln, op, ch) (V, o, ra, rd, sp, FG) e s1 → SBk u n' (jbd r) (N, B, 0, S, lc, ln, op, ch) (V, o, ra', rd', sp', FG') e' s1' → ¬ e = Int32.ofInt (-9) → ¬ e' = Int32.ofInt (-9) → e = e' ∧ (e = nI 0 → s1.1 = s1'.1 ∧ s1.2.1 = s1'.2.1 ∧ RF u (acc b D lf) s1.2.2.2.2.2 s1'.2.2.2.2.2 ∧ NP b h lf)
theorem acc_nil {D : Nat → Prop} {i : Nat} (h : acc b D [] i) : D i := by
  rcases h with h | h | ⟨t, h, -⟩
  · exact h
  · exact nomatch h
  · exact nomatch h
theorem acc_n {D : Nat → Prop} {P : List (Nat × Nat)} {d i : Nat} (h : acc b D (P ++ [(0, d)]) i) : acc b D P i := by
  rcases h with h | h | ⟨t, h, h2⟩
  · exact Or.inl h
  · rcases List.mem_append.mp h with h | h
    · exact Or.inr (Or.inl h)
    · exact absurd (show (1 : Nat) = 0 from congrArg Prod.fst (List.mem_singleton.mp h)) (by decide)
  · rcases List.mem_append.mp h with h | h
    · exact Or.inr (Or.inr ⟨t, h, h2⟩)
    · exact absurd (show (2 : Nat) = 0 from congrArg Prod.fst (List.mem_singleton.mp h)) (by decide)
theorem acc_k {D : Nat → Prop} {P : List (Nat × Nat)} {d i : Nat} (h : acc b D (P ++ [(1, d)]) i) : acc b D P i ∨ i = d := by
  rcases h with h | h | ⟨t, h, h2⟩
  · exact Or.inl (Or.inl h)
  · rcases List.mem_append.mp h with h | h
    · exact Or.inl (Or.inr (Or.inl h))
    · exact Or.inr (show i = d from congrArg Prod.snd (List.mem_singleton.mp h))
  · rcases List.mem_append.mp h with h | h
    · exact Or.inl (Or.inr (Or.inr ⟨t, h, h2⟩))
    · exact absurd (show (2 : Nat) = 1 from congrArg Prod.fst (List.mem_singleton.mp h)) (by decide)
theorem acc_i {D : Nat → Prop} {P : List (Nat × Nat)} {d i : Nat} (h : acc b D (P ++ [(2, d)]) i) : acc b (acc b D P) (b d) i := by
  rcases h with h | h | ⟨t, h, h2⟩
  · exact Or.inl (Or.inl h)
  · rcases List.mem_append.mp h with h | h
    · exact Or.inl (Or.inr (Or.inl h))
    · exact absurd (show (1 : Nat) = 2 from congrArg Prod.fst (List.mem_singleton.mp h)) (by decide)
  · rcases List.mem_append.mp h with h | h
    · exact Or.inl (Or.inr (Or.inr ⟨t, h, h2⟩))
    · obtain rfl : t = d := congrArg Prod.snd (List.mem_singleton.mp h)
      exact Or.inr (Or.inl h2)
theorem NP_n {h k d : Nat} {P : List (Nat × Nat)} (hk : k ≠ 2) (hP : NP b h P) : NP b h (P ++ [(k, d)]) := by
  cases h with
  | zero =>
    intro t ht
    rcases List.mem_append.mp ht with q | q
    · exact hP t q
    · exact hk (show (2 : Nat) = k from congrArg Prod.fst (List.mem_singleton.mp q)).symm
  | succ h =>
    intro t ht
    rcases List.mem_append.mp ht with q | q
    · exact hP t q
    · exact absurd (show (2 : Nat) = k from congrArg Prod.fst (List.mem_singleton.mp q)).symm hk
theorem NP_0 {h : Nat} : NP b h [] := by
  cases h with
  | zero => exact fun t ht => nomatch ht
  | succ h => exact fun t ht => nomatch ht
theorem MT_l (hZ : CZ u Z) (hU : UL u) (hD : ∀ l, l < 26 → rv_t (u_D u l) ≤ 3) (hT : ∀ tg, tg < 10 → (l_of (u_pa u) tg).1 = true → RB u Z (b tg) (u_bd u ((l_of (u_pa u) tg).2.2 ((l_of (u_pa u) tg).2.1 - 1))) ∧ ∀ j, j < (l_of (u_pa u) tg).2.1 → (l_of (u_pa u) tg).2.2 j < 10) {h : Nat} (ih : ∀ h', h = h' + 1 → MT u Z b h') : MT u Z b h := fun l => by
  induction l with
  | nil =>
    intro P lf D r op N B S lc ln ch V o ra rd ra' rd' sp sp' FG FG' n n' e e' s1 s1' ho hlf hR hC hP hN hV hB hX hF h1 h2 h9 g9
    obtain rfl : r = 0 := hR
    rw [List.append_nil] at hlf
    subst hlf
    cases n with
    | zero => exact h1.elim
    | succ n =>
      cases n' with
      | zero => exact h2.elim
      | succ n' =>
        rcases h1 with ⟨-, rfl, rfl⟩ | ⟨a1, -⟩
        · rcases h2 with ⟨-, rfl, rfl⟩ | ⟨b1, -⟩
          · exact ⟨rfl, fun _ => ⟨rfl, rfl, hF, hP⟩⟩
          · exact absurd rfl b1
        · exact absurd rfl a1
  | cons x l ihl =>
    intro P lf D r op N B S lc ln ch V o ra rd ra' rd' sp sp' FG FG' n n' e e' s1 s1' ho hlf hR hC hP hN hV hB hX hF h1 h2 h9 g9
    obtain ⟨k, d⟩ := x
    obtain ⟨r0, hR2, hk⟩ := hR
    cases n with
    | zero => exact h1.elim
    | succ n =>
      cases n' with
      | zero => exact h2.elim
      | succ n' =>
        rcases h1 with ⟨a1, -⟩ | ⟨-, e1, s2, a2, a3⟩
        · exact absurd a1 r0
        rcases h2 with ⟨b1, -⟩ | ⟨-, e2, s3, b2, b3⟩
        · exact absurd b1 r0
        have m1 : ¬ e1 = Int32.ofInt (-9) := by
          rcases a3 with ⟨-, q, -⟩ | ⟨q, -⟩
          · rw [← q]; exact h9
          · rw [q]; decide
        have m2 : ¬ e2 = Int32.ofInt (-9) := by
          rcases b3 with ⟨-, q, -⟩ | ⟨q, -⟩
          · rw [← q]; exact g9
          · rw [q]; decide
        -- the tag, by both
        have tag : e1 = e2 ∧ (e1 = nI 0 → s2.1 = s3.1 ∧ s2.2.1 = s3.2.1 ∧ VK N s2.1 ∧ RF u (acc b D (P ++ [(k, d)])) s2.2.2.2.2.2 s3.2.2.2.2.2 ∧ NP b h (P ++ [(k, d)])) := by
          rcases hk with ⟨rfl, hz⟩ | ⟨rfl, hz⟩ | ⟨rfl, hz1, hz2, hz3⟩
          · -- no fragment in it
            obtain ⟨c1, c2, c3, c4, -, -⟩ := SBk_det hZ a2 (NJ_t hz) hX m1 b2 m2 rfl rfl
            refine ⟨c1, fun q => ⟨(c2 q).1, (c2 q).2, (SBk_V a2 hN hV).1, ?_, NP_n (by decide) hP⟩⟩
            rw [c3, c4]
            exact ⟨hF.1, hF.2.1, fun i hi q => hF.2.2 i hi (acc_n q)⟩
          · -- a fragment
            obtain ⟨hd, hd3, T, p, l0, w, src, n0, hT0, hp0, hpr, hK⟩ := hz
            have hl := KB_l hK
            have ka := K_tag n0 hT0 hp0 hpr hd3 hd hK hU hB (hV.1 N l0 (Nat.le_refl N)) (VK_vl hD hV hl) hN hF.1 a2
            have kb := K_tag n0 hT0 hp0 hpr hd3 hd hK hU hB (hV.1 N l0 (Nat.le_refl N)) (VK_vl hD hV hl) hN hF.2.1 b2
            have agr : op = 12 → AGR u (FG d) (FG' d) := fun q => by
              obtain rfl : h = 0 := by omega
              exact hF.2.2 d hd (Or.inl (hC P d l hlf hP))
            rcases ka with ⟨q, -⟩ | ⟨x1, x2, x3, x4⟩ | ⟨x1, x2, x3, x4⟩
            · exact absurd q m1
            · rcases kb with ⟨q, -⟩ | ⟨y1, y2, y3, y4⟩ | ⟨y1, y2, y3, y4⟩
              · exact absurd q m2
              · refine ⟨x2.trans y2.symm, fun q => ?_⟩
                obtain ⟨z1, z2, F1, z3, z4, z5, z6, z7, z8⟩ := x3 q
                obtain ⟨w1, w2, F2, w3, w4, w5, w6, w7, w8⟩ := y3 ((y2.trans x2.symm).trans q)
                refine ⟨z1.trans w1.symm, z2.trans w2.symm, by rw [z1]; exact hV, ?_, NP_n (by decide) hP⟩
                rw [z3, w3]
                refine ⟨fun i hi hs => ?_, fun i hi hs => ?_, fun i hi q2 => ?_⟩
                · by_cases t : i = d
                  · rw [t, g_us]; exact z4
                  · rw [g_un t] at hs ⊢; exact hF.1 i hi hs
                · by_cases t : i = d
                  · rw [t, g_us]; exact w4
                  · rw [g_un t] at hs ⊢; exact hF.2.1 i hi hs
                · by_cases t : i = d
                  · rw [t, g_us, g_us]
                    exact AGR_of hl z5 z6 w5 w6 z7 z8 w7 w8
                  · rw [g_un t, g_un t]
                    exact hF.2.2 i hi ((acc_k q2).resolve_right t)
              · exfalso
                rcases x1 with x1 | x1
                · exact y1 ((agr y2 _ _ _ _ _ _ _ _).mp x1)
                · omega
            · rcases kb with ⟨q, -⟩ | ⟨y1, y2, y3, y4⟩ | ⟨y1, y2, y3, y4⟩
              · exact absurd q m2
              · exfalso
                rcases y1 with y1 | y1
                · exact x1 ((agr x2 _ _ _ _ _ _ _ _).mpr y1)
                · omega
              · exact ⟨x3.trans y3.symm, fun q => absurd (x3.symm.trans q) (by decide)⟩
          · -- an include
            rcases I_tag hz1 hz2 hz3 a2 with ⟨q, -⟩ | ⟨x1, x2, x3⟩ | ⟨x1, x2, n2, V1, o1, ra1, rd1, sp1, FG1, -, x3, rfl⟩
            · exact absurd q m1
            · rcases I_tag hz1 hz2 hz3 b2 with ⟨q, -⟩ | ⟨y1, y2, y3⟩ | ⟨y1, y2, n3, V2, o2, ra2, rd2, sp2, FG2, -, y3, rfl⟩
              · exact absurd q m2
              · exact ⟨x2.trans y2.symm, fun q => absurd (x2.symm.trans q) (by decide)⟩
              · exfalso
                rcases x1 with x1 | x1
                · omega
                · exact x1 y2
            · rcases I_tag hz1 hz2 hz3 b2 with ⟨q, -⟩ | ⟨y1, y2, y3⟩ | ⟨y1, y2, n3, V2, o2, ra2, rd2, sp2, FG2, -, y3, rfl⟩
              · exact absurd q m2
              · exfalso
                rcases y1 with y1 | y1
                · omega
                · exact y1 x2
              · obtain ⟨h', rfl⟩ : ∃ h', h = h' + 1 := ⟨h - 1, by omega⟩
                obtain ⟨t1, t2⟩ := hT d hz3 x2
                obtain ⟨c1, c2⟩ := ih h' rfl (b d) [] (b d) (acc b D P) _ (op + 1) (N + 1) (e_bh B N N) S _ _ [] V o ra rd ra' rd' sp sp' FG FG' n2 n3 e1 e2 _ _ (by omega) rfl t1 (hC P d l hlf hP) (NP_0 (b := b)) (by omega) (VK_up hV) (bh_le hB) ⟨t2, fun y hy => nomatch hy⟩ ⟨hF.1, hF.2.1, fun i hi q => hF.2.2 i hi (acc_nil q)⟩ x3 y3 m1 m2
                refine ⟨c1, fun q => ?_⟩
                obtain ⟨-, d2, d3, d4⟩ := c2 q
                refine ⟨rfl, d2, hV, ⟨d3.1, d3.2.1, fun i hi q2 => d3.2.2 i hi (acc_i q2)⟩, fun t ht => ?_⟩
                rcases List.mem_append.mp ht with q | q
                · exact hP t q
                · obtain rfl : t = d := congrArg Prod.snd (List.mem_singleton.mp q)
                  exact NP_dead d4
        rcases a3 with ⟨x1, rfl, rfl⟩ | ⟨x1, x2⟩
        · rcases b3 with ⟨y1, rfl, rfl⟩ | ⟨y1, y2⟩
          · exact ⟨tag.1, fun q => absurd q x1⟩
          · exact absurd (tag.1.trans y1) x1
        · rcases b3 with ⟨y1, rfl, rfl⟩ | ⟨y1, y2⟩
          · exact absurd (tag.1.symm.trans x1) y1
          · obtain ⟨V2, o2, ra2, rd2, sp2, FG2⟩ := s2
            obtain ⟨V3, o3, ra3, rd3, sp3, FG3⟩ := s3
            obtain ⟨d1, d2, d3, d4, d5⟩ := tag.2 x1
            obtain rfl : V2 = V3 := d1
            obtain rfl : o2 = o3 := d2
            exact ihl (P ++ [(k, d)]) lf D _ op N B S lc ln ch V2 o2 ra2 rd2 ra3 rd3 sp2 sp3 FG2 FG3 n n' e e' s1 s1' ho (by rw [hlf, List.append_assoc]; rfl) hR2 hC d5 hN d3 hB hX d4 x2 y2 h9 g9
theorem MT_all (hW : NW u Z b) : ∀ h, MT u Z b h := fun h => by
  obtain ⟨hZ, hU, hD, hT⟩ := hW
  induction h with
  | zero => exact MT_l hZ hU hD hT (fun h' q => absurd q (by omega))
  | succ h ih => exact MT_l hZ hU hD hT (fun h' q => by obtain rfl : h = h' := (by omega); exact ih)
end D08
