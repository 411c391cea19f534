/-! RENDERED TWICE: what is said of renderings -/
section D09
variable {u : wo} {Z : Nat → Prop} {b : Nat → List (Nat × Nat)}
/-- a body that touches no fragment leaves them as they are -/
theorem SBk_F (hZ : CZ u Z) : ∀ {n : Nat} {j : sj} {N : Nat} {B : Nat → Nat} {M : Nat} {S : Nat → Nat} {lc : Nat} {ln : Nat → Nat} {op : Nat} {ch : List en} {s s1 : sS} {e : Int32}, SBk u n j (N, B, M, S, lc, ln, op, ch) s e s1 → NJ u Z j → XZ Z lc ln ch → s1.2.2.2.2.2 = s.2.2.2.2.2
  | 0, _, _, _, _, _, _, _, _, _, _, _, _, h, _, _ => h.elim
  | n + 1, (0, r, _, _), N, B, M, S, lc, ln, op, ch, s, s1, e, h, hj, hX => by
    have hr : Z r := hj.1 rfl
    rcases h with ⟨a1, rfl, rfl⟩ | ⟨a1, e1, s2, a2, a3⟩
    · rfl
    · have c := SBk_F hZ a2 (NJ_t (hZ.1 r hr a1).1) hX
      rcases a3 with ⟨x1, rfl, rfl⟩ | ⟨x1, x2⟩
      · exact c
      · exact (SBk_F hZ x2 (NJ_b (hZ.1 r hr a1).2) hX).trans c
  | n + 1, (1, r, _, _), N, B, M, S, lc, ln, op, ch, s, s1, e, h, hj, hX => by
    have hr : TZ u Z r := hj.2.1 rfl
    obtain ⟨V, o, ra, rd, sp, FG⟩ := s
    rcases h with (⟨T1, p1, n1, rfl, rfl⟩ | ⟨T1, p1, n1, t1, u1, rfl, rfl⟩ | ⟨T1, p1, v1, ra1, rd1, n1, t1, u1, y1, f1, rfl, rfl⟩ | ⟨T1, p1, g1, v1, ra1, rd1, n1, t1, u1, w1, x1, f1, rfl, rfl⟩ | ⟨T1, p1, l1, v1, ra1, rd1, n1, w1, x1, y1, f1, rfl, rfl⟩ | ⟨T1, p1, n1, rfl, rfl⟩ | ⟨T1, p1, c1, v1, ra1, rd1, n1, hc1, he1, f1, rfl⟩ | ⟨T1, p1, v1, ra1, rd1, n1, f1, q1, rfl, rfl⟩ | ⟨ra1, rd1, sp1, h1, rfl⟩ | ⟨rfl, rfl⟩ | ⟨T1, p1, i1, n1, -⟩) | ⟨T1, p1, v1, ra1, rd1, n1, f1, h1⟩ | ⟨T1, p1, v1, ra1, rd1, n1, f1, q1, h1⟩ | ⟨T1, p1, e1, V1, o1, ra1, rd1, sp1, FG1, n1, h1, q1⟩ | ⟨r1, xx1, lc1, ln1, ch1, V1, ra1, rd1, sp1, W1, o1, rb1, rc1, sq1, FG1, h1, b1, rfl⟩ | ⟨T1, p1, i1, V1, o1, ra1, rd1, sp1, FG1, n1, -⟩
    · rfl
    · rfl
    · rfl
    · rfl
    · rfl
    · rfl
    · rfl
    · rfl
    · rfl
    · rfl
    · exact absurd rfl (hr 107 (by decide) n1.2.2.2.2.2).2.1
    · have kz := (hr 63 (by decide) n1.2.2.2.2.2).2.2.1 (Or.inl rfl)
      refine SBk_F (s := (V, o, ra1, rd1, sp, FG)) hZ h1 (NJ_b ?_) hX
      by_cases tv : rv_B (rv_tr v1) = true
      · rw [if_pos tv]; exact kz.1
      · rw [if_neg tv]; exact kz.2
    · have kz := (hr 42 (by decide) n1.2.2.2.2.2).2.2.1 (Or.inr (Or.inr rfl))
      rcases h1 with ⟨x1, x2⟩ | ⟨x1, x2⟩
      · exact SBk_F (s := (V, o, ra1, rd1, sp, FG)) hZ x2 (NJ_b kz.2) hX
      · exact SBk_F (s := (V, o, ra1, rd1, sp, FG)) hZ x2 (NJ_l kz.1) hX
    · have kz := (hr 43 (by decide) n1.2.2.2.2.2).2.2.1 (Or.inr (Or.inl rfl))
      have c := SBk_F hZ h1 (NJ_b kz.1) hX
      rcases q1 with ⟨x1, rfl, rfl⟩ | ⟨x1, -, x2⟩
      · exact c
      · exact (SBk_F hZ x2 (NJ_b kz.2) hX).trans c
    · obtain ⟨z1, z2⟩ := OO_Z hZ hr hX h1
      exact SBk_F (s := (V1, o, ra1, rd1, sp1, FG)) (s1 := (W1, o1, rb1, rc1, sq1, FG1)) hZ b1 (NJ_b z1) z2
    · exact absurd rfl (hr 107 (by decide) n1.2.2.2.2.2).2.1
  | n + 1, (k + 2, r, j, v), N, B, M, S, lc, ln, op, ch, s, s1, e, h, hj, hX => by
    have hr8 : Z (mj_r (u_G u) r 8) := hj.2.2 (Nat.le_add_left 2 k)
    obtain ⟨V, o, ra, rd, sp, FG⟩ := s
    rcases h with ⟨a1, rfl⟩ | ⟨a1, l, e1, V1, o1, ra1, rd1, sp1, FG1, a2, a3, a4, a5⟩
    · rfl
    · have c := SBk_F hZ a4 (NJ_b hr8) hX
      rcases a5 with ⟨x1, rfl, rfl⟩ | ⟨x1, x2⟩
      · exact c
      · exact (SBk_F hZ x2 (NJ_l hr8) hX).trans c
/-- fragments stay sound, however a rendering ends -/
def MS (u : wo) (Z : Nat → Prop) (h : Nat) : Prop := ∀ (l : List (Nat × Nat)) (r op N : Nat) (B S : Nat → Nat) (lc : Nat) (ln : Nat → Nat) (ch : List en) (V : Nat → Nat → Option rv) (o : ost) (ra rd : Nat → Int32) (sp : Nat → Bool) (FG : Nat → kfr) (n : Nat) (e : Int32) (s1 : sS), op + h = 12 → RB u Z l r → 1 ≤ N → VK N V → (∀ s, B s ≤ s) → XZ Z lc ln ch → SF u FG → SBk u n (jbd r) (N, B, 0, S, lc, ln, op, ch) (V, o, ra, rd, sp, FG) e s1 → SF u s1.2.2.2.2.2
theorem MS_l (hZ : CZ u Z) (hU : UL u) (hD : ∀ l, l < 26 → rv_t (u_D u l) ≤ 3) (hT : ∀ tg, tg < 10 → (l_of (u_pa u) tg).1 = true → RB u Z (b tg) (u_bd u ((l_of (u_pa u) tg).2.2 ((l_of (u_pa u) tg).2.1 - 1))) ∧ ∀ j, j < (l_of (u_pa u) tg).2.1 → (l_of (u_pa u) tg).2.2 j < 10) {h : Nat} (ih : ∀ h', h = h' + 1 → MS u Z h') : MS u Z h := fun l => by
  induction l with
  | nil =>
    intro r op N B S lc ln ch V o ra rd sp FG n e s1 ho hR hN hV hB hX hF h1
    obtain rfl : r = 0 := hR
    cases n with
    | zero => exact h1.elim
    | succ n =>
      rcases h1 with ⟨-, rfl, rfl⟩ | ⟨a1, -⟩
      · exact hF
      · exact absurd rfl a1
  | cons x l ihl =>
    intro r op N B S lc ln ch V o ra rd sp FG n e s1 ho hR hN hV hB hX hF h1
    obtain ⟨k, d⟩ := x
    obtain ⟨r0, hR2, hk⟩ := hR
    cases n with
    | zero => exact h1.elim
    | succ n =>
      rcases h1 with ⟨a1, -⟩ | ⟨-, e1, s2, a2, a3⟩
      · exact absurd a1 r0
      have hF2 : SF u s2.2.2.2.2.2 := by
        rcases hk with ⟨rfl, hz⟩ | ⟨rfl, hz⟩ | ⟨rfl, hz1, hz2, hz3⟩
        · rw [show s2.2.2.2.2.2 = FG from SBk_F hZ a2 (NJ_t hz) hX]
          exact hF
        · obtain ⟨hd, hd3, T, p, l0, w, src, n0, hT0, hp0, hpr, hK⟩ := hz
          have hl := KB_l hK
          rcases K_tag n0 hT0 hp0 hpr hd3 hd hK hU hB (hV.1 N l0 (Nat.le_refl N)) (VK_vl hD hV hl) hN hF a2 with ⟨-, q⟩ | ⟨x1, x2, x3, x4⟩ | ⟨x1, x2, x3, x4⟩
          · rw [q]; exact hF
          · by_cases q : e1 = nI 0
            · obtain ⟨z1, z2, F1, z3, z4, -⟩ := x3 q
              rw [z3]
              intro i hi hs
              by_cases t : i = d
              · rw [t, g_us]; exact z4
              · rw [g_un t] at hs ⊢; exact hF i hi hs
            · rw [x4 q]; exact hF
          · rw [x4]; exact hF
        · rcases I_tag hz1 hz2 hz3 a2 with ⟨-, q⟩ | ⟨x1, x2, x3⟩ | ⟨x1, x2, n2, V1, o1, ra1, rd1, sp1, FG1, -, x3, rfl⟩
          · rw [q]; exact hF
          · rw [x3]; exact hF
          · obtain ⟨h', rfl⟩ : ∃ h', h = h' + 1 := ⟨h - 1, by omega⟩
            obtain ⟨t1, t2⟩ := hT d hz3 x2
            exact ih h' rfl (b d) _ (op + 1) (N + 1) (e_bh B N N) S _ _ [] V o ra rd sp FG n2 e1 (V1, o1, ra1, rd1, sp1, FG1) (by omega) t1 (by omega) (VK_up hV) (bh_le hB) ⟨t2, fun y hy => nomatch hy⟩ hF x3
      have hV2 : VK N s2.1 := (SBk_V a2 hN hV).1
      rcases a3 with ⟨x1, rfl, rfl⟩ | ⟨x1, x2⟩
      · exact hF2
      · obtain ⟨V2, o2, ra2, rd2, sp2, FG2⟩ := s2
        exact ihl _ op N B S lc ln ch V2 o2 ra2 rd2 sp2 FG2 n e s1 ho hR2 hN hV2 hB hX hF2 x2
theorem MS_all (hW : NW u Z b) : ∀ h, MS u Z h := fun h => by
  obtain ⟨hZ, hU, hD, hT⟩ := hW
  induction h with
  | zero => exact MS_l hZ hU hD hT (fun h' q => absurd q (by omega))
  | succ h ih => exact MS_l hZ hU hD hT (fun h' q => by obtain rfl : h = h' := (by omega); exact ih)
theorem VK_0 : VK 1 (fun _ _ => none) := ⟨fun _ _ _ => rfl, fun s l v q => nomatch q⟩
/-- fragments stay sound by a rendering -/
theorem RR_sound {tg : Nat} {FG FG1 : Nat → kfr} {e : Int32} {o : ost} (hW : NW u Z b) (ht : tg < 10) (hF : SF u FG) (h : RR u tg FG e o FG1) : SF u FG1 := by
  rcases h with ⟨hok, V', ra', rd', sp', n, h⟩ | ⟨-, -, rfl⟩
  · obtain ⟨t1, t2⟩ := hW.2.2.2 tg ht hok
    exact MS_all hW 12 (b tg) _ 0 1 (fun _ => 0) (fun _ => 0) _ _ [] _ _ _ _ _ FG n e _ (Nat.zero_add _) t1 (Nat.le_refl 1) VK_0 (fun s => Nat.zero_le s) ⟨t2, fun y hy => nomatch hy⟩ hF h
  · exact hF
/-- rendered twice: the same, whatever fragments were kept, unless the steps were used up -/
theorem RR_two {tg : Nat} {FG FG1 FG' FG1' : Nat → kfr} {e e' : Int32} {o o' : ost} (hW : NW u Z b) (hb : ∀ j, j = 1 ∨ j = 2 → ∀ t, (2, t) ∈ b j → t = 1 ∨ t = 2) (ht : tg < 10) (hl : ∀ t, (2, t) ∈ b tg → t = 1 ∨ t = 2) (hF : SF u FG) (hF' : SF u FG') (h : RR u tg FG e o FG1) (h' : RR u tg FG' e' o' FG1') (h9 : ¬ e = Int32.ofInt (-9)) (g9 : ¬ e' = Int32.ofInt (-9)) : e = e' ∧ (e = nI 0 → o = o') := by
  rcases h with ⟨hok, V', ra', rd', sp', n, h⟩ | ⟨hno, rfl, -⟩
  · rcases h' with ⟨-, V2, ra2, rd2, sp2, n', h'⟩ | ⟨hno, -⟩
    · obtain ⟨t1, t2⟩ := hW.2.2.2 tg ht hok
      obtain ⟨c1, c2⟩ := MT_all hW 12 (b tg) [] (b tg) (fun _ => False) _ 0 1 (fun _ => 0) (fun _ => 0) _ _ [] _ _ _ _ _ _ _ _ FG FG' n n' e e' _ _ (Nat.zero_add _) rfl t1 (Cx_l (h := 9) hb hl) NP_0 (Nat.le_refl 1) VK_0 (fun s => Nat.zero_le s) ⟨t2, fun y hy => nomatch hy⟩ ⟨hF, hF', fun i hi q => (acc_nil q).elim⟩ h h' h9 g9
      exact ⟨c1, fun q => (c2 q).2.1⟩
    · exact absurd hok hno
  · rcases h' with ⟨hok, -⟩ | ⟨-, rfl, -⟩
    · exact absurd hok hno
    · exact ⟨rfl, fun q => absurd q (by decide)⟩
end D09
