/-! THE BEGINNING of both objects -/
section H0D
def r0_r : Nat → Int32 := fun _ => 0
theorem li_tk {α : Type} : ∀ (n : Nat) (l : List α) (i : Nat), i < n → mv_li (l.take n) i = mv_li l i
  | 0, _, _, h => absurd h (Nat.not_lt_zero _)
  | _ + 1, [], _, _ => rfl
  | _ + 1, _ :: _, 0, _ => rfl
  | n + 1, _ :: xs, i + 1, h => li_tk n xs i (Nat.lt_of_succ_lt_succ h)
def b_or (o : Option (List mv_C)) : List mv_C := match o with
  | some l => l
  | none => []
def b_c1 : List mv_C := b_or (mv_li mw_h_b99.2.2 53)
def b_c2 : List mv_C := b_or (mv_li mw_h_a2.2.2 53)
set_option maxRecDepth 100000 in
theorem b_t1 : mw_h_b99.2.2.take 53 = mw_h_a2.2.2.take 53 := rfl
set_option maxRecDepth 100000 in
theorem b_t2 : b_c1.take 18 = b_c2.take 18 := rfl
set_option maxRecDepth 100000 in
theorem b_e1 : mv_li mw_h_b99.2.2 53 = some b_c1 := rfl
set_option maxRecDepth 100000 in
theorem b_e2 : mv_li mw_h_a2.2.2 53 = some b_c2 := rfl
theorem b_cell {a : Nat} (h : a < 1714) : mv_get mw_h_b99.2.2 a = mv_get mw_h_a2.2.2 a := by
  by_cases q : a / 32 < 53
  · have e : mv_li mw_h_b99.2.2 (a / 32) = mv_li mw_h_a2.2.2 (a / 32) := by
      rw [← li_tk 53 mw_h_b99.2.2 (a / 32) q, b_t1, li_tk 53 mw_h_a2.2.2 (a / 32) q]
    unfold mv_get
    rw [e]
  · have e : a / 32 = 53 := by omega
    have hi : a % 32 < 18 := by omega
    unfold mv_get
    rw [e, b_e1, b_e2]
    show mv_li b_c1 (a % 32) = mv_li b_c2 (a % 32)
    rw [← li_tk 18 b_c1 (a % 32) hi, b_t2, li_tk 18 b_c2 (a % 32) hi]
def b_lg : Option mv_C → Bool
  | some c => c.2.2.2.2.isEmpty
  | none => true
theorem b_long : zb_all 1767 (fun a => !(Nat.beq (mv_kc mw_h_a2.2.2 a) 21) && b_lg (mv_get mw_h_a2.2.2 a)) = true := by decide +kernel
theorem b_n : mw_h_b99.1 = 1714 ∧ mw_h_b99.2.1 = 17239 ∧ mw_h_a2.1 = 1768 ∧ mw_h_a2.2.1 = 236638 ∧ mw_h_a1.1 = 4 ∧ mw_h_a1.2.1 = 4 := ⟨rfl, rfl, rfl, rfl, rfl, rfl⟩
/-- the ghost at the beginning -/
abbrev g0_H : mj_G := mv_dG r0_r mw_h_a2
theorem b_lk {l : List (Nat × Int64)} (h : l.isEmpty = true) (j : Nat) : mv_lk 0 l j = 0 := by
  cases l with
  | nil => rfl
  | cons x xs => cases h
theorem b_lz {a j : Nat} (h : b_lg (mv_get mw_h_a2.2.2 a) = true) : mv_jc mw_h_a2.2.2 a j = 0 := by
  unfold mv_jc
  split
  · rename_i c hg
    rw [hg] at h
    exact b_lk h j
  · rfl
theorem g0_J : jw_J g0_H := by
  have key : ∀ a, a ≠ 1767 → mj_k g0_H a ≠ 21 ∧ ∀ j, mj_j g0_H a j = 0 := fun a ha => by
    by_cases q : a < 1767
    · have h : (!(Nat.beq (mv_kc mw_h_a2.2.2 a) 21) && b_lg (mv_get mw_h_a2.2.2 a)) = true := zb_of b_long a q
      rw [Bool.and_eq_true] at h
      refine ⟨fun e => ?_, fun j => ?_⟩
      · have h1 := h.1
        rw [show mv_kc mw_h_a2.2.2 a = 21 from e] at h1
        cases h1
      · have h2 := h.2
        exact b_lz h2
    · have hn := bg_hi (a := a) (by omega)
      refine ⟨fun e => ?_, fun j => ?_⟩
      · have h1 : mv_kc mw_h_a2.2.2 a = 21 := e
        rw [bg_k0 (by omega)] at h1
        cases h1
      · exact b_lz (by rw [hn]; rfl)
  exact ⟨fun a ha => (key a ha).1, fun a j ha => (key a ha).2 j⟩
theorem g0_f {P : Prop} (h : false = true) : P := by cases h
theorem g0_X : LXq s0 := ⟨fun T _ j h => absurd h s0_x, fun l _ h => absurd h s0_2, fun i _ h => g0_f h, fun i _ h => g0_f h, fun i h => absurd h (Nat.not_lt_zero i), by decide⟩
theorem g0_B : OB 0 s0 g0_H := ⟨s0_Q, g0_X, ⟨s0_r, s0_C⟩, g0_J, by
  have e1 : pw 1 2 g0_H = 2120 := bm_pw.trans bm_p1
  have e0 : mj_n g0_H = 1768 := rfl
  omega, by
  have e2 : pw 300 8 g0_H = 328160 := bm_pw.trans bm_p2
  have e0 : mj_u g0_H = 236638 := rfl
  omega⟩
theorem g0_mS : mm_S g0_H := by
  have h6 := bg_6
  rw [Bool.and_eq_true, Bool.and_eq_true, Bool.and_eq_true] at h6
  refine ⟨Nat.eq_of_beq_eq_true h6.1.1.1, fun p hp => ?_⟩
  have h := List.all_eq_true.mp bg_5 p hp
  rw [Bool.and_eq_true, Bool.and_eq_true, Bool.and_eq_true] at h
  obtain ⟨⟨a, b⟩, c, d⟩ := h
  have h2 : 2 ≤ p.2.1 := Nat.le_of_ble_eq_true c
  exact ⟨Nat.eq_of_beq_eq_true a, Nat.eq_of_beq_eq_true b, (bg_l (by omega)).trans (Nat.eq_of_beq_eq_true d)⟩
theorem g0_M : ∃ Gm, mm_S Gm := ⟨_, g0_mS⟩
/-- the constructor on a new cell of the law's heap -/
def f3_0 (c : Nat) : Nat → Nat := fun a => if a = 3 then c else a
theorem h1_2 : ∀ j, mj_i (mv_dG r0_r mw_h_a1) 2 j = 0 ∧ mj_r (mv_dG r0_r mw_h_a1) 2 j = 0 ∧ mj_j (mv_dG r0_r mw_h_a1) 2 j = 0 := fun _ => ⟨rfl, rfl, rfl⟩
theorem h1_3 : ∀ j, mj_i (mv_dG r0_r mw_h_a1) 3 j = 0 ∧ mj_r (mv_dG r0_r mw_h_a1) 3 j = 0 ∧ mj_j (mv_dG r0_r mw_h_a1) 3 j = 0 := fun _ => ⟨rfl, rfl, rfl⟩
/-- cell 2 is the system's empty row -/
def c2_0 (G : mj_G) : Prop := mj_k G 2 = 22 ∧ mj_l G 2 = 0 ∧ ∀ j, mj_i G 2 j = 0 ∧ mj_r G 2 j = 0 ∧ mj_j G 2 j = 0
theorem v0_S {G : mj_G} (hn : 3 ≤ mj_n G) (h2 : c2_0 G) : zv_S (f3_0 (mj_n G)) (fun a => a = 2 ∨ a = 3) (mv_dG r0_r mw_h_a1) (mj_al G 13 (rj_N 12) (fun _ => 0)) := by
  have hne : (2 : Nat) ≠ mj_n G := by omega
  refine ⟨fun a ha => ?_, fun a b ha hb e => ?_, Or.inl rfl, rfl, rfl⟩
  · rcases ha with rfl | rfl
    · refine ⟨⟨by decide, by decide, ?_, Or.inl ⟨rfl, rfl⟩⟩, (z_kAn hne).trans h2.1, (z_lAn hne).trans h2.2.1, fun j => (z_iAn hne).trans (h2.2.2 j).1, fun j => ?_, fun j => ⟨Or.inl rfl, (z_rAn hne).trans (h2.2.2 j).2.1⟩⟩
      · show 2 < mj_n G + 1
        omega
      · show (if 2 = mj_n G then (0 : Int64) else mj_j G 2 j) = 0
        rw [if_neg hne]
        exact (h2.2.2 j).2.2
    · refine ⟨⟨by decide, by decide, ?_, Or.inr ⟨by decide, hn⟩⟩, z_kAs, z_lAs, fun j => z_iAs, fun j => ?_, fun j => ⟨Or.inl rfl, z_rAs⟩⟩
      · show mj_n G < mj_n G + 1
        omega
      · show (if mj_n G = mj_n G then (0 : Int64) else mj_j G (mj_n G) j) = 0
        rw [if_pos rfl]
  · have e' : (if a = 3 then mj_n G else a) = (if b = 3 then mj_n G else b) := e
    rcases ha with rfl | rfl
    · rcases hb with rfl | rfl
      · rfl
      · rw [if_neg (by decide), if_pos rfl] at e'
        omega
    · rcases hb with rfl | rfl
      · rw [if_pos rfl, if_neg (by decide)] at e'
        omega
      · rfl
/-- what the constructor left is the ghost at the beginning -/
theorem v0_2 {φ : Nat → Nat} {D : Nat → Prop} {G : mj_G} (h : zv_S φ D (mv_dG r0_r mw_h_b99) G) : zv_S φ D g0_H G := by
  refine ⟨fun a ha => ?_, h.2.1, h.2.2.1, rfl, rfl⟩
  obtain ⟨⟨c1, c2, c3, c4⟩, k, l, i, j, r⟩ := h.1 a ha
  have ha' : a < 1714 := c2
  have hg := b_cell ha'
  have hne : a ≠ 1 := by omega
  have ek : mj_k (mv_dG r0_r mw_h_b99) a = mj_k g0_H a := by
    show mv_kc mw_h_b99.2.2 a = mv_kc mw_h_a2.2.2 a
    unfold mv_kc
    rw [hg]
  have el : mj_l (mv_dG r0_r mw_h_b99) a = mj_l g0_H a := by
    show (if a = 1 then _ else mv_lc mw_h_b99.2.2 a) = (if a = 1 then _ else mv_lc mw_h_a2.2.2 a)
    rw [if_neg hne, if_neg hne]
    unfold mv_lc
    rw [hg]
  have ei : ∀ x, mj_i (mv_dG r0_r mw_h_b99) a x = mj_i g0_H a x := fun x => by
    show (if a = 1 then _ else mv_dI r0_r (mv_ic mw_h_b99.2.2 a x)) = (if a = 1 then _ else mv_dI r0_r (mv_ic mw_h_a2.2.2 a x))
    rw [if_neg hne, if_neg hne]
    unfold mv_ic
    rw [hg]
  have er : ∀ x, mj_r (mv_dG r0_r mw_h_b99) a x = mj_r g0_H a x := fun x => by
    show mv_rc mw_h_b99.2.2 a x = mv_rc mw_h_a2.2.2 a x
    unfold mv_rc
    rw [hg]
  have ej : ∀ x, mj_j (mv_dG r0_r mw_h_b99) a x = mj_j g0_H a x := fun x => by
    show mv_jc mw_h_b99.2.2 a x = mv_jc mw_h_a2.2.2 a x
    unfold mv_jc
    rw [hg]
  refine ⟨⟨c1, (by show a < 1768; omega), c3, c4⟩, k.trans ek, l.trans el, fun x => (i x).trans (ei x), fun x => (j x).trans (ej x), fun x => ?_⟩
  rw [← er x]
  exact r x
theorem v0_c {G : mj_G} {d : Nat} {Q : mj_O → mj_G → Prop} (hd : d = 2046) (hn : 3 ≤ mj_n G) (h2 : c2_0 G) (hQ : ∀ φ D G', zv_S φ D g0_H G' → D 3 → φ 3 = mj_n G → ¬ D 1767 → (∀ b, b < mj_n G → (b = 2 ∨ b ≠ mj_n G) → zv_q G G' b) → (∀ a, D a → φ a = 2 ∨ mj_n G ≤ φ a) → mj_n G' = mj_n G + 1711 → mj_u G' = mj_u G + 17239 → Q (.inl none) G') : rj_X d 12000 0 [some (.inr (.inr (mj_n G))), none] [] (mj_al G 13 (rj_N 12) (fun _ => 0)) Q := by
  subst hd
  have hX := mw_c_b (ρ := r0_r) (by decide)
  have hx := zv_X (mi := 12000) (by decide) hX (v0_S hn h2) (fun o ho v e => by
    have ho' : o = some (.inr (.inr 3)) ∨ o = none := by
      rcases List.mem_cons.mp ho with q | q
      · exact Or.inl q
      · rcases List.mem_cons.mp q with q | q
        · exact Or.inr q
        · cases q
    rcases ho' with rfl | rfl
    · cases e
      exact Or.inr (Or.inr rfl)
    · cases e) (fun v hv => by cases hv)
  have hx' : rj_X 2046 12000 0 [some (.inr (.inr (mj_n G))), none] [] (mj_al G 13 (rj_N 12) (fun _ => 0)) _ := hx
  refine rj_X_mono hx' ?_
  rintro o' G' ⟨o1, H1, φ, D, ⟨rfl, rfl⟩, hS, ⟨x1, x2, x3, x4, x5, x6⟩, -, rfl⟩
  have x4' : mj_n G + 1 + 1714 = mj_n G' + 4 := x4
  have x5' : mj_u G + rj_N 12 + 17239 = mj_u G' + 4 := x5
  have e12 : rj_N 12 = 4 := rfl
  refine hQ φ D G' (v0_2 hS) (x1 3 (Or.inr rfl)).1 ((x1 3 (Or.inr rfl)).2.trans (if_pos rfl)) (fun q => ?_) (fun b hb hb2 => ?_) (fun a ha => ?_) (by omega) (by omega)
  · have hc : (1767 : Nat) < 1714 := (hS.1 1767 q).1.2.1
    omega
  · have hq := x6 b (by show b < mj_n G + 1; omega) (by
      by_cases q : b = 2
      · exact Or.inl q
      · refine Or.inr fun a ha e => ?_
        have e' : (if a = 3 then mj_n G else a) = b := e
        rcases ha with rfl | rfl
        · rw [if_neg (by decide)] at e'
          exact q e'.symm
        · rw [if_pos rfl] at e'
          omega)
    have hne : b ≠ mj_n G := by omega
    exact zv_qt ⟨z_kAn hne, z_lAn hne, fun _ => z_iAn hne, fun _ => z_rAn hne, fun j => if_neg hne⟩ hq
  · rcases x2 a ha with q | q
    · have e' : φ a = (if a = 3 then mj_n G else a) := (x1 a q).2
      rcases q with rfl | rfl
      · rw [if_neg (by decide)] at e'
        exact Or.inl e'
      · rw [if_pos rfl] at e'
        exact Or.inr (by omega)
    · have q2 : mj_n G + 1 ≤ φ a := q.2
      exact Or.inr (by omega)
theorem rj_p28 : rj_Pure 260 600000 7300000 := by
  intro L xs hL
  obtain ⟨Gm, hM⟩ := g0_M
  have key : rj_X 2047 14015 0 [some (.inr (.inr 1)), none, none, none, none, none] [] (rj_G0 L xs) (fun o G => o = .inl (some (.inl 1)) ∧ mj_n G ≤ 600000 + 3 ∧ mj_u G ≤ 7300000) := by
    have h2 : c2_0 (rj_G0 L xs) := ⟨rfl, rfl, fun _ => ⟨rfl, rfl, rfl⟩⟩
    refine rk_14015_0 rfl rfl ?_
    refine rc_14015_4 (R := fun G1 => ∃ (φ : Nat → Nat) (D : Nat → Prop), zv_S φ D g0_H G1 ∧ D 3 ∧ φ 3 = 3 ∧ ¬ D 1767 ∧ (∀ b, b < 3 → zv_q (rj_G0 L xs) G1 b) ∧ mj_n G1 = 1714 ∧ mj_u G1 = 17239) z_kAs (v0_c rfl (Nat.le_refl 3) h2 (fun φ D G' a1 a2 a3 a4 a5 a6 a7 a8 => ⟨rfl, φ, D, a1, a2, a3, a4, fun b hb => a5 b hb (Or.inr (by show b ≠ 3; omega)), a7, a8.trans (Nat.zero_add _)⟩)) (fun G1 hR => ?_)
    obtain ⟨φ, D, a1, a2, a3, a4, a5, a7, a8⟩ := hR
    have h2' : c2_0 G1 := by
      have q := a5 2 (by decide)
      exact ⟨q.1, q.2.1, fun j => ⟨q.2.2.1 j, q.2.2.2.1 j, q.2.2.2.2 j⟩⟩
    have hq1 := a5 1 (by decide)
    refine rk_14015_7 rfl rfl ?_
    refine rc_14015_12 (R := fun G2 => TW (111, 438798) g0_H g0_H 3 (mj_n G1) G2) z_kAs (v0_c rfl (by omega) h2' (fun ψ E G' b1 b2 b3 b4 b5 b6 b7 b8 => ⟨rfl, φ, D, ψ, E, ⟨TW_o a1 (fun y hy => ?_) (by omega), a2, a3⟩, ⟨b1, b2, b3⟩, fun x y hx hy e => ?_, ⟨rfl, rfl⟩, ?_, ?_, ?_, ⟨a4, b4⟩, Nat.le_refl 1768, Nat.le_refl 1768⟩)) (fun G2 hT => ?_)
    · have hlt := (a1.1 y hy).1.2.2.1
      exact b5 _ hlt (Or.inr (by omega))
    · rcases b6 y hy with q | q
      · exact e.trans q
      · have hlt := (a1.1 x hx).1.2.2.1
        omega
    · show mj_n G' + 111 ≤ 1768 + 1768
      omega
    · show mj_u G' + 438798 ≤ 236638 + 236638
      omega
    · have q := b5 1 (by omega) (Or.inr (by omega))
      refine ⟨q.1.trans hq1.1, ?_⟩
      rw [q.2.1, hq1.2.1]
      show L ≤ 1000
      omega
    · refine rk_14015_15 ?_
      refine w_loop21 (d := 2041) (by decide) hM (fun H' G' c1 c2 => ?_) 90 0 s0 g0_H G2 (by decide) g0_B hT
      obtain ⟨φ9, D9, ψ9, E9, z1, z2, z3, z4, c3, c4, z5⟩ := c2
      have c5 := c1.1
      have c6 := c1.2
      refine ⟨rfl, ?_, ?_⟩
      · have c3' : mj_n G' + 111 ≤ mj_n H' + mj_n H' := c3
        omega
      · have c4' : mj_u G' + 438798 ≤ mj_u H' + mj_u H' := c4
        omega
  exact key
end H0D
