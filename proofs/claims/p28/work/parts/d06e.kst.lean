/-! A FRAGMENT'S TAG, once -/
section D06e
variable {u : wo}
theorem sS_i {V1 V : Nat → Nat → Option rv} {o1 o : ost} {ra1 ra rd1 rd : Nat → Int32} {sp1 sp : Nat → Bool} {FG1 FG : Nat → kfr} (h : ((V1, o1, ra1, rd1, sp1, FG1) : sS) = (V, o, ra, rd, sp, FG)) : V1 = V ∧ o1 = o ∧ ra1 = ra ∧ rd1 = rd ∧ sp1 = sp ∧ FG1 = FG := by
  obtain ⟨h1, h⟩ := Prod.mk.inj h
  obtain ⟨h2, h⟩ := Prod.mk.inj h
  obtain ⟨h3, h⟩ := Prod.mk.inj h
  obtain ⟨h4, h⟩ := Prod.mk.inj h
  obtain ⟨h5, h6⟩ := Prod.mk.inj h
  exact ⟨h1, h2, h3, h4, h5, h6⟩
theorem g_ui {α : Type} {f : Nat → α} {i : Nat} : g_u f i (f i) = f := by
  funext k
  by_cases q : k = i
  · rw [q, g_us]
  · exact g_un q
theorem bh_le {B : Nat → Nat} {N : Nat} (hB : ∀ s, B s ≤ s) : ∀ s, e_bh B N N s ≤ s := fun s => by
  unfold e_bh
  by_cases q : s = N
  · rw [if_pos q]
    omega
  · rw [if_neg q]
    exact hB s
/-- what a fragment is told of a value found from its own scope -/
theorem e_wk_k {B : Nat → Nat} {N : Nat} (hB : ∀ s, B s ≤ s) : e_wk (e_bh B N N) N (N + 1) (N + 1) = N := by
  have e2 : e_bh B N N (N + 1 - 1) = N := by
    rw [Nat.add_sub_cancel]
    exact if_pos rfl
  rw [e_wk_s (bh_le hB), if_pos (Nat.lt_succ_self N), e2, e_wk_s (bh_le hB), if_neg (Nat.lt_irrefl N)]
theorem e_na_k {B S : Nat → Nat} {N M l y : Nat} {ra : Nat → Int32} (hB : ∀ s, B s ≤ s) (hN : 1 ≤ N) (hy : y ≤ N) : e_na (e_bh B N N) (M + 1) (g_u S M N) l (N + 1) y (g_u ra M (nI 0)) M = kbit l := by
  unfold e_na
  rw [g_us, g_us, e_wk_k hB, if_pos ⟨Nat.lt_succ_self M, by omega, by omega⟩]
  rfl
theorem e_nd_k {B S : Nat → Nat} {N M l y : Nat} {rd : Nat → Int32} (hB : ∀ s, B s ≤ s) (hN : 1 ≤ N) : e_nd (e_bh B N N) (M + 1) (g_u S M N) l (N + 1) y (g_u rd M (nI 0)) M = nI 0 := by
  unfold e_nd
  rw [g_us, g_us, e_wk_k hB, if_neg (fun q => by omega)]
theorem K_tag {n r i T p l src N : Nat} {w : Option Int32} {B : Nat → Nat} {M : Nat} {S : Nat → Nat} {lc : Nat} {ln : Nat → Nat} {op : Nat} {ch : List en} {V : Nat → Nat → Option rv} {o : ost} {ra rd : Nat → Int32} {sp : Nat → Bool} {FG : Nat → kfr} {e : Int32} {s1 : sS} (n0 : nd u T r p 107) (hT : T < 10) (hp : p < 80) (hpr : (p, r) ∈ u_L u T) (h3 : mj_i (u_G u) r 3 = nI i) (hi : i < 10) (hK : KB u r l w src) (hU : UL u) (hB : ∀ s, B s ≤ s) (hV : V N l = none) (ht : rv_t (e_vl (u_D u) B V l N) ≤ 3) (hN : 1 ≤ N) (hS : SF u FG) (h : SBk u n (jtg r) (N, B, M, S, lc, ln, op, ch) (V, o, ra, rd, sp, FG) e s1) :
    (e = Int32.ofInt (-9) ∧ s1.2.2.2.2.2 = FG) ∨ (((fitS (FG i) T p lc ln o ∧ fitV u (FG i) N B V) ∨ op < 12) ∧ e = (o_v src (vw w (e_vl (u_D u) B V l N)) o).1 ∧ (e = nI 0 → s1.1 = V ∧ s1.2.1 = (o_v src (vw w (e_vl (u_D u) B V l N)) o).2 ∧ ∃ F1, s1.2.2.2.2.2 = g_u FG i F1 ∧ KF u F1 ∧ k_ra F1 = kbit l ∧ k_rd F1 = nI 0 ∧ fitS F1 T p lc ln o ∧ fitV u F1 N B V) ∧ (¬ e = nI 0 → s1.2.2.2.2.2 = FG)) ∨ (¬ (fitS (FG i) T p lc ln o ∧ fitV u (FG i) N B V) ∧ op = 12 ∧ e = Int32.ofInt (-8) ∧ s1.2.2.2.2.2 = FG) := by
  have k0 := n0.2.2.2.2.2
  have hl := KB_l hK
  cases n with
  | zero => exact h.elim
  | succ n =>
    rcases h with (⟨T1, p1, n1, rfl, rfl⟩ | ⟨T1, p1, n1, t1, u1, rfl, rfl⟩ | ⟨T1, p1, v1, ra1, rd1, n1, t1, u1, y1, f1, rfl, rfl⟩ | ⟨T1, p1, g1, v1, ra1, rd1, n1, t1, u1, w1, x1, f1, rfl, rfl⟩ | ⟨T1, p1, l1, v1, ra1, rd1, n1, w1, x1, y1, f1, rfl, rfl⟩ | ⟨T1, p1, n1, rfl, rfl⟩ | ⟨T1, p1, c1, v1, ra1, rd1, n1, hc1, he1, f1, rfl⟩ | ⟨T1, p1, v1, ra1, rd1, n1, f1, q1, rfl, rfl⟩ | ⟨ra1, rd1, sp1, h1, rfl⟩ | ⟨rfl, rfl⟩ | ⟨T1, p1, i1, n1, t1, u1, w1, x1, q1⟩) | ⟨T1, p1, v1, ra1, rd1, n1, f1, h1⟩ | ⟨T1, p1, v1, ra1, rd1, n1, f1, q1, h1⟩ | ⟨T1, p1, e1, V1, o1, ra1, rd1, sp1, FG1, n1, h1, q1⟩ | ⟨r1, xx1, lc1, ln1, ch1, V1, ra1, rd1, sp1, W1, o1, rb1, rc1, sq1, FG1, h1, b1, rfl⟩ | ⟨T1, p1, i1, V1, o1, ra1, rd1, sp1, FG1, n1, t1, u1, w1, x1, y1, z1, h1, q1⟩
    · exact absurd (nkd k0 n1.2.2.2.2.2 (by decide) (by decide)) (by decide)
    · exact absurd (nkd k0 n1.2.2.2.2.2 (by decide) (by decide)) (by decide)
    · exact absurd (nkd k0 n1.2.2.2.2.2 (by decide) (by decide)) (by decide)
    · exact absurd (nkd k0 n1.2.2.2.2.2 (by decide) (by decide)) (by decide)
    · exact absurd (nkd k0 n1.2.2.2.2.2 (by decide) (by decide)) (by decide)
    · exact absurd (nkd k0 n1.2.2.2.2.2 (by decide) (by decide)) (by decide)
    · exact absurd (nkd k0 n1.2.2.2.2.2 (by decide) (by omega)) (by omega)
    · exact absurd (nkd k0 n1.2.2.2.2.2 (by decide) (by decide)) (by decide)
    · obtain ⟨c, hc, k⟩ := OI_kd h1
      exact absurd (nkd k0 k (by decide) (by omega)) (by omega)
    · exact Or.inl ⟨rfl, rfl⟩
    · obtain rfl := nd_T n0 n1 hT t1
      obtain rfl := nd_p n0 n1 hp u1
      obtain rfl := nkd h3 w1 (by omega) (by omega)
      rcases q1 with ⟨f1, f2, rfl, rfl⟩ | ⟨f1, rfl, rfl, rfl⟩
      · obtain ⟨g1, g2, g3⟩ := KF_hit (hS i hi f1.1) hU hpr hK f1 f2
        refine Or.inr (Or.inl ⟨Or.inl ⟨f1, f2⟩, by rw [g1], fun _ => ⟨rfl, by rw [g1], FG i, g_ui.symm, hS i hi f1.1, g2, g3, f1, f2⟩, fun _ => rfl⟩)
      · exact Or.inr (Or.inr ⟨f1, rfl, rfl, rfl⟩)
    · exact absurd (nkd k0 n1.2.2.2.2.2 (by decide) (by decide)) (by decide)
    · exact absurd (nkd k0 n1.2.2.2.2.2 (by decide) (by decide)) (by decide)
    · exact absurd (nkd k0 n1.2.2.2.2.2 (by decide) (by decide)) (by decide)
    · obtain ⟨c, hc, k⟩ := OO_kd h1
      exact absurd (nkd k0 k (by decide) (by omega)) (by omega)
    · obtain rfl := nd_T n0 n1 hT t1
      obtain rfl := nd_p n0 n1 hp u1
      obtain rfl := nkd h3 w1 (by omega) (by omega)
      obtain ⟨v1, v2⟩ := e_vl_n (D := u_D u) (l := l) hB hV
      rcases KB_run hK h1 with ⟨rfl, c2⟩ | ⟨c1, ra2, rd2, c2, c3⟩
      · obtain ⟨rfl, rfl, rfl, rfl, rfl, rfl⟩ : V1 = V ∧ o1 = o ∧ ra1 = g_u ra M (nI 0) ∧ rd1 = g_u rd M (nI 0) ∧ sp1 = g_u sp M false ∧ FG1 = FG := sS_i c2
        rcases q1 with ⟨d1, rfl⟩ | ⟨d1, rfl⟩
        · exact absurd d1 (by decide)
        · exact Or.inl ⟨rfl, rfl⟩
      · rw [v2] at c1 c2
        obtain ⟨rfl, rfl, rfl, rfl, rfl, rfl⟩ : V1 = V ∧ o1 = (o_v src (vw w (e_vl (u_D u) B V l N)) o).2 ∧ ra1 = ra2 ∧ rd1 = rd2 ∧ sp1 = g_u sp M false ∧ FG1 = FG := sS_i c2
        refine Or.inr (Or.inl ⟨Or.inr z1, c1, fun he => ?_, fun he => ?_⟩)
        · rcases q1 with ⟨d1, rfl⟩ | ⟨d1, rfl⟩
          · have m1 : ra1 M = kbit l := ((c3 M).1 rfl).trans (by rw [v1]; exact e_na_k hB hN (e_fd_le hB))
            have m2 : rd1 M = nI 0 := ((c3 M).2 rfl).trans (e_nd_k hB hN)
            have hres : o_v src (vw w (e_vl (u_D u) B V1 l N)) o = (nI 0, (o_v src (vw w (e_vl (u_D u) B V1 l N)) o).2) := by rw [← he, c1]
            have hsp : ¬ g_u sp M false M = true := by rw [g_us]; decide
            refine ⟨rfl, rfl, k_nw u T p r lc ln (o_n o) (o_w o) (o_v src (vw w (e_vl (u_D u) B V1 l N)) o).2 (ra1 M) (rd1 M) N B V1, if_neg hsp, ⟨hT, hp, r, l, w, src, hpr, hK, m1, m2, ht, o, _, ?_, hres, rfl, rfl⟩, m1, m2, ⟨rfl, rfl, rfl, rfl, fun _ _ => rfl, ?_, rfl⟩, fun m hm _ => rv_sk_r, fun m hm _ => rv_sk_r⟩
            · exact (o_v_gr.2.1 (o_n o) (Nat.le_refl _)).symm
            · exact o_v_gr.2.1 (o_n o) (Nat.le_refl _)
          · exact absurd he d1
        · rcases q1 with ⟨d1, rfl⟩ | ⟨d1, rfl⟩
          · exact absurd d1 he
          · rfl
end D06e
