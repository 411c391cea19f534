/-! THE WORLD OF THE LAW: its templates are bodies of such pieces -/
/-- each tag of each template stands within a piece -/
def LW (u : wo) : Prop := ∀ T, T < 10 → ∀ j, u_w u T j = 123 → tx_T (u_w u T (j + 1)) → inst (u_w u T) j
/-- a body without fragments and includes -/
def ZL (u : wo) (r : Nat) : Prop := r = 0 ∨ ∃ T k b p q L, T < 10 ∧ tb_B k (u_A u) (u_G u) (nI T) b r (u_w u T) p q L ∧ ∀ x, x ∈ L → u_w u T (x.1 + 1) ≠ 64 ∧ u_w u T (x.1 + 1) ≠ 107
section F01
variable {u : wo} {T k p m r : Nat} {b1 : Int32} {L1 : List (Nat × Nat)}
theorem ZL_t (hT : T < 10) (ht : tb_t k (u_A u) (u_G u) (nI T) b1 r (u_w u T) p m L1) (hL : ∀ x, x ∈ L1 → u_w u T (x.1 + 1) ≠ 64 ∧ u_w u T (x.1 + 1) ≠ 107) : ZL u (mj_r (u_G u) r 8) ∧ ZL u (mj_r (u_G u) r 9) := by
  obtain ⟨-, -, -, -, -, -, -, e, -, -, -, h14⟩ := ht
  rcases h14 with ⟨-, -, -, a, a'⟩ | ⟨-, -, a, q1, a2, -⟩ | ⟨-, q1, q2, La, Lb, a2, -, -, -, a6, -, -, -, -, rfl⟩
  · exact ⟨Or.inl a, Or.inl a'⟩
  · exact ⟨Or.inr ⟨T, _, _, _, _, _, hT, a2, hL⟩, Or.inl a⟩
  · exact ⟨Or.inr ⟨T, _, _, _, _, _, hT, a2, fun x hx => hL x (List.mem_append.mpr (Or.inl hx))⟩, Or.inr ⟨T, _, _, _, _, _, hT, a6, fun x hx => hL x (List.mem_append.mpr (Or.inr hx))⟩⟩
theorem TZ_t (hT : T < 10) (ht : tb_t k (u_A u) (u_G u) (nI T) b1 r (u_w u T) p m L1) (h1 : u_w u T (p + 1) ≠ 64) (h2 : u_w u T (p + 1) ≠ 107) (hL : ∀ x, x ∈ L1 → u_w u T (x.1 + 1) ≠ 64 ∧ u_w u T (x.1 + 1) ≠ 107) : TZ u (ZL u) r := fun c hc hk => by
  obtain ⟨z1, z2⟩ := ZL_t hT ht hL
  obtain ⟨-, -, -, -, -, a6, a7, -⟩ := ht
  have := nkd hk a7 hc (by unfold tx_T at a6; omega)
  exact ⟨by omega, by omega, fun _ => ⟨z1, z2⟩, fun _ => z1⟩
theorem TZ_l (h : mj_i (u_G u) r 0 = nI 1) : TZ u (ZL u) r := fun c hc hk => by
  have := nkd hk h hc (by decide)
  exact ⟨by omega, by omega, fun q => absurd q (by omega), fun q => absurd q (by omega)⟩
/-- bodies without fragments and includes hold none in what follows and in what they open -/
theorem CZ_of (hu : uP u) (hw : LW u) : CZ u (ZL u) := by
  have opn : ∀ T y, T < 10 → y ∈ u_L u T → ZL u (mj_r (u_G u) y.2 8) := fun T y hT hy => by
    obtain ⟨-, -, s, k, -, hB⟩ := hu.2.2.2 T hT
    obtain ⟨k', b', m, L1, -, ht, -⟩ := tb_sub hB y hy
    exact (ZL_t hT ht (tg_no ht (hw T hT y.1 ht.2.2.2.2.1 ht.2.2.2.2.2.1))).1
  refine ⟨fun r hr h0 => ?_, fun g T y hg hT hq => opn T y hT (tl_fx_in hq).1, fun g T y hg hT hq => opn T y hT (tl_fx_in hq).1⟩
  rcases hr with hr | ⟨T, k, b, p, q, L, hT, hB, hL⟩
  · exact absurd hr h0
  · cases k with
    | zero => exact hB.elim
    | succ k =>
      rcases hB with ⟨a, -⟩ | ⟨-, -, -, -, -, -, -, -, a8, -, a10⟩ | ⟨-, a2, a3, a4, a5, a6, a7, a8, e, m, L1, L2, he, hH, h125, rfl, h13, h14⟩
      · exact absurd a h0
      · exact ⟨TZ_l a8, Or.inr ⟨T, _, _, _, _, _, hT, a10, hL⟩⟩
      · have ht : tb_t k (u_A u) (u_G u) (nI T) b r (u_w u T) p m L1 := ⟨a2, a3, a4, a5, a6, a7, a8, e, he, hH, h125, h14⟩
        obtain ⟨c1, c2⟩ := hL (p, r) (List.mem_cons_self ..)
        exact ⟨TZ_t hT ht c1 c2 (fun x hx => hL x (List.mem_cons_of_mem _ (List.mem_append.mpr (Or.inl hx)))), Or.inr ⟨T, _, _, _, _, _, hT, h13, fun x hx => hL x (List.mem_cons_of_mem _ (List.mem_append.mpr (Or.inr hx)))⟩⟩
/-- a body as its items -/
theorem RB_of (hw : LW u) (hT : T < 10) (hn : tx_W (u_w u T) (u_n u T)) : ∀ {k : Nat} {b : Int32} {r p q : Nat} {L : List (Nat × Nat)}, tb_B k (u_A u) (u_G u) (nI T) b r (u_w u T) p q L → (∀ x, x ∈ L → x ∈ u_L u T) → ∃ l, RB u (ZL u) l r ∧ ∀ t, (2, t) ∈ l → t = 1 ∨ t = 2
  | 0, _, _, _, _, _, h, _ => h.elim
  | k + 1, b, r, p, q, L, h, hL => by
    have hn80 := hn.1
    rcases h with ⟨a, -⟩ | ⟨-, a2, -, -, -, -, -, -, a8, -, a10⟩ | ⟨a1, a2, a3, a4, a5, a6, a7, a8, e, m, L1, L2, he, hH, h125, rfl, h13, h14⟩
    · exact ⟨[], a, fun t ht => absurd ht List.not_mem_nil⟩
    · obtain ⟨l, l1, l2⟩ := RB_of hw hT hn a10 hL
      refine ⟨(0, 0) :: l, ⟨a2, l1, Or.inl ⟨rfl, TZ_l a8⟩⟩, fun t ht => ?_⟩
      rcases List.mem_cons.mp ht with q | q
      · exact absurd (congrArg Prod.fst q) (by show ¬ 2 = 0; decide)
      · exact l2 t q
    · have ht : tb_t k (u_A u) (u_G u) (nI T) b r (u_w u T) p m L1 := ⟨a2, a3, a4, a5, a6, a7, a8, e, he, hH, h125, h14⟩
      have hi := hw T hT p a6 a7
      obtain ⟨l, l1, l2⟩ := RB_of hw hT hn h13 (fun x hx => hL x (List.mem_cons_of_mem _ (List.mem_append.mpr (Or.inr hx))))
      have hpn : p < u_n u T := tx_in hn (by omega)
      by_cases c7 : u_w u T (p + 1) = 107
      · obtain ⟨d, v, y, d1, d2, d3, d4, d5, d6, d7, d8, d9, d10, d11⟩ := tg_k ht hi c7
        have c4 : u_w u T (p + 4) = 123 := by
          rcases (ix_f hi a6).2.2.1 c7 with hx | hx
          · exact hx 4 (by decide)
          · exact hx 4 (by decide)
        have hp4 : p + 4 < u_n u T := tx_in hn (by omega)
        refine ⟨(1, d) :: l, ⟨a2, l1, Or.inr (Or.inl ⟨rfl, d1, d3, T, p, v, y, _, ⟨a1, a2, a3, a4, a5, c7 ▸ a8⟩, hT, by omega, hL (p, r) (List.mem_cons_self ..), d4, d10, ⟨d2, d11⟩, T, p + 4, ⟨d5, d4, d6, d7, d8, d9⟩, hT, by omega, rfl⟩)⟩, fun t ht => ?_⟩
        rcases List.mem_cons.mp ht with q | q
        · exact absurd (congrArg Prod.fst q) (by show ¬ 2 = 1; decide)
        · exact l2 t q
      · by_cases c6 : u_w u T (p + 1) = 64
        · obtain ⟨h3, h3'⟩ : mj_i (u_G u) r 3 = nI (u_w u T (p + 2) - 48) ∧ True := by
            rcases hH with ⟨a, -⟩ | ⟨a, -⟩ | ⟨a, -⟩ | ⟨-, -, -, a2, -⟩ | ⟨a, -⟩ | ⟨a, -⟩ | ⟨a, -⟩ | ⟨a, -⟩
            · omega
            · omega
            · omega
            · exact ⟨a2, trivial⟩
            all_goals omega
          have c2 := (ix_f hi a6).2.1 c6
          refine ⟨(2, u_w u T (p + 2) - 48) :: l, ⟨a2, l1, Or.inr (Or.inr ⟨rfl, ⟨T, p, a1, a2, a3, a4, a5, c6 ▸ a8⟩, h3, by omega⟩)⟩, fun t ht => ?_⟩
          rcases List.mem_cons.mp ht with q | q
          · have : t = u_w u T (p + 2) - 48 := congrArg Prod.snd q
            omega
          · exact l2 t q
        · refine ⟨(0, 0) :: l, ⟨a2, l1, Or.inl ⟨rfl, TZ_t hT ht c6 c7 (tg_no ht hi)⟩⟩, fun t ht => ?_⟩
          rcases List.mem_cons.mp ht with q | q
          · exact absurd (congrArg Prod.fst q) (by show ¬ 2 = 0; decide)
          · exact l2 t q
/-- the line of a template -/
theorem l_of_ok (hu : uP u) {tg : Nat} (ht : tg < 10) (hok : (l_of (u_pa u) tg).1 = true) : 1 ≤ (l_of (u_pa u) tg).2.1 ∧ ∀ j, j < (l_of (u_pa u) tg).2.1 → (l_of (u_pa u) tg).2.2 j < 10 := by
  obtain ⟨l1, l2, l3, l4⟩ := l_go_p (pa := u_pa u) (fun t ht => (hu.2.2.2 t ht).2.1) (m := 10) (n := 0) (t := tg) (c := fun _ => 0) ht (fun k hk => absurd hk (by omega)) hok
  exact ⟨l2, l3⟩
theorem NW_of (hu : uP u) (hw : LW u) : ∃ b, NW u (ZL u) b ∧ ∀ j t, (2, t) ∈ b j → t = 1 ∨ t = 2 := by
  have one : ∀ tg, ∃ l : List (Nat × Nat), (tg < 10 → (l_of (u_pa u) tg).1 = true → RB u (ZL u) l (u_bd u ((l_of (u_pa u) tg).2.2 ((l_of (u_pa u) tg).2.1 - 1)))) ∧ ∀ t, (2, t) ∈ l → t = 1 ∨ t = 2 := fun tg => by
    by_cases h : tg < 10 ∧ (l_of (u_pa u) tg).1 = true
    · obtain ⟨c1, c2⟩ := l_of_ok hu h.1 h.2
      have hT := c2 ((l_of (u_pa u) tg).2.1 - 1) (by omega)
      obtain ⟨hW, -, s, k, -, hB⟩ := hu.2.2.2 _ hT
      obtain ⟨l, l1, l2⟩ := RB_of hw hT hW hB (fun x hx => hx)
      exact ⟨l, fun _ _ => l1, l2⟩
    · exact ⟨[], fun h1 h2 => absurd ⟨h1, h2⟩ h, fun t ht => absurd ht List.not_mem_nil⟩
  obtain ⟨b, hb⟩ := Classical.skolem.mp one
  exact ⟨b, ⟨CZ_of hu hw, UL_of hu, fun l hl => (hu.1 l hl).1.1, fun tg ht hok => ⟨(hb tg).1 ht hok, (l_of_ok hu ht hok).2⟩⟩, fun j => (hb j).2⟩
theorem l_of_0 {pa : Nat → Nat} {t : Nat} (h : pa t = 0) : (l_of pa t).1 = true ∧ (l_of pa t).2.1 = 1 ∧ (l_of pa t).2.2 0 = t := by
  have e : l_of pa t = (true, 0 + 1, l_ad (fun _ => 0) 0 t) := by
    unfold l_of
    unfold l_go
    exact if_pos h
  rw [e]
  exact ⟨rfl, rfl, show (if 0 = 0 then t else 0) = t from if_pos rfl⟩
/-- where a template may end: a set with some context, of eight; a rendering of it ends there -/
theorem ME_of {G : mj_G} {ch : Int32} (hu : uP u) (hw : LW u) (hDT : ∀ l, l < 26 → tme (u_D u l)) (hS : cs_S G) (hT : T < 10) (hA : ∀ a, u_A u a → mj_k G a = mj_k (u_G u) a ∧ (∀ j, mj_r G a j = mj_r (u_G u) a j) ∧ ∀ j, mj_i G a j = mj_i (u_G u) a j) (hch : ∀ i, i < 26 → (bt ch i ↔ tl_st (u_w u T) i (u_L u T))) : ∃ v, s8 v ∧ ne8 v ∧ (∀ d K, 400 ≤ d → K v G → Fo_through d (u_bd u T) (nI 1) ch (nI 0) G K) ∧ (u_pa u T = 0 → ∀ (FG : Nat → kfr) (o : ost) (FG1 : Nat → kfr), SF u FG → RR u T FG (nI 0) o FG1 → bt v (cx o)) := by
  obtain ⟨b, hW, hb⟩ := NW_of hu hw
  obtain ⟨hWT, -, s, k, hP, hB⟩ := hu.2.2.2 T hT
  have hn := hWT.1
  have hsn := tb_le hB
  have hset : gdS (u_w u T) ch (u_L u T) := fun x hx h37 => by
    obtain ⟨k', b', m, L1, -, ht, -⟩ := tb_sub hB x hx
    obtain ⟨-, -, -, -, -, -, -, e, he, hH, -⟩ := ht
    have hL : tx_L (u_w u T (x.1 + 2)) := by
      rcases hH with ⟨a, -⟩ | ⟨-, a, -⟩ | ⟨a, -⟩ | ⟨a, -⟩ | ⟨a, -⟩ | ⟨a, -⟩ | ⟨a, -⟩ | ⟨a, -⟩
      · omega
      · exact a
      all_goals omega
    unfold tx_L at hL
    exact (hch _ (by omega)).mpr ⟨x, hx, h37, by omega⟩
  obtain ⟨l, l1, -⟩ := RB_of hw hT hWT hB (fun x hx => hx)
  have b0 : bt (nI 1) 0 := by
    have : (nI 1).toBitVec.getLsbD 0 = true := by decide
    exact this
  have main : ∀ (lc : Nat) (ln : Nat → Nat), (∀ j, j < lc → ln j < 10) → ∃ v, s8 v ∧ ne8 v ∧ (∀ d K, 400 ≤ d → K v G → Fo_through d (u_bd u T) (nI 1) ch (nI 0) G K) ∧ xk u ch lc ln (nI 1) v (jbd (u_bd u T)) := fun lc ln hln => by
    obtain ⟨v, v1, v2, v3, v4⟩ := xk_all (lc := lc) (ln := ln) (ch := ch) hS hWT rfl hT hA hu.1 hDT hW hln (fun ht x hx => (tg_no ht (hw T hT _ ht.2.2.2.2.1 ht.2.2.2.2.2.1) x hx).2) hB l1 (Nat.le_refl _) hset (nI 1) 0 (s8_nI (by decide)) (Nat.zero_le _)
    refine ⟨v, v1, v4 ⟨0, by decide, b0⟩, fun d K hd hK => ?_, v3⟩
    obtain ⟨d, rfl⟩ : ∃ e, d = e + 1 := ⟨d - 1, by omega⟩
    exact w_Fo_through hS (z_bt (by decide) (v2 (d + 1) K (by omega) hK))
  by_cases hpa : u_pa u T = 0
  · obtain ⟨c1, c2, c3⟩ := l_of_0 hpa
    obtain ⟨v, v1, v2, v3, v4⟩ := main (l_of (u_pa u) T).2.1 (l_of (u_pa u) T).2.2 (fun j hj => by rw [show j = 0 by omega, c3]; exact hT)
    refine ⟨v, v1, v2, v3, fun _ FG o FG1 hF hR => ?_⟩
    rcases hR with ⟨-, V', ra', rd', sp', i, hR⟩ | ⟨q, -⟩
    · have e : (l_of (u_pa u) T).2.2 ((l_of (u_pa u) T).2.1 - 1) = T := by rw [c2]; exact c3
      rw [e] at hR
      exact (v4 i _ o_0 _ _ _ FG _ VI_0 OX_0 hF b0 hR).1
    · exact absurd c1 q
  · obtain ⟨v, v1, v2, v3, -⟩ := main 0 (fun _ => 0) (fun j hj => absurd hj (Nat.not_lt_zero j))
    exact ⟨v, v1, v2, v3, fun q => absurd q hpa⟩
end F01
