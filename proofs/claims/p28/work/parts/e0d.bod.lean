/-! WHERE A TEMPLATE MAY END: all tags and bodies without kept fragments -/
/-- no kept fragment; a letter that is set is among those told -/
def gdT (w : Nat → Nat) (ch : Int32) (L : List (Nat × Nat)) : Prop := ∀ x, x ∈ L → w (x.1 + 1) ≠ 107 ∧ (w (x.1 + 1) = 37 → bt ch (w (x.1 + 2) - 97))
section E0D
variable {u : wo} {G : mj_G} {ch : Int32} {A : Nat → Prop} {w : Nat → Nat} {n T : Nat}
theorem gdT_l {x : Nat × Nat} {L1 L2 : List (Nat × Nat)} (h : gdT w ch (x :: (L1 ++ L2))) : gdT w ch L1 ∧ gdT w ch L2 := ⟨fun y hy => h y (List.mem_cons_of_mem _ (List.mem_append.mpr (Or.inl hy))), fun y hy => h y (List.mem_cons_of_mem _ (List.mem_append.mpr (Or.inr hy)))⟩
theorem gdT_a {L1 L2 : List (Nat × Nat)} (h : gdT w ch (L1 ++ L2)) : gdT w ch L1 ∧ gdT w ch L2 := ⟨fun y hy => h y (List.mem_append.mpr (Or.inl hy)), fun y hy => h y (List.mem_append.mpr (Or.inr hy))⟩
/-- the class, at a tag -/
theorem xc_tag {k r p m dep c : Nat} {b S : Int32} {L1 : List (Nat × Nat)} (hS : cs_S G) (hA : ∀ a, A a → mj_k G a = mj_k (u_G u) a ∧ (∀ j, mj_r G a j = mj_r (u_G u) a j) ∧ ∀ j, mj_i G a j = mj_i (u_G u) a j) (hAr : A r) (hW : tx_W w n) (ht : tb_t k A (u_G u) (nI T) b r w p m L1) (hc : w (p + 1) = c) : ∀ (S' : Int32), (∀ d (K : Int32 → mj_G → Prop), 3 * (m - p) + 57 ≤ d → K S' G → (c = 36 ∨ c = 37 → K S G) ∧ (c = 42 → Fo_behindLoop d r S ch (nI dep) G (fun v6 G5 => K v6 G5)) ∧ (c = 43 ∨ c = 63 → Fo_through d (mj_r (u_G u) r 8) S ch (nI (dep + 1)) G (fun v8 G7 => (mj_k G7 r = 6) ∧ Fo_through d (mj_r G7 r 9) S ch (nI (dep + 1)) G7 (fun v11 G10 => K (v8 ||| v11) G10))) ∧
      (c = 45 → mm_br (bt S 2) (K (S ||| (nI 2)) G) (K S G)) ∧ (c = 61 → Fo_mayBeSafe d (mj_r (u_G u) r 6) ch (nI 0) G (fun v13 G12 => mm_br (v13 = true) (K (nI 255) G12) (mm_br (bt S 1) (K (S ||| (nI 4)) G12) (K S G12)))) ∧ (c = 107 → Fo_through d (mj_r (u_G u) r 8) S ch (nI (dep + 1)) G (fun v20 G19 => K v20 G19)) ∧ (c = 116 ∨ c = 35 ∨ c = 94 ∨ c = 64 ∨ c = 33 ∨ c = 38 ∨ c = 126 → K (nI 255) G)) → ∀ d (K : Int32 → mj_G → Prop), 3 * (m - p) + 58 ≤ d → K S' G → Fo_behind d r S ch (nI dep) G K := fun S' h d K hd hK => by
  obtain ⟨h1, h2, h3, h4, h5, h6, h7, -⟩ := ht
  have hw := tx_le hW (p + 1)
  subst hc
  obtain ⟨g1, g2, g3⟩ := hA r hAr
  obtain ⟨d, rfl⟩ : ∃ e, d = e + 1 := ⟨d - 1, by omega⟩
  obtain ⟨a1, a2, a3, a4, a5, a6, a7⟩ := h d K (by omega) hK
  refine c_behind hS (by omega) (g1.trans h2) ((g3 0).trans h7) hw (fun q => by unfold tx_T at h6; omega) a1 a2 (fun q => ?_) a4 (fun q => ?_) (fun q => ?_) a7 (Or.inr h6)
  · rw [z_add, g2 8]
    exact a3 q
  · rw [g2 6]
    exact a5 q
  · rw [z_add, g2 8]
    exact a6 q
theorem xs_tag {k r p m dep : Nat} {b S : Int32} {L1 : List (Nat × Nat)} (hS : cs_S G) (hW : tx_W w n) (hw : u_w u T = w) (hT : T < 10) (hA : ∀ a, A a → mj_k G a = mj_k (u_G u) a ∧ (∀ j, mj_r G a j = mj_r (u_G u) a j) ∧ ∀ j, mj_i G a j = mj_i (u_G u) a j) (hD : da (u_D u) (u_I u)) (hDT : ∀ l, l < 26 → tme (u_D u l)) (hAr : A r) (ht : tb_t k A (u_G u) (nI T) b r w p m L1) (hs : s8 S) (hdep : dep ≤ p) (hg : gdT w ch L1) (hc7 : w (p + 1) ≠ 107) (hc3 : w (p + 1) = 37 → bt ch (w (p + 2) - 97))
    (ih : ∀ {b r p' q L}, tb_B k A (u_G u) (nI T) b r w p' q L → q ≤ n → gdT w ch L → xb u G ch r p' q) : ∃ S', s8 S' ∧ (∀ d K, 3 * (m - p) + 58 ≤ d → K S' G → Fo_behind d r S ch (nI dep) G K) ∧ xr u ch S S' (jtg r) ∧ (ne8 S → ne8 S') := by
  have hn := hW.1
  have cls := @xc_tag u G ch A w n T k r p m dep _ b S L1 hS hA hAr hW ht rfl
  obtain ⟨h1, h2, h3, h4, h5, h6, h7, e, h8, h9, h10, h11⟩ := ht
  obtain ⟨g1, g2, g3⟩ := hA r hAr
  have hp1 : p + 1 < n := tx_in hW (by unfold tx_T at h6; omega)
  have hwl := tx_le hW (p + 1)
  have hen : e < n := tx_in hW (by omega)
  have s255 : s8 (nI 255) := s8_nI (by decide)
  have f4 : nI 4 = mm_shl (nI 1) (nI 2) := by decide
  have f2 : nI 2 = mm_shl (nI 1) (nI 1) := by decide
  have n255 : ne8 S → ne8 (nI 255) := fun _ => ⟨0, by decide, x255 (by decide)⟩
  have hme : m = e + 1 ∨ e + 4 ≤ m := by
    rcases h11 with ⟨-, rfl, -⟩ | ⟨-, -, -, q1, a2, -, -, -, rfl⟩ | ⟨-, q1, q2, La, Lb, a2, -, -, -, a6, -, -, -, rfl, -⟩
    · exact Or.inl rfl
    · have := tb_le a2
      omega
    · have := tb_le a2
      have := tb_le a6
      omega
  by_cases c1 : w (p + 1) = 116 ∨ w (p + 1) = 35 ∨ w (p + 1) = 94 ∨ w (p + 1) = 64 ∨ w (p + 1) = 33 ∨ w (p + 1) = 38 ∨ w (p + 1) = 126
  · exact ⟨nI 255, s255, cls _ (fun d K hd hK => ⟨fun q => absurd q (by omega), fun q => absurd q (by omega), fun q => absurd q (by omega), fun q => absurd q (by omega), fun q => absurd q (by omega), fun q => absurd q (by omega), fun _ => hK⟩), xr_255 h7 c1, n255⟩
  by_cases c2 : w (p + 1) = 36 ∨ w (p + 1) = 37
  · refine ⟨S, hs, cls _ (fun d K hd hK => ⟨fun _ => hK, fun q => absurd q (by omega), fun q => absurd q (by omega), fun q => absurd q (by omega), fun q => absurd q (by omega), fun q => absurd q (by omega), fun q => absurd q c1⟩), xr_set h7 c2 (fun q l hl hl2 => ?_), id⟩
    rcases h9 with ⟨a, -⟩ | ⟨a, a2, -, -, a4, -⟩ | ⟨a, -⟩ | ⟨a, -⟩ | ⟨a, -⟩ | ⟨a, -⟩ | ⟨a, -⟩ | ⟨a, -⟩
    · omega
    · unfold tx_L at a2
      have := nkd hl a4 (by omega) (by omega)
      rw [this]
      exact hc3 q
    all_goals omega
  by_cases c3 : w (p + 1) = 45
  · by_cases hb : bt S 2
    · refine ⟨S ||| nI 2, s8_or hs (s8_nI (by decide)), cls _ (fun d K hd hK => ⟨fun q => absurd q (by omega), fun q => absurd q (by omega), fun q => absurd q (by omega), fun _ => z_bt hb hK, fun q => absurd q (by omega), fun q => absurd q (by omega), fun q => absurd q c1⟩), xr_trm (by rw [← c3]; exact h7) (fun a q => by rw [bt_or2]; exact Or.inl q) (fun _ => ?_), fun q => ne8_or (Or.inl q)⟩
      rw [f2, bt_or (by decide) (by decide)]
      exact Or.inr rfl
    · exact ⟨S, hs, cls _ (fun d K hd hK => ⟨fun q => absurd q (by omega), fun q => absurd q (by omega), fun q => absurd q (by omega), fun _ => z_bf hb hK, fun q => absurd q (by omega), fun q => absurd q (by omega), fun q => absurd q c1⟩), xr_trm (by rw [← c3]; exact h7) (fun a q => q) (fun q => absurd q hb), id⟩
  by_cases c4 : w (p + 1) = 61
  · obtain ⟨l, hE⟩ : ∃ l, tx_E l A (u_G u) (mj_r (u_G u) r 6) w (p + 2) e false := by
      rcases h9 with ⟨a, c, -⟩ | ⟨a, -⟩ | ⟨a, -⟩ | ⟨a, -⟩ | ⟨a, -⟩ | ⟨a, -⟩ | ⟨a, -⟩ | ⟨a, -⟩
      · exact c
      all_goals omega
    have k61 : mj_i (u_G u) r 0 = nI 61 := by rw [← c4]; exact h7
    obtain ⟨v, v1, v2⟩ := xs_safe (ch := ch) (dep := 0) hS hW hA hD hE (Nat.le_of_lt hen) (by omega)
    cases v with
    | true => exact ⟨nI 255, s255, cls _ (fun d K hd hK => ⟨fun q => absurd q c2, fun q => absurd q (by omega), fun q => absurd q (by omega), fun q => absurd q c3, fun _ => v1 d _ (by omega) (z_bt rfl hK), fun q => absurd q (by omega), fun q => absurd q c1⟩), xr_puu k61, n255⟩
    | false =>
      have hv : ∀ {N : Nat} {B : Nat → Nat} {M : Nat} {Sm : Nat → Nat} {V : Nat → Nat → Option rv} {ra rd : Nat → Int32} {v : rv} {ra1 rd1 : Nat → Int32}, (∀ s, B s ≤ s) → VI u ch N V → FE u N B M Sm V (mj_r (u_G u) r 6) ra rd (nI 0) v ra1 rd1 → tme v := fun hB hV hf => by
        obtain ⟨i, hf⟩ := hf
        exact v2 rfl (fun l hl => VI_in hD hV hl) (fun l hl hb => VI_tm hDT hV hl hb) hf
      by_cases hb : bt S 1
      · refine ⟨S ||| nI 4, s8_or hs (s8_nI (by decide)), cls _ (fun d K hd hK => ⟨fun q => absurd q c2, fun q => absurd q (by omega), fun q => absurd q (by omega), fun q => absurd q c3, fun _ => v1 d _ (by omega) (z_bf (by decide) (z_bt hb hK)), fun q => absurd q (by omega), fun q => absurd q c1⟩), xr_put k61 (fun a q => by rw [bt_or2]; exact Or.inl q) (fun _ => ?_) hv, fun q => ne8_or (Or.inl q)⟩
        rw [f4, bt_or (by decide) (by decide)]
        exact Or.inr rfl
      · exact ⟨S, hs, cls _ (fun d K hd hK => ⟨fun q => absurd q c2, fun q => absurd q (by omega), fun q => absurd q (by omega), fun q => absurd q c3, fun _ => v1 d _ (by omega) (z_bf (by decide) (z_bf hb hK)), fun q => absurd q (by omega), fun q => absurd q c1⟩), xr_put k61 (fun a q => q) (fun q => absurd q hb) hv, id⟩
  -- choices, loops, tries
  have c6 : w (p + 1) = 42 ∨ w (p + 1) = 43 ∨ w (p + 1) = 63 := by unfold tx_T at h6; omega
  have bod : ∃ q1 X6 v2 b1 La, tb_B k A (u_G u) (nI T) b1 (mj_r (u_G u) r 8) w (e + 1) q1 La ∧ q1 ≤ n ∧ X6 + 3 = m ∧ q1 ≤ X6 ∧ X6 ≤ 80 ∧ gdT w ch La ∧ s8 v2 ∧ (ne8 S → ne8 v2) ∧ (∀ d (K : Int32 → mj_G → Prop), 3 * (X6 - e) + 61 ≤ d → K v2 G → Fo_through d (mj_r G r 9) S ch (nI (dep + 1)) G K) ∧ xr u ch S v2 (jbd (mj_r (u_G u) r 9)) := by
    rcases h11 with ⟨a, -⟩ | ⟨a0, a1, ar, q1, a2, a3, a4, a5, rfl⟩ | ⟨a0, q1, q2, La, Lb, a2, a3, a4, a5, a6, a7, a8, a9, rfl, rfl⟩
    · exact absurd (by unfold tx_B; omega) a
    · have hq1 : q1 < n := tx_in hW (by omega)
      refine ⟨q1, q1, S, _, _, a2, Nat.le_of_lt hq1, rfl, Nat.le_refl _, by omega, hg, hs, id, fun d K hd hK => ?_, ?_⟩
      · rw [g2 9, ar]
        exact fs_nul hS (by omega) (by omega) hK
      · rw [ar]
        exact xr_nil
    · have hq2 : q2 < n := tx_in hW (by omega)
      have hle1 := tb_le a2
      have hle2 := tb_le a6
      obtain ⟨ga, gb⟩ := gdT_a hg
      obtain ⟨v2, t1, t2, t3, t4⟩ := xs_thr hS (by omega) (ih a6 (Nat.le_of_lt hq2) gb) S (dep + 1) hs (by omega)
      refine ⟨q1, q2, v2, _, _, a2, by omega, rfl, by omega, by omega, ga, t1, t4, fun d K hd hK => ?_, t3⟩
      rw [g2 9]
      exact t2 d K (by omega) hK
  obtain ⟨q1, X6, v2, b1, La, a2, hq1, rfl, hqX, hX, ga, hv2, hn2, hce, hx2⟩ := bod
  have hle := tb_le a2
  have hb := ih a2 hq1 ga
  obtain ⟨S1, t1, t2, t3, t4⟩ := xs_thr hS (by omega) hb S (dep + 1) hs (by omega)
  by_cases c7 : w (p + 1) = 42
  · obtain ⟨l, hE⟩ : ∃ l, tx_E l A (u_G u) (mj_r (u_G u) r 6) w (p + 3) e false := by
      rcases h9 with ⟨a, -⟩ | ⟨-, -, c, -⟩ | ⟨a, -⟩ | ⟨a, -⟩ | ⟨a, -⟩ | ⟨a, -⟩ | ⟨a, -⟩ | ⟨a, -⟩
      · omega
      · exact c
      all_goals omega
    obtain ⟨A', l', l1, l2, l3, l4, l5, l6⟩ := xs_loop (r := r) (s := e + 1) (q1 := q1) (dep := dep) (S := S) (v2 := v2) (ch := ch) (D := 3 * (X6 - e) + 61) hS (g1.trans h2) (by omega) (by omega) (by rw [g2 8]; exact hb) hce (by omega) 8 S S1 0 hs t1 (Nat.zero_le _) (by omega) (by rw [g2 8]; exact t3)
    rw [g2 8] at l4
    refine ⟨l' ||| v2, s8_or l1 hv2, cls _ (fun d K hd hK => ⟨fun q => absurd q c2, fun _ => ?_, fun q => absurd q (by omega), fun q => absurd q c3, fun q => absurd q c4, fun q => absurd q hc7, fun q => absurd q c1⟩), xr_lop hD (by rw [← c7]; exact h7) (fun hB hV hf => xv_in hD hW hE (Nat.le_of_lt hen) hB hV hf) l2 l3 l4 hx2, fun q => ne8_or (Or.inl (l6 (t4 q)))⟩
    obtain ⟨d, rfl⟩ : ∃ e, d = e + 1 := ⟨d - 1, by omega⟩
    refine w_Fo_behindLoop hS ⟨g1.trans h2, ?_⟩
    rw [z_add, g2 8]
    exact t2 d _ (by omega) (l5 d K (by omega) hK)
  · have hcls : ∀ d (K : Int32 → mj_G → Prop), 3 * (X6 + 3 - p) + 58 ≤ d → K (S1 ||| v2) G → Fo_behind d r S ch (nI dep) G K := cls _ (fun d K hd hK => ⟨fun q => absurd q c2, fun q => absurd q c7, fun _ => t2 d _ (by omega) ⟨g1.trans h2, hce d _ (by omega) hK⟩, fun q => absurd q c3, fun q => absurd q c4, fun q => absurd q hc7, fun q => absurd q c1⟩)
    rcases c6 with q | q | q
    · exact absurd q c7
    · exact ⟨S1 ||| v2, s8_or t1 hv2, hcls, xr_try (by rw [← q]; exact h7) t3 hx2, fun q => ne8_or (Or.inl (t4 q))⟩
    · exact ⟨S1 ||| v2, s8_or t1 hv2, hcls, xr_cho (by rw [← q]; exact h7) t3 hx2, fun q => ne8_or (Or.inl (t4 q))⟩
/-- a literal -/
theorem xs_litr {r p : Nat} {S : Int32} (hS : cs_S G) (hW : tx_W w n) (hw : u_w u T = w) (hT : T < 10) (hpn : p < n) (hk : mj_k G r = 6) (hi0 : mj_i G r 0 = nI 1) (hi5 : mj_i G r 5 = nI (w p)) (h0 : mj_i (u_G u) r 0 = nI 1) (h1 : mj_i (u_G u) r 1 = nI T) (h2 : mj_i (u_G u) r 2 = nI p) (hs : s8 S) : ∃ S', s8 S' ∧ (∀ d dep K, 58 ≤ d → K S' G → Fo_behind d r S ch dep G K) ∧ xr u ch S S' (jtg r) ∧ (ne8 S → ne8 S') := by
  have hn := hW.1
  have hwl := tx_le hW p
  obtain ⟨v, v1, v2, v3, v4⟩ := xs_lead (G := G) (c := w p) (by omega) S hS 8 0 (nI 0) rfl (s8_nI (by decide))
  have hnx : ∃ S', s8 S' ∧ ((w p = 32 ∧ S' = v ||| S) ∨ (¬ w p = 32 ∧ S' = v ||| nI 0)) := by
    by_cases h : w p = 32
    · exact ⟨_, s8_or v1 hs, Or.inl ⟨h, rfl⟩⟩
    · exact ⟨_, s8_or v1 (s8_nI (by decide)), Or.inr ⟨h, rfl⟩⟩
  obtain ⟨S1, s1, s2⟩ := hnx
  have hle : ∀ a, bt v a → bt S1 a := fun a q => by
    rcases s2 with ⟨-, rfl⟩ | ⟨-, rfl⟩
    · rw [bt_or2]; exact Or.inl q
    · rw [bt_or2]; exact Or.inl q
  refine ⟨S1, s1, fun d dep K hd hK => ?_, xr_lit h0 h1 h2 hT (by omega) (by rw [hw]; omega) (fun a q1 q2 => by rw [hw]; exact hle _ (v4 a (Nat.zero_le _) q1 q2)) (fun q a q2 => ?_), fun q => ?_⟩
  · obtain ⟨d, rfl⟩ : ∃ e, d = e + 3 := ⟨d - 3, by omega⟩
    refine c_behind (d := d + 2) hS (by omega) hk (c := 1) hi0 (by decide) (fun _ => ?_) (fun q => absurd q (by decide)) (fun q => absurd q (by decide)) (fun q => absurd q (by decide)) (fun q => absurd q (by decide)) (fun q => absurd q (by decide)) (fun q => absurd q (by decide)) (fun q => absurd q (by decide)) (Or.inl rfl)
    rw [hi5]
    refine w_Fo_leadAll hS (v2 (d + 1) _ (by omega) ⟨hk, ?_⟩)
    rw [hi5, z_eq (by omega) (by omega)]
    rcases s2 with ⟨g1, rfl⟩ | ⟨g1, rfl⟩
    · exact z_bt g1 hK
    · exact z_bf g1 hK
  · rw [hw] at q
    rcases s2 with ⟨-, rfl⟩ | ⟨g1, -⟩
    · rw [bt_or2]; exact Or.inr q2
    · exact absurd q g1
  · obtain ⟨a, q1, q2⟩ := q
    exact ⟨_, ld_8 q1 (show w p < 128 by omega), hle _ (v4 a (Nat.zero_le _) q1 q2)⟩
theorem xs_bod (hS : cs_S G) (hW : tx_W w n) (hw : u_w u T = w) (hT : T < 10) (hA : ∀ a, A a → mj_k G a = mj_k (u_G u) a ∧ (∀ j, mj_r G a j = mj_r (u_G u) a j) ∧ ∀ j, mj_i G a j = mj_i (u_G u) a j) (hD : da (u_D u) (u_I u)) (hDT : ∀ l, l < 26 → tme (u_D u l)) : ∀ {k b r p q Lb}, tb_B k A (u_G u) (nI T) b r w p q Lb → q ≤ n → gdT w ch Lb → xb u G ch r p q
  | 0, _, _, _, _, _, h, _, _ => h.elim
  | k + 1, b, r, p, q, Lb, h, hq, hg => by
    have hn := hW.1
    have ih : ∀ {b r p' q L}, tb_B k A (u_G u) (nI T) b r w p' q L → q ≤ n → gdT w ch L → xb u G ch r p' q := fun h hq hg => xs_bod hS hW hw hT hA hD hDT h hq hg
    intro S dep hs hdep
    rcases h with ⟨rfl, rfl, -⟩ | ⟨hAr, h2, h3, h4, h5, h6, h7, h7', h8, h9, h10⟩ | ⟨hAr, h2, h3, h4, h5, h6, h7, h8, e, m, L1, L2, he, hH, h125, rfl, h13, h14⟩
    · refine ⟨S, hs, fun d K hd hK => ?_, xr_nil, id⟩
      obtain ⟨d, rfl⟩ : ∃ e, d = e + 1 := ⟨d - 1, by omega⟩
      exact w_Fo_through_16 hS (z_bt rfl hK)
    · -- a literal
      have hl := tb_le h10
      have hpn : p < n := tx_in hW h7'
      obtain ⟨g1, g2, g3⟩ := hA r hAr
      obtain ⟨S1, s1, s2, s3, s4⟩ := xs_litr (ch := ch) hS hW hw hT hpn (g1.trans h3) ((g3 0).trans h8) ((g3 5).trans h9) h8 h4 h5 hs
      obtain ⟨S', t1, t2, t3, t4⟩ := ih h10 hq hg S1 dep s1 (by omega)
      refine ⟨S', t1, fun d K hd hK => ?_, xr_cons s3 t3 h2, fun q => t4 (s4 q)⟩
      obtain ⟨d, rfl⟩ : ∃ e, d = e + 1 := ⟨d - 1, by omega⟩
      refine w_Fo_through_16 hS (z_bf h2 (s2 _ _ _ (by omega) ⟨g1.trans h3, ?_⟩))
      rw [g2 10]
      exact t2 (d + 1) K (by omega) hK
    · -- a tag
      have hl := tb_le h13
      have ht : tb_t k A (u_G u) (nI T) b r w p m L1 := ⟨h2, h3, h4, h5, h6, h7, h8, e, he, hH, h125, h14⟩
      have hpm : p + 3 ≤ m := by
        rcases h14 with ⟨-, rfl, -⟩ | ⟨-, -, -, q1, a2, -, -, -, rfl⟩ | ⟨-, q1, q2, La, Lb, a2, -, -, -, a6, -, -, -, rfl, -⟩
        · omega
        · have := tb_le a2
          omega
        · have := tb_le a2
          have := tb_le a6
          omega
      obtain ⟨g1, g2, g3⟩ := hA r hAr
      obtain ⟨hx1, hx2⟩ := hg (p, r) (List.mem_cons_self ..)
      obtain ⟨S1, s1, s2, s3, s4⟩ := xs_tag (dep := dep) hS hW hw hT hA hD hDT hAr ht hs hdep (gdT_l hg).1 hx1 hx2 ih
      obtain ⟨S', t1, t2, t3, t4⟩ := ih h13 hq (gdT_l hg).2 S1 dep s1 (by omega)
      refine ⟨S', t1, fun d K hd hK => ?_, xr_cons s3 t3 h2, fun q => t4 (s4 q)⟩
      obtain ⟨d, rfl⟩ : ∃ e, d = e + 1 := ⟨d - 1, by omega⟩
      refine w_Fo_through_16 hS (z_bf h2 (s2 d _ (by omega) ⟨g1.trans h3, ?_⟩))
      rw [g2 10]
      exact t2 (d + 1) K (by omega) hK
end E0D
