/-! THE CALLS OF THE LAW: looking ahead -/
/-- a call with what every run keeps, that throws nothing -/
theorem iv_cE {K : Int32 → mj_G → Prop} {d mi pc u0 : Nat} {ls : List (Option mj_V)} {st : List mj_V} {G : mj_G} (hJ : iv_J u0 G) (h : mj_X d mi pc ls st G (fun o G1 => ∃ v, o = .inl (some (.inl v)) ∧ cs_S G1 ∧ (iv_J u0 G1 → K v G1))) : mj_X d mi pc ls st G (fun o G1 => ∃ v, o = .inl (some (.inl v)) ∧ cs_S G1 ∧ K v G1) := iv_X h hJ (fun _ _ ⟨v, e, hS, k⟩ hJ' => ⟨v, e, hS, k hJ'⟩)
section ZZZ5
variable {s : lst} {ρ ρ' : Nat → Nat} {G G1 G' Gm : mj_G} {f f' : mm_F} {n t q : Nat} {w : Nat → Nat} {d : Nat} {pa : Int32}
/-- the way over a parent's tag -/
theorem p_over {K : Int32 → mm_F → Prop} (hM : mm_S Gm) (hT : mt_T f t w n) (hP : w 0 = 123 ∧ w 1 = 60 ∧ tx_D (w 2) ∧ w 3 = 125) (hd : 1 ≤ d) (h : K (nI 3) f) : m_endOf Gm d (nI t) (nI 0) f K := by
  obtain ⟨d, rfl⟩ : ∃ e, d = e + 1 := ⟨d - 1, by omega⟩
  have h2 : 48 ≤ w 2 ∧ w 2 ≤ 57 := hP.2.2.1
  refine w_m_endOf hM (c_endOf (e := 3) hM hT hP.2.2.2 h (m := 3) (p := 0) rfl (fun j a b => ?_))
  rcases (by omega : j = 0 ∨ j = 1 ∨ j = 2) with rfl | rfl | rfl <;> omega
theorem p_ends0 {S : Int32} {K : Int32 → mm_F → Prop} (hM : mm_S Gm) (hT : mt_T f t w n) (hP : w 0 = 123 ∧ w 1 = 60 ∧ tx_D (w 2) ∧ w 3 = 125) (hd : 20 ≤ d) (h : m_ends_7 Gm d (nI t) (nI n) S (nI 4) f K) : m_ends_7 Gm d (nI t) (nI n) S (nI 0) f K := by
  obtain ⟨d, rfl⟩ : ∃ e, d = e + 2 := ⟨d - 2, by omega⟩
  have hW := hT.2.1
  have hn := hW.1
  have h3 : 3 < n := tx_in hW (by omega)
  have e1 : tx_nx w n 1 = nI 60 := by rw [tx_nxi (by omega), hP.2.1]
  refine w_m_ends_7 hM (by omega) (z_bf (by rw [z_le (by omega) (by omega)]; omega) (c_letter hM hT (by omega) ?_))
  rw [tx_nxi (by omega), hP.1]
  refine z_bt rfl (w_m_endsTag hM (by omega) ?_)
  rw [z_add]
  refine c_letter hM hT (by omega) ?_
  rw [e1]
  refine z_bf (by decide) (z_bf (by decide) (z_bf (by decide) (z_bf (by decide) (z_bf (by decide) (z_bf (by decide) (z_bf (by decide) (c_letter hM hT (by omega) ?_)))))))
  rw [e1]
  refine z_bf (by decide) (p_over hM hT hP (by omega) ?_)
  rw [z_add]
  exact h
theorem cb_up {now : Nat → Nat} {v : Int32} (hM : mm_S Gm) (hP : w 0 = 123 ∧ w 1 = 60 ∧ tx_D (w 2) ∧ w 3 = 125) (h : cb_M Gm t w n now 4 n v) : cb_M Gm t w n now 0 n v := fun f lv hk h74 hlv d K hd hK => by
  obtain ⟨d, rfl⟩ : ∃ e, d = e + 2 := ⟨d - 2, by omega⟩
  have hT := hk.1
  have hW := hT.2.1
  have hn := hW.1
  have h3 : 3 < n := tx_in hW (by omega)
  have e1 : tx_nx w n 1 = nI 60 := by rw [tx_nxi (by omega), hP.2.1]
  refine w_m_checks_73 hM (by omega) (z_bf (by rw [z_le (by omega) (by omega)]; omega) (z_bt rfl (c_letter hM hT (by omega) ?_)))
  rw [tx_nxi (by omega), hP.1]
  refine z_bt rfl (w_m_checksTag hM ?_)
  rw [z_add]
  refine c_letter hM hT (by omega) ?_
  rw [e1]
  have hT1 : mt_T (mj_u2 f 1714 75 (nI 0)) t w n := ⟨hT.1, hT.2.1, (z_u2n (by decide)).trans hT.2.2.1, fun k hk => (z_u2n (by decide)).trans (hT.2.2.2 k hk)⟩
  refine z_bf (by decide) (z_bf (by decide) (z_bf (by decide) (z_bf (by decide) (z_bf (by decide) (z_bf (by decide) (z_bf (by decide) (w_m_checksTag_143 hM (by omega) (z_bt z_u2s (z_bf (by decide) (z_bf (by decide) (c_letter hM hT1 (by omega) ?_)))))))))))
  rw [e1]
  refine z_bf (by decide) (p_over hM hT1 hP (by omega) ?_)
  rw [z_add]
  refine h _ lv ⟨hT1, fun i hi => (z_u2n (by decide)).trans (hk.2 i hi)⟩ ((z_u2m (by decide)).trans h74) (by omega) (d + 2) K (by omega) (fun f' F e => hK f' ⟨fun a k q1 q2 q3 => (F.1 a k q1 q2 q3).trans ((z_u2n q1).trans ((z_u2n q1).trans (z_u2n q1).symm)), fun k q1 q2 q3 => (F.2.1 k q1 q2 q3).trans ?_, fun k hk => (F.2.2.1 k hk).trans ((z_u2n (by decide)).trans ((z_u2n (by decide)).trans (z_u2n (by decide)).symm)), fun k hk => (F.2.2.2 k hk).trans ((z_u2n (by decide)).trans ((z_u2n (by decide)).trans (z_u2n (by decide)).symm))⟩ e)
  by_cases q : k = 74
  · subst q
    exact z_u2s.trans z_u2s.symm
  · exact (z_u2m q).trans ((z_u2m q3).trans (z_u2m q).symm)
/-- a template's tree as the heap holds it -/
theorem tb_now (hs : LQ s) (h : LC s ρ G) (ht : t < 10) : ∃ s0 k, tp_P (u_w (ls_u s) t) s0 (sh (u_pa (ls_u s) t)) ∧ tb_B k (u_A (ls_u s)) G (nI t) (Int32.ofInt (-1)) (u_bd (ls_u s) t) (u_w (ls_u s) t) s0 (u_n (ls_u s) t) (u_L (ls_u s) t) := by
  obtain ⟨-, -, s0, k, h1, h2⟩ := hs.1.2.2.2 t ht
  exact ⟨s0, k, h1, tb_mono _ (fun _ h => h) (fun a ha => (h.2.1.1.2.2.2.1 a ha).2.2.2) (Nat.le_refl _) h2⟩
theorem tp_0 {s0 : Nat} (h : tp_P w s0 pa) : s0 = 0 ∨ (s0 = 4 ∧ w 0 = 123 ∧ w 1 = 60 ∧ tx_D (w 2) ∧ w 3 = 125) := by
  rcases h with ⟨a, -⟩ | ⟨a, b, c, e, g, -⟩
  · exact Or.inl a
  · exact Or.inr ⟨a, b, c, e, g⟩
theorem op_mayEnd {x : Int32} : opK (fun d G K => Tq_mayEnd d x G K) (fun Gm d f K => m_mayEnd Gm d x f K) c17 := fun Gm s ρ G f hM hs h hL => by
  have hG := hh_n h.1
  rcases di_x (x := x) with ⟨t, ht, rfl, hq⟩ | ⟨hq, hx⟩
  case inr =>
    refine ⟨s, .inr 17, hs, fun _ q => (by cases q; decide), fun d K hd hK => ?_, fun d K hd hK => ?_⟩
    · obtain ⟨d, rfl⟩ : ∃ y, d = y + 1 := ⟨d - 1, by omega⟩
      obtain ⟨a1, a2⟩ := LC_al (kd := 18) (len := 6) h (by decide)
      have hk := hK ρ _ a1 (yR_F a2 (by decide) (by decide))
      refine w_Tq_mayEnd h.1.1 (by omega) ?_
      rcases hx with hx | ⟨hx, hx'⟩
      · exact z_bt hx hk
      · exact z_bf hx (z_bf hx' hk)
    · obtain ⟨d, rfl⟩ : ∃ y, d = y + 1 := ⟨d - 1, by omega⟩
      exact w_m_mayEnd hM (by omega) (z_bf hq (w_m_holds hM (z_bf (by decide) (z_bf (by decide) (hK _ _ (LM_0 hL) (rJ_x z_u2s))))))
  obtain ⟨s0, k, hP, hB⟩ := tb_now hs h ht
  have k0 := LM_0 (x := nI 0) hL
  have z0 : (mj_u2 f 1714 0 (nI 0)) 1714 0 = nI 0 := z_u2s
  have hT := (k0.1.1 t ht).1
  have hn := hT.2.1.1
  obtain ⟨S', b1, b2, b3⟩ := fs_all (Gm := Gm) h.1.1 hM hT hP hB (h.2.1.2.1 t ht).1 hB (Nat.le_refl _) (nI 1) 0 (s8_nI (by decide)) (Nat.zero_le _)
  refine ⟨s, .inl S', hs, fun _ q => (by cases q), fun d K hd hK => ?_, fun d K hd hK => ?_⟩
  · obtain ⟨d, rfl⟩ : ∃ y, d = y + 2 := ⟨d - 2, by omega⟩
    refine w_Tq_mayEnd h.1.1 (by omega) ?_
    rw [z_lt (by omega) (by decide), z_lt (by omega) (by decide)]
    obtain ⟨g1, g2, g3, g4, g5, g6, g7⟩ := h.2.1.1.1 t ht
    refine z_bf (by omega) (z_bt ht (z_ixi ht (by decide) ⟨g4, ?_⟩))
    rw [g6]
    exact w_Fo_through h.1.1 (z_bt (by decide) (b2 (d + 1) _ (by omega) (hK ρ G h yF_r)))
  · obtain ⟨d, rfl⟩ : ∃ y, d = y + 2 := ⟨d - 2, by omega⟩
    refine w_m_mayEnd hM (by omega) (z_bt hq (w_m_holds hM (z_bt rfl (z_bt rfl (z_ixi ht (by decide) ?_)))))
    rw [hT.2.2.1]
    refine w_m_ends hM ?_
    have fin := b3 (d + 1) K (by omega) (hK _ _ k0 (rJ_v rfl z0))
    rcases tp_0 hP with e | ⟨e, hp⟩
    · rw [e] at fin
      exact fin
    · rw [e] at fin
      exact p_ends0 hM hT hp (by omega) fin
theorem op_check {x : Int32} : opK (fun d G K => Tq_check d x G K) (fun Gm d f K => m_check Gm d x f K) c17 := fun Gm s ρ G f hM hs h hL => by
  have hG := hh_n h.1
  rcases di_x (x := x) with ⟨t, ht, rfl, hq⟩ | ⟨hq, hx⟩
  case inr =>
    refine ⟨s, .inr 17, hs, fun _ q => (by cases q; decide), fun d K hd hK => ?_, fun d K hd hK => ?_⟩
    · obtain ⟨d, rfl⟩ : ∃ y, d = y + 1 := ⟨d - 1, by omega⟩
      obtain ⟨a1, a2⟩ := LC_al (kd := 18) (len := 6) h (by decide)
      have hk := hK ρ _ a1 (yR_F a2 (by decide) (by decide))
      refine w_Tq_check h.1.1 (by omega) ?_
      rcases hx with hx | ⟨hx, hx'⟩
      · exact z_bt hx hk
      · exact z_bf hx (z_bf hx' hk)
    · obtain ⟨d, rfl⟩ : ∃ y, d = y + 1 := ⟨d - 1, by omega⟩
      exact w_m_check hM (by omega) (z_bf hq (w_m_holds hM (z_bf (by decide) (z_bf (by decide) (hK _ _ (LM_0 hL) (rJ_x z_u2s))))))
  obtain ⟨s0, k, hP, hB⟩ := tb_now hs h ht
  have k0 := LM_0 (x := nI 0) hL
  have z0 : (mj_u2 f 1714 0 (nI 0)) 1714 0 = nI 0 := z_u2s
  have hT0 := (k0.1.1 t ht).1
  have hW := hT0.2.1
  have hn := hW.1
  have hnow : ∀ i, (fun i => if i < 26 then ls_k s i else 0) i < 16 := fun i => by
    show (if i < 26 then ls_k s i else 0) < 16
    by_cases q : i < 26
    · rw [if_pos q]; exact hs.2.2.1 i q
    · rw [if_neg q]; decide
  have en : ∀ i, i < 26 → (fun i => if i < 26 then ls_k s i else 0) i = ls_k s i := fun i hi => if_pos hi
  generalize (fun i => if i < 26 then ls_k s i else 0) = now at hnow en
  have hA : ∀ a, u_A (ls_u s) a → a < mj_n G := fun a ha => (h.2.1.1.2.2.2.1 a ha).2.1
  obtain ⟨v, b1, b2, b3⟩ := cb_all (t := t) hM hW hA (by omega) hnow hB (Nat.le_refl _)
  have hs0 : s0 ≤ u_n (ls_u s) t := tb_le hB
  refine ⟨s, .inl v, hs, fun _ q => (by cases q), fun d K hd hK => ?_, fun d K hd hK => ?_⟩
  · obtain ⟨d, rfl⟩ : ∃ y, d = y + 2 := ⟨d - 2, by omega⟩
    refine iv_cI (iv_hb h.1.2.2.1) ?_
    show Tq_check (d + 2) (nI t) G (fun r G' => iv_J (mj_u G) G' → K r G')
    refine w_Tq_check h.1.1 (by omega) ?_
    rw [z_lt (by omega) (by decide), z_lt (by omega) (by decide)]
    obtain ⟨g1, g2, g3, g4, g5, g6, g7⟩ := h.2.1.1.1 t ht
    refine z_bf (by omega) (z_bt ht (z_ixi ht (by decide) ⟨g4, ?_⟩))
    rw [g6]
    refine cb_ff (A := u_A (ls_u s)) (G := G) (now := now) hA b1 b3 ⟨h.1.1, fun _ _ => ⟨rfl, rfl, fun _ => rfl, fun _ => rfl⟩, cs_k h.1.1 rfl, cs_l h.1.1 rfl, fun i hi => (h.2.2.2.2.2.2 i hi).trans (by rw [en i hi])⟩ (Nat.le_refl _) (by decide) (Nat.zero_le _) (by omega) (by omega) (fun H' s1 F1 n1 u1 hJ => ?_)
    exact hK ρ H' (LC_ext h F1 s1 (iv_end hJ (by omega)) ro_r) (yR_F (yR_ext (c := 81) (e := 2106) h F1 (by omega) (by omega)) (by decide) (by decide))
  · obtain ⟨d, rfl⟩ : ∃ y, d = y + 2 := ⟨d - 2, by omega⟩
    refine w_m_check hM (by omega) (z_bt hq (w_m_holds hM (z_bt rfl (z_bt rfl ?_))))
    generalize mj_u2 f 1714 0 (nI 0) = f0' at k0 z0 hT0 ⊢
    have go : ∀ m i f1, i + m = 26 → (∀ a k, a ≠ 1764 → f1 a k = f0' a k) → (∀ j, j < i → f1 1764 j = nI (now j)) → m_check_23 Gm (d + 1 + 1) (nI t) (nI i) f1 K := fun m => by
      induction m with
      | zero =>
        intro i f1 hi F1 hnw
        have hi' : i = 26 := by omega
        subst hi'
        refine w_m_check_23 hM (z_bt (by rw [z_le (by decide) (by decide)]; exact Nat.le_refl _) (z_ixi ht (by decide) ?_))
        have hT1 : mt_T (mj_u2 f1 1714 74 (nI 0)) t (u_w (ls_u s) t) (u_n (ls_u s) t) := ⟨hT0.1, hT0.2.1, (z_u2n (by decide)).trans ((F1 _ _ (by decide)).trans hT0.2.2.1), fun k hk => (z_u2n (by decide)).trans ((F1 _ _ (by decide)).trans (hT0.2.2.2 k hk))⟩
        rw [hT1.2.2.1]
        have hB0 : cb_M Gm t (u_w (ls_u s) t) (u_n (ls_u s) t) now 0 (u_n (ls_u s) t) v := by
          rcases tp_0 hP with e | ⟨e, hp⟩
          · rw [e] at b2; exact b2
          · rw [e] at b2; exact cb_up hM hp b2
        refine cb_chk (lv := 0) hM (by decide) hB0 ⟨hT1, fun i hi => (z_u2n (by decide)).trans (hnw i hi)⟩ z_u2s (by decide) (Or.inl ⟨rfl, rfl⟩) (by omega) (fun f' F e => ?_)
        have F' : mw no_R (fun j => j = 22 ∨ j = 23 ∨ j = 75 ∨ j = 74) (fun a => a = 1764 ∨ a = 1765) f0' f' := by
          have hne : ∀ a k, a ≠ 1714 → a ≠ 1764 → a ≠ 1765 → f' a k = f0' a k := fun a k q1 q2 q3 => (F.1 a k q1 q2 q3).trans ((z_u2n q1).trans (F1 a k q2))
          exact ⟨fun a k q1 q2 q3 => hne a k q1 (fun q => q3 (Or.inl q)) (fun q => q3 (Or.inr q)), fun k q => (F.2.1 k (by omega) (by omega) (by omega)).trans ((z_u2m (by omega)).trans (F1 _ _ (by decide))), fun a k q1 q2 _ => hne a k (by omega) (by omega) (by omega), fun k _ => hne _ k (by decide) (by decide) (by decide)⟩
        refine hK f' v (LM_g (n := ls_n s) (w := ls_w s) (z := ls_k s) k0 F' (fun j q => by omega) (fun a q => by omega) ⟨(F'.2.1 2 (by decide)).trans k0.2.2.2.2.1.1, fun k hk => (F'.1 1715 k (by decide) (by decide) (by decide)).trans (k0.2.2.2.2.1.2 k hk)⟩ (fun i hi => (F'.1 1763 i (by decide) (by decide) (by decide)).trans (k0.2.2.2.2.2 i hi))) (rJ_v rfl ((F'.2.1 0 (by decide)).trans z0))
      | succ m ih =>
        intro i f1 hi F1 hnw
        refine w_m_check_23 hM (z_bf (by rw [z_le (by decide) (by omega)]; omega) (z_ixi (by omega) (by decide) (z_ixi (by omega) (by decide) ?_)))
        rw [(F1 1763 i (by decide)).trans (k0.2.2.2.2.2 i (by omega)), z_add]
        refine ih (i + 1) _ (by omega) (fun a k q => (z_u2n q).trans (F1 a k q)) (fun j hj => ?_)
        by_cases q : j = i
        · rw [q, z_u2s, en i (by omega)]
        · exact (z_u2m q).trans (hnw j (by omega))
    exact go 26 0 _ rfl (fun _ _ _ => rfl) (fun j hj => absurd hj (Nat.not_lt_zero j))
end ZZZ5
