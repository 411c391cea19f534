/-! INCLUDES, by both sides -/
theorem l_go_p {pa : Nat → Nat} (hpa : ∀ t, t < 10 → pa t ≤ 10) : ∀ {m n t : Nat} {c : Nat → Nat}, t < 10 → (∀ k, k < n → c k < 10) → (l_go pa m n c t).1 = true → (l_go pa m n c t).2.1 ≤ n + m ∧ 1 ≤ (l_go pa m n c t).2.1 ∧ (∀ k, k < (l_go pa m n c t).2.1 → (l_go pa m n c t).2.2 k < 10) ∧ pa ((l_go pa m n c t).2.2 ((l_go pa m n c t).2.1 - 1)) = 0
  | 0, n, t, c, _, _, h => absurd h (show ¬ false = true by decide)
  | m + 1, n, t, c, ht, hc, h => by
    have hc' : ∀ k, k < n + 1 → l_ad c n t k < 10 := fun k hk => by
      unfold l_ad
      by_cases q : k = n
      · rw [if_pos q]
        exact ht
      · rw [if_neg q]
        exact hc k (by omega)
    unfold l_go at h ⊢
    by_cases h0 : pa t = 0
    · rw [if_pos h0] at h ⊢
      refine ⟨by show n + 1 ≤ _; omega, by show 1 ≤ n + 1; omega, hc', ?_⟩
      show pa (l_ad c n t (n + 1 - 1)) = 0
      rw [Nat.add_sub_cancel, show l_ad c n t n = t from if_pos rfl]
      exact h0
    · rw [if_neg h0] at h ⊢
      by_cases h1 : l_has (l_ad c n t) (n + 1) (pa t - 1) = true
      · rw [if_pos h1] at h
        exact absurd h (show ¬ false = true by decide)
      · rw [if_neg h1] at h ⊢
        have := hpa t ht
        obtain ⟨a1, a2, a3, a4⟩ := l_go_p hpa (m := m) (n := n + 1) (t := pa t - 1) (by omega) hc' h
        exact ⟨by omega, a2, a3, a4⟩
section ZS
variable {u : wo} {Gm : mj_G} {f f' f1 : mm_F} {ρ ρ' ρ0 ρ1 : Nat → Nat} {G G0 G1 G2 G' : mj_G} {cur r nx p q m d t T l s k c x j q1 : Nat} {e : Int32} {K : Int32 → mj_G → Prop} {v : rv} {b1 : Int32} {L1 : List (Nat × Nat)} {N : Nat} {B : Nat → Nat} {M : Nat} {S : Nat → Nat} {lc : Nat} {ln : Nat → Nat} {op : Nat} {ch : List en} {V : Nat → Nat → Option rv} {o : ost} {ra rd : Nat → Int32} {sp : Nat → Bool} {st hts : Nat} {FG : Nat → kfr} {V' : Nat → Nat → Option rv} {o' : ost} {ra' rd' : Nat → Int32} {sp' : Nat → Bool} {st' hts' : Nat} {FG' : Nat → kfr} {fr b cn : Nat → Nat} {top la : Nat} {bg : Nat → Nat} {vc li LC : Nat} {ci : Int32} {CA tr : Nat}
/-- what fails once a frame is pushed -/
theorem rX_w {TT : Nat} (hC : CC u ρ G N B M S lc ln op ch V o ra rd sp st hts FG fr b cn top la) (ht : top < 199) (hh' : hh ρ' (u_D u) (u_I u) G') (he : ro_e ρ ρ' G) (F : fw ρ (qW top) G G') (h4 : mj_i G' 11 4 = nI (top + 1)) (hk : ¬ mj_i G' (707 + 4 * (top + 1)) 0 = nI 43) (hT : t + 100 * (2000 - st) ≤ TT) : rX u ρ G o e N B M S lc ln op ch V o ra rd sp st hts FG fr b cn top la TT ρ' G' cn (top + 1) t := by
  obtain ⟨h1, h2, h3, h4', h5, h5', hu, h8, h9⟩ := hC
  have hG := hh_n h1
  have nim : ∀ o, qW top o → ¬ im_o o := fun o q => qW_im ht q
  have s5 := h3.2.2.2.2.1
  refine ⟨hh', wC_f h1 h2 F he nim, ⟨ce_w h1 h4'.1 F he (fun o q => ⟨nim o q, by unfold qW at q; omega⟩) (fun s hs => by have := s5 s hs; unfold qW; omega), cu_w h1 h4'.1 h4'.2.1 F (fun o q => by unfold qW at q; omega), fun k hk => ?_⟩, uC_f h1 hu F (fun o q => by unfold qW at q; omega), (oD_f h1 h8 F (fun o q => by unfold qW at q; unfold oW; omega)).1, o_le_r, fgC_f h1 h9 F he (fun o q => ⟨nim o q, by unfold qW at q; unfold gW; omega⟩), h4, Nat.le_succ _, by omega, fun _ i h1 h2 => ?_, he, fw_m F (fun o q => ⟨by unfold qW at q; omega, nim o q⟩), FF_push h1 F ht (fun o q => by unfold qW at q; omega), fun _ _ => rfl, hT⟩
  · have hfk := s5 _ (h3.2.2.2.2.2.2.2.2.2.2.2.2.2 k hk).1
    have e : ∀ j, mj_i G' (707 + 4 * fr (S k)) j = mj_i G (707 + 4 * fr (S k)) j := fun j => ce_i h1 F (by omega) (by unfold qW; omega)
    rw [e, e, e]
    exact h4'.2.2 k hk
  · have hi : i = top + 1 := by omega
    rw [hi]
    exact hk
/-- the model's line, calls and counts written -/
theorem MM_ln {S1 R1 : Nat → Prop} {fe e' : Int32} {lc' op' li' LC' CA' tr' : Nat} {ln' : Nat → Nat} {ch' : List en} {ci' : Int32} (h : MM u f N B M S lc ln op ch V o ra rd sp st hts FG e bg vc li LC ci CA tr fe) (F : mw no_R S1 R1 f f') (hS : ∀ j, S1 j → j = 33 ∨ j = 34 ∨ j = 41 ∨ j = 42 ∨ j = 43 ∨ j = 70) (hR : ∀ a, R1 a → 1737 ≤ a ∧ a ≤ 1744) (hs : sM f' N lc' ln' op' ch' li' LC' ci' CA' tr' fe) (h70 : f' 1714 70 = e') : MM u f' N B M S lc' ln' op' ch' V o ra rd sp st hts FG e' bg vc li' LC' ci' CA' tr' fe := by
  obtain ⟨w1, -, w3, w4, w5, w6, w7, w8, w9, w0⟩ := h
  have nr : ∀ a, no_R a → False := fun a q => q
  exact ⟨wM_f w1 F (fun q => by have := hS _ q; omega) (fun a q => by have := hR a q; omega), hs, dM_f w3 F (fun i q => absurd q (nr i)) (fun j q => by have := hS j q; omega) (fun a q => by have := hR a q; omega), (F.2.1 68 (fun q => by have := hS _ q; omega)).trans w4, w5, w6, (F.2.1 69 (fun q => by have := hS _ q; omega)).trans w7, h70, oM_f w9 F ⟨fun q => by have := hS _ q; omega, fun q => by have := hS _ q; omega⟩ ⟨fun q => by have := hR _ q; omega, fun q => by have := hR _ q; omega⟩, fgM_f w0 F (fun a q => by have := hR a q; omega)⟩
/-- an include -/
theorem md_64 (hM : mm_S Gm) (hu : uP u) (hT : T < 10) (hx : pX u N B M S lc ln op ch) (hV : pV u N V) (hA : u_A u r) (ht : tb_t k (u_A u) (u_G u) (nI T) b1 r (u_w u T) p m L1) (hc : u_w u T (p + 1) = 64) (hst : st ≤ u_bu u) (hmn : m ≤ u_n u T) (ih : op < 12 → ihO u Gm (op + 1)) : mdJ u Gm T 64 N B M S lc ln op ch V o ra rd sp st hts FG r p m := by
  have hW := (hu.2.2.2 T hT).1
  have hn := hW.1
  have hnd := tg_nd hA ht hc
  have hop := hx.2.1
  have hgd : tx_D (u_w u T (p + 2)) ∧ mj_i (u_G u) r 3 = nI (u_w u T (p + 2) - 48) ∧ p + 4 ≤ m := by
    obtain ⟨-, -, -, -, -, -, -, e, h8, h9, h10, h11⟩ := ht
    rcases h9 with ⟨a, -⟩ | ⟨a, -⟩ | ⟨a, -⟩ | ⟨a, a2, a3, a4, -⟩ | ⟨a, -⟩ | ⟨a, -⟩ | ⟨a, -⟩ | ⟨a, -⟩
    any_goals omega
    rcases h11 with ⟨-, g, -⟩ | ⟨g, -⟩ | ⟨g, -⟩
    · exact ⟨a2, a4, by omega⟩
    · unfold tx_B at g
      omega
    · omega
  obtain ⟨g1, g2, hpm⟩ := hgd
  have hg10 : u_w u T (p + 2) - 48 < 10 ∧ 48 ≤ u_w u T (p + 2) := by
    unfold tx_D at g1
    omega
  have hpa : ∀ t, t < 10 → u_pa u t ≤ 10 := fun t ht => (hu.2.2.2 t ht).2.1
  generalize htg : u_w u T (p + 2) - 48 = tg at g2 hg10
  have ht10 := hg10.1
  -- the class up to the line
  have cls : ∀ (fr b cn : Nat → Nat) (top la : Nat) (ρ : Nat → Nat) (G : mj_G), CC u ρ G N B M S lc ln op ch V o ra rd sp st hts FG fr b cn top la → mj_k G r = 6 → (∀ j, mj_i G r j = mj_i (u_G u) r j) → top < 199 → ∀ dm (KK : Int32 → mj_G → Prop), (op = 12 → KK (Int32.ofInt (-8)) G) → (op < 12 → ∀ G', hh ρ (u_D u) (u_I u) G' → fw ρ (qW top) G G' → mj_i G' 11 4 = nI (top + 1) → mj_i G' 11 2 = mj_i G 11 2 → mj_i G' (707 + 4 * (top + 1)) 11 = mj_i G (707 + 4 * top) 11 → mj_i G' (707 + 4 * (top + 1)) 3 = nI (top + 1) → mj_i G' (707 + 4 * (top + 1)) 4 = mj_i G (707 + 4 * top) 3 → mj_i G' (707 + 4 * (top + 1)) 5 = mj_i G 11 2 → mj_i G' (707 + 4 * (top + 1)) 6 = nI 0 → mj_i G' (707 + 4 * (top + 1)) 7 = nI (top + 1) → mj_i G' (707 + 4 * (top + 1)) 10 = Int32.ofInt (-1) → mj_i G' (707 + 4 * (top + 1)) 12 = nI (op + 1) → mj_i G' (707 + 4 * (top + 1)) 0 = nI 64 → ((l_of (u_pa u) tg).1 = true → fL G' (top + 1) (l_of (u_pa u) tg).2.1 (l_of (u_pa u) tg).2.2 ∧ mj_r G' (707 + 4 * (top + 1)) 2 = u_bd u ((l_of (u_pa u) tg).2.2 ((l_of (u_pa u) tg).2.1 - 1))) → KK (if (l_of (u_pa u) tg).1 = true then nI 0 else Int32.ofInt (-8)) G') → Rn_openInclude (dm + 3) r G KK := by
    intro fr b cn top la ρ G hC k1 k3 htop dm KK h12 hgo
    have hs := hC.2.2.1
    refine w_Rn_openInclude hC.1.1 (c_open hC.1 hC.2.2.2.2.1 htop hs.2.2.2.2.2.2.2.2.1 hop k1 (fun ho G1 a1 a2 a3 => z_bf (by omega) ⟨cs_g14 a1.1 (by omega), ?_⟩) (fun ho => z_bt rfl (h12 ho)))
    obtain ⟨p1, p2, p3, p4, p5, p6, p7, p8, p9, p10, p11, p12, p13, p14⟩ := a3
    intro G4 e4
    obtain ⟨hh4, F4⟩ := o_fI (i := top + 1) (j := 10) (y := Int32.ofInt (-1)) a1 (by omega)
    rw [← e4] at hh4 F4
    have z4 : ∀ a j, ¬ (a = 707 + 4 * (top + 1) ∧ j = 10) → mj_i G4 a j = mj_i G1 a j := fun a j h => by
      rw [e4]
      exact if_neg h
    have z10 : mj_i G4 (707 + 4 * (top + 1)) 10 = Int32.ofInt (-1) := by
      rw [e4]
      exact z_iIs
    clear e4
    have F1 : fw ρ (qW top) G G4 := fw_t (fw_m a2 (fun o q => by unfold pW at q; unfold qW; omega)) ro_r (fw_m F4 (fun o q => by unfold qW; omega))
    have w4 := wC_f hC.1 hC.2.1 F1 ro_r (fun o q => qW_im htop q)
    obtain ⟨A1, A2, A3⟩ := wC_A w4 hA
    rw [z4 11 4 (by omega), p1, A3, g2]
    refine ⟨A1.trans hnd.2.2.1, c_layLine (i := top + 1) (by omega) ht10 hh4 w4.1 (fun G5 b1 b2 b3 b4 b5 b6 => ?_)⟩
    have i5 : ∀ j, j ≠ 7 → j ≠ 9 → mj_i G5 (707 + 4 * (top + 1)) j = mj_i G4 (707 + 4 * (top + 1)) j := b3
    have o11 : ∀ j, mj_i G5 11 j = mj_i G1 11 j := fun j => (ce_i hh4 b2 (by decide) (by unfold lW; omega)).trans (z4 11 j (by omega))
    refine hgo ho G5 b1 (fw_t F1 ro_r (fw_m b2 (fun o q => by unfold lW at q; unfold qW; omega))) ((o11 4).trans p1) ((o11 2).trans p2) ?_ ?_ ?_ ?_ ?_ b4 ?_ ?_ ?_ (fun hq => ⟨(b6 hq).1, (b6 hq).2.2⟩)
    · rw [i5 11 (by decide) (by decide), z4 _ _ (by omega)]
      exact p3 11 (by omega)
    · rw [i5 3 (by decide) (by decide), z4 _ _ (by omega)]
      exact p5
    · rw [i5 4 (by decide) (by decide), z4 _ _ (by omega)]
      exact p6
    · rw [i5 5 (by decide) (by decide), z4 _ _ (by omega)]
      exact p7
    · rw [i5 6 (by decide) (by decide), z4 _ _ (by omega)]
      exact p8
    · rw [i5 10 (by decide) (by decide)]
      exact z10
    · rw [i5 12 (by decide) (by decide), z4 _ _ (by omega)]
      exact p9
    · rw [i5 0 (by decide) (by decide), z4 _ _ (by omega), p4, k3]
      exact hnd.2.2.2.2.2
  -- the model up to the line
  have mod : ∀ (f : mm_F) (bg : Nat → Nat) (vc li LC : Nat) (ci : Int32) (CA tr : Nat), MM u f N B M S lc ln op ch V o ra rd sp st hts FG (nI 0) bg vc li LC ci CA tr (nI 320) → ∀ D (KK : mm_F → Prop), 10 ≤ D → (op = 12 → ∀ f', MM u f' N B M S lc ln op ch V o ra rd sp st hts FG (Int32.ofInt (-8)) bg vc li LC ci CA tr (nI 320) → mF tr LC CA f f' → KK f') → (op < 12 → ¬ (l_of (u_pa u) tg).1 = true → ∀ f', MM u f' N B M S lc ln op ch V o ra rd sp st hts FG (Int32.ofInt (-8)) bg vc li LC ci CA tr (nI 320) → mF tr LC CA f f' → KK f') → (op < 12 → (l_of (u_pa u) tg).1 = true → ∀ f3, MM u f3 N B M S (l_of (u_pa u) tg).2.1 (l_of (u_pa u) tg).2.2 (op + 1) [] V o ra rd sp st hts FG (nI 0) bg vc LC (LC + 1) (Int32.ofInt (-1)) CA tr (nI 320) → mF tr LC CA f f3 → (∀ f7 o7 ra7 rd7 sp7 st7 hts7 FG7 e7, MM u f7 N B M S (l_of (u_pa u) tg).2.1 (l_of (u_pa u) tg).2.2 (op + 1) [] V o7 ra7 rd7 sp7 st7 hts7 FG7 e7 bg vc LC (LC + 1) (Int32.ofInt (-1)) CA tr (nI 320) → mF tr (LC + 1) CA f3 f7 → (∀ f8, MM u f8 N B M S lc ln op ch V o7 ra7 rd7 sp7 st7 hts7 FG7 e7 bg vc li LC ci CA tr (nI 320) → mF tr LC CA f f8 → KK f8) → KK (mj_u2 (mj_u2 (mj_u2 (mj_u2 f7 1714 33 ((f7 1714 33) - (nI 1))) 1714 34 (nI li)) 1714 42 ci) 1714 43 (((mj_u2 (mj_u2 (mj_u2 f7 1714 33 ((f7 1714 33) - (nI 1))) 1714 34 (nI li)) 1714 42 ci) 1714 43) - (nI 1)))) → m_scoped Gm D (sh N) (nI ((l_of (u_pa u) tg).2.2 ((l_of (u_pa u) tg).2.1 - 1))) (nI 0) (nI (u_n u ((l_of (u_pa u) tg).2.2 ((l_of (u_pa u) tg).2.1 - 1)))) f3 (fun f7 => KK (mj_u2 (mj_u2 (mj_u2 (mj_u2 f7 1714 33 ((f7 1714 33) - (nI 1))) 1714 34 (nI li)) 1714 42 ci) 1714 43 (((mj_u2 (mj_u2 (mj_u2 f7 1714 33 ((f7 1714 33) - (nI 1))) 1714 34 (nI li)) 1714 42 ci) 1714 43) - (nI 1))))) → m_includes Gm (D + 1) (nI tg) f KK := by
    intro f bg vc li LC ci CA tr hm D KK hD k1 k2 k3
    obtain ⟨D, rfl⟩ : ∃ y, D = y + 1 := ⟨D - 1, by omega⟩
    have hs := hm.2.1
    obtain ⟨s1, s2, s3, s4, s5, s6, s7, s8, s9, s9', s11, s12, s13, s14, s15, s16⟩ := hs
    refine w_m_includes hM (p_opens hM hm.2.2.2.2.2.2.2.1 s11 hop (fun ho f1 F1 e1 e2 => z_bt rfl ?_) (fun ho f1 F1 e1 e2 => z_bf (by decide) ?_))
    case refine_2 =>
      obtain ⟨b1, b2⟩ := MM_43 hm F1 (fun j q => q) e1 e2 s6 hop s13
      exact k1 ho _ b1 b2
    obtain ⟨m1, gg1⟩ := MM_43 hm F1 (fun j q => q) e1 e2 (by omega) (by omega) (by omega)
    obtain ⟨r1, r2, r3, r4, r5, r6, r7, r8, r9, r9', r11, r12, r13, r14, r15, r16⟩ := m1.2.1
    rw [r8, r4, r14]
    refine p_laysLine hM (by omega) (by omega) ht10 m1.1.1 e2 (fun f3 F3 O3 h1 h2 => ?_)
    have nv : ∀ a, R_l a → a = 1737 ∨ a = 1738 := fun a q => q
    have gg3 : mF tr LC CA f1 f3 := by
      have rw3 : ∀ a i, ¬ R_l a → a ≠ 1714 → ¬ (1728 ≤ a ∧ a ≤ 1732) → f3 a i = f1 a i := fun a i h1 h2 h3 => F3.1 a i h2 h3 h1
      exact ⟨mw_m F3 (fun _ _ => trivial) (fun j q => by unfold rS; omega) (fun a q => by have := nv a q; unfold rR; omega), fun j _ => rw3 _ _ (by unfold R_l; decide) (by decide) (by decide), fun i hi => O3.1 i (by omega), fun j hj => O3.2 j (by omega), fun a a1 a2 i _ => rw3 _ _ (by unfold R_l; omega) (by omega) (by omega)⟩
    have s0 : ∀ j, j ≠ 70 → f3 1714 j = f1 1714 j := fun j hj => F3.2.1 j hj
    by_cases hok : (l_of (u_pa u) tg).1 = true
    case neg =>
      have h70 := h2 hok
      refine z_bf (by rw [h70]; decide) ?_
      rw [show (mj_u2 (mj_u2 f3 1714 34 (nI li)) 1714 42 ci) 1714 43 = nI (op + 1) from (z_u2m (by decide)).trans ((z_u2m (by decide)).trans ((s0 43 (by decide)).trans r11)), show nI (op + 1) - nI 1 = nI op by rw [z_sub (by omega), Nat.add_sub_cancel]]
      have Fz : mw no_R (fun j => j = 33 ∨ j = 34 ∨ j = 41 ∨ j = 42 ∨ j = 43 ∨ j = 70) R_l f1 (mj_u2 (mj_u2 (mj_u2 f3 1714 34 (nI li)) 1714 42 ci) 1714 43 (nI op)) := mw_t (mw_m F3 (fun _ q => q) (fun j q => by omega) (fun _ q => q)) (mw_t (mw_S (by omega)) (mw_t (mw_S (by omega)) (mw_S (by omega))))
      have gz : mF tr LC CA f (mj_u2 (mj_u2 (mj_u2 f3 1714 34 (nI li)) 1714 42 ci) 1714 43 (nI op)) := mF_t gg1 (mF_t gg3 (mF_w (P := no_R) (S1 := fun j => j = 34 ∨ j = 42 ∨ j = 43) (R1 := no_R) (mw_t (mw_S (by omega)) (mw_t (mw_S (by omega)) (mw_S (by omega)))) (fun j q => by unfold rS; omega) (fun a q => absurd q (fun t => t))))
      refine k2 ho hok _ (MM_ln m1 Fz (fun j q => q) (fun a q => by have := nv a q; omega) ⟨s1, ?_, ?_, ?_, s5, s6, s7, ?_, mL_F gz s5 s9' s9, s9', z_u2s, ?_, s13, ?_, chM_F gz (Nat.le_refl _) (pX_10 hx) s15, ?_⟩ ?_) gz
      · exact (z_u2m (by decide)).trans ((z_u2m (by decide)).trans ((z_u2m (by decide)).trans ((s0 27 (by decide)).trans r2)))
      · exact (z_u2m (by decide)).trans ((z_u2m (by decide)).trans ((z_u2m (by decide)).trans ((s0 21 (by decide)).trans r3)))
      · exact (z_u2m (by decide)).trans ((z_u2m (by decide)).trans z_u2s)
      · exact (z_u2m (by decide)).trans ((z_u2m (by decide)).trans ((z_u2m (by decide)).trans ((s0 33 (by decide)).trans r8)))
      · exact (z_u2m (by decide)).trans ((z_u2m (by decide)).trans ((z_u2m (by decide)).trans ((s0 41 (by decide)).trans r12)))
      · exact (z_u2m (by decide)).trans z_u2s
      · exact (z_u2m (by decide)).trans ((z_u2m (by decide)).trans ((z_u2m (by decide)).trans ((s0 66 (by decide)).trans r16)))
      · exact (z_u2m (by decide)).trans ((z_u2m (by decide)).trans ((z_u2m (by decide)).trans h70))
    obtain ⟨h3, h70⟩ := h1 hok
    obtain ⟨l1, l2, l3, l4⟩ := l_go_p hpa (m := 10) (n := 0) (t := tg) (c := fun _ => 0) ht10 (fun k hk => absurd hk (by omega)) hok
    have l1' : (l_of (u_pa u) tg).2.1 ≤ 10 := by
      have : (l_of (u_pa u) tg).2.1 = (l_go (u_pa u) 10 0 (fun _ => 0) tg).2.1 := rfl
      omega
    have l2' : 1 ≤ (l_of (u_pa u) tg).2.1 := l2
    have hT' : (l_of (u_pa u) tg).2.2 ((l_of (u_pa u) tg).2.1 - 1) < 10 := l3 _ (by show (l_of (u_pa u) tg).2.1 - 1 < (l_of (u_pa u) tg).2.1; omega)
    refine z_bt h70 ?_
    have e33 : f3 1714 33 = nI LC := (s0 33 (by decide)).trans r8
    rw [e33]
    rw [show (mj_u2 (mj_u2 f3 1714 34 (nI LC)) 1714 42 (Int32.ofInt (-1))) 1714 33 = nI LC from (z_u2m (by decide)).trans ((z_u2m (by decide)).trans e33), z_add]
    have Fy : mw no_R (fun j => j = 33 ∨ j = 34 ∨ j = 41 ∨ j = 42 ∨ j = 43 ∨ j = 70) R_l f1 (mj_u2 (mj_u2 (mj_u2 f3 1714 34 (nI LC)) 1714 42 (Int32.ofInt (-1))) 1714 33 (nI (LC + 1))) := mw_t (mw_m F3 (fun _ q => q) (fun j q => by omega) (fun _ q => q)) (mw_t (mw_S (by omega)) (mw_t (mw_S (by omega)) (mw_S (by omega))))
    have gy : mF tr LC CA f (mj_u2 (mj_u2 (mj_u2 f3 1714 34 (nI LC)) 1714 42 (Int32.ofInt (-1))) 1714 33 (nI (LC + 1))) := mF_t gg1 (mF_t gg3 (mF_w (P := no_R) (S1 := fun j => j = 34 ∨ j = 42 ∨ j = 33) (R1 := no_R) (mw_t (mw_S (by omega)) (mw_t (mw_S (by omega)) (mw_S (by omega)))) (fun j q => by unfold rS; omega) (fun a q => absurd q (fun t => t))))
    have y34 : (mj_u2 (mj_u2 (mj_u2 f3 1714 34 (nI LC)) 1714 42 (Int32.ofInt (-1))) 1714 33 (nI (LC + 1))) 1714 34 = nI LC := (z_u2m (by decide)).trans ((z_u2m (by decide)).trans z_u2s)
    have my : MM u (mj_u2 (mj_u2 (mj_u2 f3 1714 34 (nI LC)) 1714 42 (Int32.ofInt (-1))) 1714 33 (nI (LC + 1))) N B M S (l_of (u_pa u) tg).2.1 (l_of (u_pa u) tg).2.2 (op + 1) [] V o ra rd sp st hts FG (nI 0) bg vc LC (LC + 1) (Int32.ofInt (-1)) CA tr (nI 320) := by
      refine MM_ln m1 Fy (fun j q => q) (fun a q => by have := nv a q; omega) ⟨s1, ?_, ?_, y34, Nat.lt_succ_self _, by omega, by omega, z_u2s, ⟨(z_u2n (by decide)).trans ((z_u2n (by decide)).trans ((z_u2n (by decide)).trans h3.1)), fun k hk => ⟨(z_u2n (by decide)).trans ((z_u2n (by decide)).trans ((z_u2n (by decide)).trans (h3.2 k hk).1)), (h3.2 k hk).2⟩⟩, l1', ?_, ?_, by omega, ?_, Or.inl rfl, ?_⟩ ?_
      · exact (z_u2m (by decide)).trans ((z_u2m (by decide)).trans ((z_u2m (by decide)).trans ((s0 27 (by decide)).trans r2)))
      · exact (z_u2m (by decide)).trans ((z_u2m (by decide)).trans ((z_u2m (by decide)).trans ((s0 21 (by decide)).trans r3)))
      · exact (z_u2m (by decide)).trans ((z_u2m (by decide)).trans ((z_u2m (by decide)).trans ((s0 43 (by decide)).trans r11)))
      · exact (z_u2m (by decide)).trans ((z_u2m (by decide)).trans ((z_u2m (by decide)).trans ((s0 41 (by decide)).trans r12)))
      · exact (z_u2m (by decide)).trans z_u2s
      · exact (z_u2m (by decide)).trans ((z_u2m (by decide)).trans ((z_u2m (by decide)).trans ((s0 66 (by decide)).trans r16)))
      · exact (z_u2m (by decide)).trans ((z_u2m (by decide)).trans ((z_u2m (by decide)).trans h70))
    have y27 := my.2.1.2.1
    have yml := my.2.1.2.2.2.2.2.2.2.2.1
    have ytl := my.1.1 _ hT'
    generalize mj_u2 (mj_u2 (mj_u2 f3 1714 34 (nI LC)) 1714 42 (Int32.ofInt (-1))) 1714 33 (nI (LC + 1)) = fy at gy y34 my y27 yml ytl ⊢
    rw [y34, y27]
    refine z_ixi (by omega) (by omega) ?_
    rw [yml.1, show nI 10 * nI LC + nI (l_of (u_pa u) tg).2.1 - nI 1 = nI (10 * LC + ((l_of (u_pa u) tg).2.1 - 1)) by rw [z_mul, z_add, z_sub (by omega), Nat.add_sub_assoc l2']]
    refine z_ixi (by omega) (by omega) ?_
    rw [(yml.2 _ (show (l_of (u_pa u) tg).2.1 - 1 < (l_of (u_pa u) tg).2.1 by omega)).1]
    refine z_ixi hT' (by omega) ?_
    rw [ytl.1.2.2.1]
    refine k3 ho hok fy my gy (fun f7 o7 ra7 rd7 sp7 st7 hts7 FG7 e7 m7 g7 hK => ?_)
    obtain ⟨v1, v2, v3, v4, v5, v6, v7, v8, v9, v9', v11, v12, v13, v14, v15, v16⟩ := m7.2.1
    rw [v8, show nI (LC + 1) - nI 1 = nI LC by rw [z_sub (by omega), Nat.add_sub_cancel], show (mj_u2 (mj_u2 (mj_u2 f7 1714 33 (nI LC)) 1714 34 (nI li)) 1714 42 ci) 1714 43 = nI (op + 1) from (z_u2m (by decide)).trans ((z_u2m (by decide)).trans ((z_u2m (by decide)).trans v11)), show nI (op + 1) - nI 1 = nI op by rw [z_sub (by omega), Nat.add_sub_cancel]]
    have Fx : mw no_R (fun j => j = 33 ∨ j = 34 ∨ j = 41 ∨ j = 42 ∨ j = 43 ∨ j = 70) no_R f7 (mj_u2 (mj_u2 (mj_u2 (mj_u2 f7 1714 33 (nI LC)) 1714 34 (nI li)) 1714 42 ci) 1714 43 (nI op)) := mw_t (mw_S (by omega)) (mw_t (mw_S (by omega)) (mw_t (mw_S (by omega)) (mw_S (by omega))))
    have gx : mF tr LC CA f (mj_u2 (mj_u2 (mj_u2 (mj_u2 f7 1714 33 (nI LC)) 1714 34 (nI li)) 1714 42 ci) 1714 43 (nI op)) := mF_t gy (mF_t (mF_lo g7 (Nat.le_refl _) (Nat.le_succ _) (Nat.le_refl _)) (mF_w Fx (fun j q => by unfold rS; omega) (fun a q => absurd q (fun t => t))))
    refine hK _ (MM_ln m7 Fx (fun j q => q) (fun a q => absurd q (fun t => t)) ⟨s1, ?_, ?_, ?_, s5, s6, s7, ?_, mL_F gx s5 s9' s9, s9', z_u2s, ?_, s13, ?_, chM_F gx (Nat.le_refl _) (pX_10 hx) s15, ?_⟩ ?_) gx
    · exact (z_u2m (by decide)).trans ((z_u2m (by decide)).trans ((z_u2m (by decide)).trans ((z_u2m (by decide)).trans v2)))
    · exact (z_u2m (by decide)).trans ((z_u2m (by decide)).trans ((z_u2m (by decide)).trans ((z_u2m (by decide)).trans v3)))
    · exact (z_u2m (by decide)).trans ((z_u2m (by decide)).trans z_u2s)
    · exact (z_u2m (by decide)).trans ((z_u2m (by decide)).trans ((z_u2m (by decide)).trans z_u2s))
    · exact (z_u2m (by decide)).trans ((z_u2m (by decide)).trans ((z_u2m (by decide)).trans ((z_u2m (by decide)).trans v12)))
    · exact (z_u2m (by decide)).trans z_u2s
    · exact (z_u2m (by decide)).trans ((z_u2m (by decide)).trans ((z_u2m (by decide)).trans ((z_u2m (by decide)).trans v16)))
    · exact (z_u2m (by decide)).trans ((z_u2m (by decide)).trans ((z_u2m (by decide)).trans ((z_u2m (by decide)).trans m7.2.2.2.2.2.2.2.1)))
  have kd64 : ¬ (nI 64 : Int32) = nI 42 ∧ ¬ (nI 64 : Int32) = nI 107 ∧ ¬ (nI 64 : Int32) = nI 43 := ⟨by decide, by decide, by decide⟩
  by_cases hbad : op = 12 ∨ ¬ (l_of (u_pa u) tg).1 = true
  · refine ⟨Int32.ofInt (-8), V, o, ra, rd, sp, st, hts, FG, pJ_r hV hst, ?_, ?_⟩
    · intro fr b cn top la ρ G hC hnx k1 k2 k3 Q hQ h80 hb1 hb2 d dm K t hd hdm htt c1 c2
      obtain ⟨dm, rfl⟩ : ∃ y, dm = y + 3 := ⟨dm - 3, by omega⟩
      refine ⟨fun q => absurd q (by decide), fun q => absurd q (by decide), fun q => absurd q (by decide), fun q => absurd q (by decide), fun _ => ?_, fun q => absurd q (by decide), fun q => absurd q (by decide), fun q => absurd q (by decide), fun q => absurd q (by decide), fun q => absurd q (by decide)⟩
      refine cls fr b cn top la ρ G hC k1 k3 (by omega) dm _ (fun _ => kk_x hC (by decide) (by omega) c2) (fun ho G' a1 a2 a3 a4 a5 a6 a7 a8 a9 a10 a11 a12 a13 a14 => ?_)
      have hno : ¬ (l_of (u_pa u) tg).1 = true := hbad.resolve_left (by omega)
      rw [if_neg hno]
      exact ⟨fun q => absurd q (by decide), fun q => c2 q o ρ G' cn (top + 1) t (rX_w hC (by omega) a1 ro_r a2 a3 (by rw [a13]; exact kd64.2.2) (by omega))⟩
    · intro f bg vc li LC ci CA tr hm Q hQ hQn hb1 hb2 D KK hD hk
      obtain ⟨D, rfl⟩ : ∃ x, D = x + 2 := ⟨D - 2, by omega⟩
      refine ⟨fun q => absurd q (by decide), fun _ => w_m_rendersOther hM ?_, fun q => absurd q (by decide)⟩
      rw [z_add]
      refine c_letter hM (MM_T hm hT) (by omega) ?_
      rw [tx_nxi (by omega), z_sub hg10.2, htg]
      refine z_bf (by decide) (z_bf (by decide) (z_bt rfl ?_))
      exact mod f bg vc li LC ci CA tr hm D KK (by omega) (fun _ f' a1 a2 => hk f' vc _ a1 a2 (by omega)) (fun _ _ f' a1 a2 => hk f' vc _ a1 a2 (by omega)) (fun ho hok => absurd hbad (by
        rintro (q | q)
        · omega
        · exact q hok))
  have ho12 : op < 12 := by
    have : ¬ op = 12 := fun q => hbad (Or.inl q)
    omega
  have hok : (l_of (u_pa u) tg).1 = true := Classical.byContradiction fun q => hbad (Or.inr q)
  obtain ⟨l1, l2, l3, l4⟩ := l_go_p hpa (m := 10) (n := 0) (t := tg) (c := fun _ => 0) ht10 (fun k hk => absurd hk (by omega)) hok
  have l1' : (l_of (u_pa u) tg).2.1 ≤ 10 := by
    have : (l_of (u_pa u) tg).2.1 = (l_go (u_pa u) 10 0 (fun _ => 0) tg).2.1 := rfl
    omega
  have l2' : 1 ≤ (l_of (u_pa u) tg).2.1 := l2
  have l3' : ∀ k, k < (l_of (u_pa u) tg).2.1 → (l_of (u_pa u) tg).2.2 k < 10 := l3
  have l4' : u_pa u ((l_of (u_pa u) tg).2.2 ((l_of (u_pa u) tg).2.1 - 1)) = 0 := l4
  generalize hn' : (l_of (u_pa u) tg).2.1 = n' at l1' l2' l3' l4'
  generalize hc' : (l_of (u_pa u) tg).2.2 = c' at l3' l4'
  rw [hn', hc'] at cls mod
  have hT' := l3' (n' - 1) (by omega)
  obtain ⟨hW', -, s0, kk0, hP0, hB0⟩ := hu.2.2.2 _ hT'
  have hs0 : s0 = 0 := by
    rw [l4'] at hP0
    rcases hP0 with ⟨g, -⟩ | ⟨-, -, -, -, -, g⟩
    · exact g
    · rw [sh_0] at g
      exact absurd g.symm (z_m1n (by have := tx_le hW' 2; omega))
  subst hs0
  have hn80 := hW'.1
  have hx1 : pX u (N + 1) (e_bh B N N) M S n' c' (op + 1) [] := by
    obtain ⟨h1, h2, h3, h4, h5, h6, h7, h8⟩ := pX_s (x := N) (pX_o hx ho12) (Nat.le_refl N)
    exact ⟨h1, h2, l1', l3', h5, h6, h7, fun y hy => nomatch hy⟩
  obtain ⟨e, V', o', ra', rd', sp', st', hts', FG', j1, j2, j3⟩ := bd_0 (o := o) (ra := ra) (rd := rd) (sp := sp) (hts := hts) (FG := FG) hB0 (pV_s hV) hst (fun hr => ih ho12 _ hT' _ _ _ _ _ _ hB0 (fun y hy => hy) (Nat.le_refl _) hr _ _ _ _ _ _ _ V o ra rd sp st hts FG hx1 (pV_s hV) hst)
  have hVV : ∀ s l, s < N → V' s l = V s l := fun s l hsl => j1.2.2.1 s l (by omega)
  have vN : ∀ l, V N l = none := fun l => by
    cases hv' : V N l with
    | none => rfl
    | some w => exact absurd (hV N l w hv').1 (Nat.lt_irrefl N)
  refine ⟨e, V, o', ra', rd', sp', st', hts', FG', ⟨j1.1, hV, fun _ _ _ => rfl, j1.2.2.2.1, j1.2.2.2.2⟩, ?_, ?_⟩
  · intro fr b cn top la ρ G hC hnx k1 k2 k3 Q hQ h80 hb1 hb2 d dm K t hd hdm htt c1 c2
    obtain ⟨dm, rfl⟩ : ∃ y, dm = y + 3 := ⟨dm - 3, by omega⟩
    refine ⟨fun q => absurd q (by decide), fun q => absurd q (by decide), fun q => absurd q (by decide), fun q => absurd q (by decide), fun _ => ?_, fun q => absurd q (by decide), fun q => absurd q (by decide), fun q => absurd q (by decide), fun q => absurd q (by decide), fun q => absurd q (by decide)⟩
    refine cls fr b cn top la ρ G hC k1 k3 (by omega) dm _ (fun q => absurd q (by omega)) (fun ho G' a1 a2 a3 a4 a5 a6 a7 a8 a9 a10 a11 a12 a13 a14 => ?_)
    rw [if_pos hok]
    obtain ⟨a15, a16⟩ := a14 hok
    have hs := hC.2.2.1
    obtain ⟨s1, s2, s3, s4, s5, s6, s7, s8, s9, s10, s11, s12, s13, s14⟩ := hs
    have hfl := hC.2.2.2.2.2.1
    have hG := hh_n hC.1
    have e4 : mj_i G' (707 + 4 * (top + 1)) 4 = sf fr N := by
      rw [a7, s6]
      unfold sf
      rw [if_neg (by omega)]
    have e11 : mj_i G' (707 + 4 * (top + 1)) 11 = kc (e_bh fr N (top + 1)) S M := by
      rw [a5, s8]
      exact (kc_fr (fr' := e_bh fr N (top + 1)) (S' := S) (fun _ _ => rfl) (fun j hj => if_neg (by have := (s14 j hj).1; omega))).symm
    obtain ⟨C1, F1, FF1⟩ := CC_sco (x := N) (cur := fr (N - 1)) (ch' := []) hC (by omega) vN rfl a1 ro_r a2 a3 (a4.trans hfl) a6 e4 (Nat.le_refl N) (a8.trans hfl) a9 a10 (Nat.le_refl _) a15 l1' a11 (fun y hy => nomatch hy) e11 a12 s3 (CC_sk hC a2 (by omega))
    have hs' : ∀ s, s < N → e_bh B N N s = B s ∧ e_bh fr N (top + 1) s = fr s ∧ e_bh b N (b (N - 1) + cn (N - 1)) s = b s ∧ e_bh cn N 0 s = cn s := fun s hsl => ⟨if_neg (by omega), if_neg (by omega), if_neg (by omega), if_neg (by omega)⟩
    have hcN : e_bh cn N 0 N = 0 := if_pos rfl
    have nx1 : mj_r G' (707 + 4 * top) 2 = mj_r (u_G u) r 10 := by
      rw [((a2.2.2.2 (707 + 4 * top) (by omega)).2.2 (by rw [ow_s (by omega)]; unfold qW; omega)).1 2]
      exact hnx
    refine ⟨fun _ => ?_, fun q => absurd rfl q⟩
    exact sc_C (TT := t + 100 * (2000 - st) + 100 + (m - p)) (q := m) hC nx1 hVV C1 ro_r F1 FF1 a16 a13 kd64 hs' (if_pos rfl) (if_pos rfl) (by rw [hcN]; exact Nat.zero_le _) (Nat.le_refl M) (fun _ _ => rfl) j2 o_le_r (by omega) (by omega) (by omega) (by rw [hcN]; omega) (by omega) hd (by omega) (by omega) (fun he ρ' G2 t' hN => c1 he ρ' G2 cn t' hN) c2
  · intro f bg vc li LC ci CA tr hm Q hQ hQn hb1 hb2 D KK hD hk
    obtain ⟨D, rfl⟩ : ∃ x, D = x + 2 := ⟨D - 2, by omega⟩
    refine ⟨fun q => absurd q (by decide), fun _ => w_m_rendersOther hM ?_, fun q => absurd q (by decide)⟩
    rw [z_add]
    refine c_letter hM (MM_T hm hT) (by omega) ?_
    rw [tx_nxi (by omega), z_sub hg10.2, htg]
    refine z_bf (by decide) (z_bf (by decide) (z_bt rfl ?_))
    refine mod f bg vc li LC ci CA tr hm D KK (by omega) (fun q => absurd q (by omega)) (fun _ q => absurd hok q) (fun _ _ f3 m3 g3 k3 => ?_)
    refine sco_M (ch := []) hM (fun y (hy : y ∈ ([] : List en)) => nomatch hy) j3 m3 hV hVV hx.2.2.2.2.2.2.1 (Nat.le_refl N) (by omega) (by omega) (Nat.le_refl _) (by omega) (by omega) (by omega) (fun f7 m7 g7 => ?_)
    exact k3 f7 o' ra' rd' sp' st' hts' FG' e m7 g7 (fun f8 m8 g8 => hk f8 vc _ m8 g8 (by omega))
end ZS
