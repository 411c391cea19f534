/-! FRAGMENTS by both sides -/
section ZZT2
variable {u : wo} {Gm : mj_G} {f f' f1 : mm_F} {ρ ρ' ρ0 ρ1 : Nat → Nat} {G G0 G1 G2 G' : mj_G} {cur r nx p q m d t T l s k c j i q1 e0 : Nat} {e fe : Int32} {K : Int32 → mj_G → Prop} {v : rv} {b1 : Int32} {L1 : List (Nat × Nat)} {N : Nat} {B : Nat → Nat} {M : Nat} {S : Nat → Nat} {lc : Nat} {ln : Nat → Nat} {op : Nat} {ch : List en} {V : Nat → Nat → Option rv} {o : ost} {ra rd : Nat → Int32} {sp : Nat → Bool} {st hts : Nat} {FG : Nat → kfr} {V' : Nat → Nat → Option rv} {o' : ost} {ra' rd' : Nat → Int32} {sp' : Nat → Bool} {st' hts' : Nat} {FG' : Nat → kfr} {fr b cn : Nat → Nat} {top la : Nat} {bg : Nat → Nat} {vc li LC : Nat} {ci : Int32} {CA tr : Nat}
/-- a scope, with one more fragment open, by the model -/
theorem MM_kf {A : mm_F} {K : Int32 → mm_F → Prop} (hM : mm_S Gm) (h : MM u f N B M S lc ln op ch V o ra rd sp st hts FG e bg vc li LC ci CA tr fe) (h10 : ∀ x, x ∈ ch → en_n x ≤ 10) (hN : N < 400) (hM12 : M < 12) (FA : mw no_R (fun j => j = 44) (fun a => 1745 ≤ a ∧ a ≤ 1748) f A) (a44 : A 1714 44 = nI (M + 1)) (a45 : A 1745 M = nI N) (a46 : A 1746 M = nI 0) (a47 : A 1747 M = nI 0) (a48 : A 1748 M = nI 0) (ao : ∀ a k, 1745 ≤ a → a ≤ 1748 → k ≠ M → A a k = f a k) (hK : ∀ f', MM u f' (N + 1) (e_bh B N N) (M + 1) (g_u S M N) lc ln op ch V o (g_u ra M (nI 0)) (g_u rd M (nI 0)) (g_u sp M false) st hts FG e (e_bh bg N vc) vc li LC ci CA tr fe → mF tr LC CA f f' → K (A 1714 27) f') : m_opensScope Gm d (sh N) A K := by
  obtain ⟨w1, w2, ⟨m1, m2, m3, m4, m5, m6⟩, w4, w5, w6, w7, w8, w9, w0⟩ := h
  have nr : ∀ a, no_R a → False := fun a q => q
  have e1 : me A (u_D u) N B V := me_f m1 FA (fun y q => absurd q (nr y)) (by decide) (fun a q => by omega)
  have e2 : mu A vc := mu_f m2 FA (by decide) (fun a q => by omega)
  have e3 : mb A N bg vc := mb_f m3 FA (by decide) (fun a q => by omega)
  refine p_opensScope hM e1 e2 e3 hN (Nat.le_refl N) (fun f' F i1 i2 i3 i4 => hK f' ?_ ?_)
  · have nv : ∀ a, R_o a → a = 1733 ∨ a = 1734 := fun a q => q
    have F2 : mw no_R (fun j => j = 26 ∨ j = 27 ∨ j = 44) (fun a => a = 1733 ∨ a = 1734 ∨ (1745 ≤ a ∧ a ≤ 1748)) f f' := mw_t (mw_m FA (fun _ q => q) (fun j q => by omega) (fun a q => Or.inr (Or.inr q))) (mw_m F (fun _ q => q) (fun j q => by omega) (fun a q => by have := nv a q; omega))
    obtain ⟨s1, s2, s3, s4, s5, s6, s7, s8, s9, s9', s11, s12, s13, s14, s15, s16⟩ := w2
    have s0 : ∀ j, ¬ (j = 26 ∨ j = 27 ∨ j = 44) → f' 1714 j = f 1714 j := fun j hj => F2.2.1 j hj
    have r : ∀ a i, ¬ (a = 1733 ∨ a = 1734 ∨ (1745 ≤ a ∧ a ≤ 1748)) → a ≠ 1714 → ¬ (1728 ≤ a ∧ a ≤ 1732) → f' a i = f a i := fun a i h1 h2 h3 => F2.1 a i h2 h3 h1
    have rA : ∀ a i, 1745 ≤ a → a ≤ 1748 → f' a i = A a i := fun a i h1 h2 => F.1 a i (by omega) (by omega) (fun q => by have := nv a q; omega)
    have c0 : ∀ {L : List en} {m : Nat} {z : Int32}, m ≤ CA → (∀ y, y ∈ L → en_n y ≤ 10) → chM f L m LC z → chM f' L m LC z := fun hm hl => chM_F (tr := tr) ⟨mw_m F2 (fun _ _ => trivial) (fun j q => by unfold rS; omega) (fun a q => by unfold rR; omega), fun j _ => r _ _ (by decide) (by decide) (by decide), fun j _ => r _ _ (by decide) (by decide) (by decide), fun j _ => r _ _ (by decide) (by decide) (by decide), fun a a1 a2 i _ => r _ _ (by omega) (by omega) (by omega)⟩ hm hl
    refine ⟨wM_f w1 F2 (by decide) (fun a q => by omega), ⟨by omega, by rw [i4]; exact sh_s.symm, (s0 21 (by decide)).trans s3, (s0 34 (by decide)).trans s4, s5, s6, s7, (s0 33 (by decide)).trans s8, ⟨(r _ _ (by decide) (by decide) (by decide)).trans s9.1, fun k hk => ⟨(r _ _ (by decide) (by decide) (by decide)).trans (s9.2 k hk).1, (s9.2 k hk).2⟩⟩, s9', (s0 43 (by decide)).trans s11, (s0 41 (by decide)).trans s12, s13, (s0 42 (by decide)).trans s14, c0 (Nat.le_refl _) h10 s15, (s0 66 (by decide)).trans s16⟩, ⟨i1, i2, i3, ⟨by omega, (F.2.1 44 (by decide)).trans a44, fun k hk => ?_⟩, fun s hs => ?_, fun k hk => ?_⟩, (s0 68 (by decide)).trans w4, w5, w6, (s0 69 (by decide)).trans w7, (s0 70 (by decide)).trans w8, oM_f w9 F2 ⟨by decide, by decide⟩ ⟨by decide, by decide⟩, fgM_f w0 F2 (fun a q => by omega)⟩
    · by_cases q : k = M
      · subst q
        rw [g_us, g_us, g_us]
        exact ⟨Nat.lt_succ_self N, (rA _ _ (by decide) (by decide)).trans a45, (rA _ _ (by decide) (by decide)).trans a46, (rA _ _ (by decide) (by decide)).trans a47⟩
      · rw [g_un q, g_un q, g_un q]
        obtain ⟨g1, g2, g3, g4⟩ := m4.2.2 k (by omega)
        exact ⟨by omega, (rA _ _ (by decide) (by decide)).trans ((ao _ _ (by decide) (by decide) q).trans g2), (rA _ _ (by decide) (by decide)).trans ((ao _ _ (by decide) (by decide) q).trans g3), (rA _ _ (by decide) (by decide)).trans ((ao _ _ (by decide) (by decide) q).trans g4)⟩
    · unfold e_bh
      by_cases q : s = N
      · rw [if_pos q]
        omega
      · rw [if_neg q]
        exact m5 s (by omega)
    · by_cases q : k = M
      · subst q
        rw [g_us]
        exact (rA _ _ (by decide) (by decide)).trans a48
      · rw [g_un q]
        exact (rA _ _ (by decide) (by decide)).trans ((ao _ _ (by decide) (by decide) q).trans (m6 k (by omega)))
  · have nv : ∀ a, R_o a → a = 1733 ∨ a = 1734 := fun a q => q
    exact mF_t (mF_w FA (fun j q => by unfold rS; omega) (fun a q => by unfold rR; omega)) (mF_w F (fun j q => by unfold rS; omega) (fun a q => by have := nv a q; unfold rR; omega))
/-- the scope closed, and the fragment -/
theorem MM_kc {K : mm_F → Prop} (hM : mm_S Gm) {B' bg' S' : Nat → Nat} {vc1 : Nat} {V1 : Nat → Nat → Option rv} (h : MM u f (N + 1) B' (M + 1) S' lc ln (op + 1) ch V1 o ra rd sp st hts FG e bg' vc1 li LC ci CA tr fe) (h10 : ∀ x, x ∈ ch → en_n x ≤ 10) (hN1 : 1 ≤ N) (hV : pV u N V) (hV1 : ∀ s l, s < N → V1 s l = V s l) (hB : ∀ s, s < N → B' s = B s) (hb : ∀ s, s < N → bg' s = bg s) (hvc : bg' N = vc) (hSS : ∀ k, k < M → S' k = S k) (hS : ∀ k, k < M → S k < N) (hBs : ∀ s, s < N → B s ≤ s) (hop : op ≤ 12) (hLC : LC ≤ op + 1) (hCA : CA ≤ op)
    (hK : ∀ f1 f', f' = mj_u2 (mj_u2 f1 1714 44 ((f1 1714 44) - (nI 1))) 1714 43 (((mj_u2 f1 1714 44 ((f1 1714 44) - (nI 1))) 1714 43) - (nI 1)) → MM u f' N B M S lc ln op ch V o ra rd sp st hts FG e bg vc li LC ci CA tr fe → mF tr LC CA f f' → f' 1746 M = ra M → f' 1747 M = rd M → f' 1748 M = bI (sp M) → K f1) : m_closesScope Gm d (sh N) f K := by
  obtain ⟨w1, w2, ⟨m1, m2, m3, m4, m5, m6⟩, w4, w5, w6, w7, w8, w9, w0⟩ := h
  have nr : ∀ a, no_R a → False := fun a q => q
  refine p_closesScope hM m1 m2 m3 (fun f1 F i1 i2 i3 i4 => hK f1 _ rfl ?_ ?_ ?_ ?_ ?_)
  all_goals
    have e44 : f1 1714 44 = nI (M + 1) := (F.2.1 44 (by decide)).trans m4.2.1
    have e43 : f1 1714 43 = nI (op + 1) := (F.2.1 43 (by decide)).trans w2.2.2.2.2.2.2.2.2.2.2.1
    rw [e44, show nI (M + 1) - nI 1 = nI M by rw [z_sub (by omega), Nat.add_sub_cancel], show (mj_u2 f1 1714 44 (nI M)) 1714 43 = nI (op + 1) from (z_u2m (by decide)).trans e43, show nI (op + 1) - nI 1 = nI op by rw [z_sub (by omega), Nat.add_sub_cancel]]
    have Fz : mw no_R (fun j => j = 43 ∨ j = 44) no_R f1 (mj_u2 (mj_u2 f1 1714 44 (nI M)) 1714 43 (nI op)) := mw_t (mw_S (Or.inr rfl)) (mw_S (Or.inl rfl))
    have z43 : (mj_u2 (mj_u2 f1 1714 44 (nI M)) 1714 43 (nI op)) 1714 43 = nI op := z_u2s
    have z44 : (mj_u2 (mj_u2 f1 1714 44 (nI M)) 1714 43 (nI op)) 1714 44 = nI M := (z_u2m (by decide)).trans z_u2s
    generalize mj_u2 (mj_u2 f1 1714 44 (nI M)) 1714 43 (nI op) = f' at Fz z43 z44 ⊢
    have F2 : mw no_R (fun j => j = 26 ∨ j = 27 ∨ j = 30 ∨ j = 43 ∨ j = 44) no_R f f' := mw_t (mw_m F (fun _ q => q) (fun j q => by omega) (fun _ q => q)) (mw_m Fz (fun _ q => q) (fun j q => by omega) (fun _ q => q))
    have s0 : ∀ j, ¬ (j = 26 ∨ j = 27 ∨ j = 30 ∨ j = 43 ∨ j = 44) → f' 1714 j = f 1714 j := fun j hj => F2.2.1 j hj
    have r : ∀ a i, a ≠ 1714 → ¬ (1728 ≤ a ∧ a ≤ 1732) → f' a i = f a i := fun a i h2 h3 => F2.1 a i h2 h3 (nr a)
  · obtain ⟨s1, s2, s3, s4, s5, s6, s7, s8, s9, s9', s11, s12, s13, s14, s15, s16⟩ := w2
    have c0 : ∀ {L : List en} {m : Nat} {z : Int32}, m ≤ CA → (∀ y, y ∈ L → en_n y ≤ 10) → chM f L m LC z → chM f' L m LC z := fun hm hl => chM_F (tr := tr) ⟨mw_m F2 (fun _ _ => trivial) (fun j q => by unfold rS; omega) (fun a q => absurd q (nr a)), fun j _ => r _ _ (by decide) (by decide), fun j _ => r _ _ (by decide) (by decide), fun j _ => r _ _ (by decide) (by decide), fun a a1 a2 i _ => r _ _ (by omega) (by omega)⟩ hm hl
    rw [hvc] at i2 i3
    have i1' := me_cg i1 hB (e_rm_V hV hV1)
    refine ⟨wM_f w1 F2 (by decide) (fun a q => absurd q (nr a)), ⟨hN1, (Fz.2.1 27 (by decide)).trans i4, (s0 21 (by decide)).trans s3, (s0 34 (by decide)).trans s4, s5, hLC, hop, (s0 33 (by decide)).trans s8, ⟨(r _ _ (by decide) (by decide)).trans s9.1, fun k hk => ⟨(r _ _ (by decide) (by decide)).trans (s9.2 k hk).1, (s9.2 k hk).2⟩⟩, s9', z43, (s0 41 (by decide)).trans s12, hCA, (s0 42 (by decide)).trans s14, c0 (Nat.le_refl _) h10 s15, (s0 66 (by decide)).trans s16⟩, ⟨me_f i1' Fz (fun y q => absurd q (nr y)) (by decide) (fun a q => absurd q (nr a)), mu_f i2 Fz (by decide) (fun a q => absurd q (nr a)), mb_f (mb_cg i3 hb) Fz (by decide) (fun a q => absurd q (nr a)), ⟨by have := m4.1; omega, z44, fun k hk => ?_⟩, hBs, fun k hk => (r _ _ (by decide) (by decide)).trans (m6 k (by omega))⟩, (s0 68 (by decide)).trans w4, w5, w6, (s0 69 (by decide)).trans w7, (s0 70 (by decide)).trans w8, oM_f w9 F2 ⟨by decide, by decide⟩ ⟨nr _, nr _⟩, fgM_f w0 F2 (fun a q => absurd q (nr a))⟩
    obtain ⟨g1, g2, g3, g4⟩ := m4.2.2 k (by omega)
    exact ⟨hS k hk, (r _ _ (by decide) (by decide)).trans (g2.trans (by rw [hSS k hk])), (r _ _ (by decide) (by decide)).trans g3, (r _ _ (by decide) (by decide)).trans g4⟩
  · exact mF_w F2 (fun j q => by unfold rS; omega) (fun a q => absurd q (nr a))
  · exact (r _ _ (by decide) (by decide)).trans (m4.2.2 M (Nat.lt_succ_self M)).2.2.1
  · exact (r _ _ (by decide) (by decide)).trans (m4.2.2 M (Nat.lt_succ_self M)).2.2.2
  · exact (r _ _ (by decide) (by decide)).trans (m6 M (Nat.lt_succ_self M))
/-- a fragment met, by the model -/
theorem p_kop {K : mm_F → Prop} (hM : mm_S Gm) (hu : uP u) (hx : pX u N B M S lc ln op ch) (hV : pV u N V) (hT : T < 10) (hi : i < 10) (hp : p < 80) (hpr : (p, r) ∈ u_L u T) (h9 : tb_h (u_A u) (u_G u) r b1 (u_w u T) p e0) (hp123 : u_w u T p = 123) (he125 : u_w u T e0 = 125) {kk rr : Nat} {bb : Int32} (hB : tb_B kk (u_A u) (u_G u) (nI T) bb rr (u_w u T) (e0 + 1) q1 L1) (hq123 : u_w u T q1 = 123) (hq59 : u_w u T (q1 + 1) = 59) (hm : MM u f N B M S lc ln op ch V o ra rd sp st hts FG (nI 0) bg vc li LC ci CA tr (nI 320)) (hd : 90 * (12 - op) + 313 ≤ d) (hN : N < 400)
    (h1 : fitS (FG i) T p lc ln o → fitV u (FG i) N B V → ∀ f', MM u f' N B M S lc ln op ch V (o_pc (k_c (FG i)) (k_n (FG i)) 0 o).2 (hIa (FG i) N B M S V 26 0 ra) (hId (FG i) N B M S V 26 0 rd) sp st (hts + 1) FG (o_pc (k_c (FG i)) (k_n (FG i)) 0 o).1 bg vc li LC ci CA tr (nI 320) → mF tr LC CA f f' → K f')
    (h2 : ¬ (fitS (FG i) T p lc ln o ∧ fitV u (FG i) N B V) → op = 12 → ∀ f', MM u f' N B M S lc ln op ch V o ra rd sp st hts FG (Int32.ofInt (-8)) bg vc li LC ci CA tr (nI 320) → mF tr LC CA f f' → K f')
    (h3 : ¬ (fitS (FG i) T p lc ln o ∧ fitV u (FG i) N B V) → op < 12 → ∃ e V' o' ra' rd' sp' st' hts' FG', sgM u Gm T (N + 1) (e_bh B N N) (M + 1) (g_u S M N) lc ln (op + 1) ch V o (g_u ra M (nI 0)) (g_u rd M (nI 0)) (g_u sp M false) st hts FG (e0 + 1) q1 e V' o' ra' rd' sp' st' hts' FG' ∧ (∀ s l, s < N → V' s l = V s l) ∧ (e = nI 0 → sp' M = false → o_gr o o') ∧ q1 ≤ u_n u T ∧ (9 * tr + (q1 - (e0 + 1)) ≤ 72 * (op + 1) + 80 ∧ 7 * (N + 1) + (q1 - (e0 + 1)) ≤ 84 * (op + 1) + 87) ∧ 5 * vc ≤ 95 * (op + 1) + (e0 + 1) ∧ (e = nI 0 → ∀ f', MM u f' N B M S lc ln op ch V o' ra' rd' sp' st' hts' (if sp' M = true then FG' else g_u FG' i (k_nw u T p r lc ln (o_n o) (o_w o) o' (ra' M) (rd' M) N B V)) (nI 0) bg vc li LC ci CA tr (nI 320) → mF tr LC CA f f' → K f') ∧ (¬ e = nI 0 → ∀ f', MM u f' N B M S lc ln op ch V o' ra' rd' sp' st' hts' FG' e bg vc li LC ci CA tr (nI 320) → mF tr LC CA f f' → K f')) : m_keepsOrPuts Gm d (nI i) (nI T) (nI p) f K := by
  obtain ⟨d, rfl⟩ : ∃ y, d = y + 3 := ⟨d - 3, by omega⟩
  have h10 := pX_10 hx
  have hBs := hx.2.2.2.2.1
  have hSN := hx.2.2.2.2.2.2.1
  have hop := hx.2.1
  have hMop := hx.2.2.2.2.2.1
  refine w_m_keepsOrPuts hM ?_
  rw [z_mul, z_add, z_add]
  refine p_isKept hM hu h10 hBs hV hT hp hi (by omega) hm (fun q1' q2' f2 m2 F2 => z_bt rfl (p_putsKept hM h10 hBs hi q1'.1 q1'.2.2.2.2.2.1 (by omega) m2 (fun f3 m3 F3 => h1 q1' q2' f3 m3 (mF_t F2 F3)))) (fun hno f2 m2 F2 => z_bf (by decide) ?_)
  have hs2 := m2.2.1
  have hLC := hs2.2.2.2.2.2.1
  have hCA := hs2.2.2.2.2.2.2.2.2.2.2.2.2.1
  refine p_opens hM m2.2.2.2.2.2.2.2.1 hs2.2.2.2.2.2.2.2.2.2.2.1 hop (fun ho f3 F3 e1 e2 => z_bt rfl ?_) (fun ho f3 F3 e1 e2 => z_bf (by decide) ?_)
  case refine_2 =>
    obtain ⟨b1, b2⟩ := MM_43 m2 F3 (fun j q => q) e1 e2 hLC hop hCA
    exact h2 hno ho f3 b1 (mF_t F2 b2)
  obtain ⟨m3, g3⟩ := MM_43 m2 F3 (fun j q => q) e1 e2 (by omega) (by omega) (by omega)
  obtain ⟨e, V', o', ra', rd', sp', st', hts', FG', i1, i2, i3, i4, i5, i6, i7, i8⟩ := h3 hno ho
  have ho3 := m3.2.2.2.2.2.2.2.2.1
  have hn3 := ho3.1.1
  have h44 : f3 1714 44 = nI M := m3.2.2.1.2.2.2.1.2.1
  have h26 : f3 1714 26 = nI N := m3.2.2.1.2.2.1.1
  have h27 : f3 1714 27 = sh N := m3.2.1.2.1
  have hT3 := MM_T m3 hT
  rw [ho3.2.1, h44, h26, ho3.2.2.1]
  refine z_ixi (by omega) (by omega) (z_ixi (by omega) (by omega) (z_ixi (by omega) (by omega) (z_ixi (by omega) (by omega) (z_ixi (by omega) (by omega) ?_))))
  rw [show (mj_u2 (mj_u2 (mj_u2 (mj_u2 f3 1745 M (nI N)) 1746 M (nI 0)) 1747 M (nI 0)) 1748 M (nI 0)) 1714 44 = nI M from (z_u2n (by decide)).trans ((z_u2n (by decide)).trans ((z_u2n (by decide)).trans ((z_u2n (by decide)).trans h44))), z_add]
  have FA : mw no_R (fun j => j = 44) (fun a => 1745 ≤ a ∧ a ≤ 1748) f3 (mj_u2 (mj_u2 (mj_u2 (mj_u2 (mj_u2 f3 1745 M (nI N)) 1746 M (nI 0)) 1747 M (nI 0)) 1748 M (nI 0)) 1714 44 (nI (M + 1))) := by
    have w : ∀ {g : mm_F} {a y : Nat} {x : Int32}, 1745 ≤ a → a ≤ 1748 → mw no_R (fun j => j = 44) (fun a => 1745 ≤ a ∧ a ≤ 1748) g (mj_u2 g a y x) := fun {g a y x} a1 a2 => ⟨fun c z q1 q2 q3 => z_u2n (fun t => q3 (by rw [t]; exact ⟨a1, a2⟩)), fun z _ => z_u2n (by omega), fun c z b1 b2 _ => z_u2n (by omega), fun z _ => z_u2n (by omega)⟩
    exact mw_t (w (by decide) (by decide)) (mw_t (w (by decide) (by decide)) (mw_t (w (by decide) (by decide)) (mw_t (w (by decide) (by decide)) (mw_S rfl))))
  have a44 : (mj_u2 (mj_u2 (mj_u2 (mj_u2 (mj_u2 f3 1745 M (nI N)) 1746 M (nI 0)) 1747 M (nI 0)) 1748 M (nI 0)) 1714 44 (nI (M + 1))) 1714 44 = nI (M + 1) := z_u2s
  have a45 : (mj_u2 (mj_u2 (mj_u2 (mj_u2 (mj_u2 f3 1745 M (nI N)) 1746 M (nI 0)) 1747 M (nI 0)) 1748 M (nI 0)) 1714 44 (nI (M + 1))) 1745 M = nI N := (z_u2n (by decide)).trans ((z_u2n (by decide)).trans ((z_u2n (by decide)).trans ((z_u2n (by decide)).trans z_u2s)))
  have a46 : (mj_u2 (mj_u2 (mj_u2 (mj_u2 (mj_u2 f3 1745 M (nI N)) 1746 M (nI 0)) 1747 M (nI 0)) 1748 M (nI 0)) 1714 44 (nI (M + 1))) 1746 M = nI 0 := (z_u2n (by decide)).trans ((z_u2n (by decide)).trans ((z_u2n (by decide)).trans z_u2s))
  have a47 : (mj_u2 (mj_u2 (mj_u2 (mj_u2 (mj_u2 f3 1745 M (nI N)) 1746 M (nI 0)) 1747 M (nI 0)) 1748 M (nI 0)) 1714 44 (nI (M + 1))) 1747 M = nI 0 := (z_u2n (by decide)).trans ((z_u2n (by decide)).trans z_u2s)
  have a48 : (mj_u2 (mj_u2 (mj_u2 (mj_u2 (mj_u2 f3 1745 M (nI N)) 1746 M (nI 0)) 1747 M (nI 0)) 1748 M (nI 0)) 1714 44 (nI (M + 1))) 1748 M = nI 0 := (z_u2n (by decide)).trans z_u2s
  have ao : ∀ a y, 1745 ≤ a → a ≤ 1748 → y ≠ M → (mj_u2 (mj_u2 (mj_u2 (mj_u2 (mj_u2 f3 1745 M (nI N)) 1746 M (nI 0)) 1747 M (nI 0)) 1748 M (nI 0)) 1714 44 (nI (M + 1))) a y = f3 a y := fun a y h1 h2 hy => (if_neg (fun t => by omega)).trans ((if_neg (fun t => hy t.2)).trans ((if_neg (fun t => hy t.2)).trans ((if_neg (fun t => hy t.2)).trans (if_neg (fun t => hy t.2)))))
  have a27 : (mj_u2 (mj_u2 (mj_u2 (mj_u2 (mj_u2 f3 1745 M (nI N)) 1746 M (nI 0)) 1747 M (nI 0)) 1748 M (nI 0)) 1714 44 (nI (M + 1))) 1714 27 = sh N := (z_u2m (by decide)).trans ((z_u2n (by decide)).trans ((z_u2n (by decide)).trans ((z_u2n (by decide)).trans ((z_u2n (by decide)).trans h27))))
  generalize (mj_u2 (mj_u2 (mj_u2 (mj_u2 (mj_u2 f3 1745 M (nI N)) 1746 M (nI 0)) 1747 M (nI 0)) 1748 M (nI 0)) 1714 44 (nI (M + 1))) = fa at FA a44 a45 a46 a47 a48 ao a27 ⊢
  have hTa : mt_T fa T (u_w u T) (u_n u T) := mt_o hT3 (fun y => FA.1 1716 y (by decide) (by decide) (by decide)) (fun y => FA.1 1717 y (by decide) (by decide) (by decide))
  have hn80 := hTa.2.1.1
  refine c_tagEnd hM hTa (by omega) h9 hp123 he125 (c_closeOf hM hTa (by omega) h9 hp123 he125 hB hq123 (Or.inr hq59) (fun _ => ?_) (fun t => absurd t (by omega)))
  rw [a27, z_add]
  refine w_m_scoped hM (MM_kf hM m3 h10 hN (by omega) FA a44 a45 a46 a47 a48 ao (fun f5 m5 g5 => ?_))
  rw [a27]
  refine bd_M hM i1 m5 (by omega) i4 i5 i6 (by omega) (fun f6 vc6 m6 g6 _ => ?_)
  refine MM_kc hM m6 h10 hx.1 hV i2 (fun s hs => if_neg (by omega)) (fun s hs => if_neg (by omega)) (if_pos rfl) (fun k hk => g_un (by omega)) hSN (fun s _ => hBs s) hop hLC hCA (fun f7 f8 e8 m8 g8 v6 v7 v8 => ?_)
  rw [← e8]
  have gg : mF tr LC CA f f8 := mF_t F2 (mF_t g3 (mF_t g5 (mF_t g6 g8)))
  refine z_br (fun h0 => ?_) (fun h0 => ?_)
  · have he : e = nI 0 := m8.2.2.2.2.2.2.2.1.symm.trans h0
    subst he
    refine z_ixi (by omega) (by omega) ?_
    rw [v8]
    have i7' := i7 rfl
    by_cases hsp : sp' M = true
    · rw [if_pos hsp] at i7'
      exact z_bf (by rw [hsp]; decide) (i7' f8 m8 gg)
    · have hsf : sp' M = false := Bool.eq_false_iff.mpr hsp
      have og := i3 rfl hsf
      rw [if_neg hsp] at i7'
      refine z_bt (by rw [hsf]; rfl) (p_keeps (r := r) (n0 := o_n o) (w0 := o_w o) hM hu h10 hBs hV hi hT hp (by omega) m8 (by omega) v6 v7 og.1 ?_ (fun f9 m9 g9 => i7' f9 m9 (mF_t gg g9)))
      rw [ho3.2.2.2.2 _ (Nat.le_refl _), og.2.1 _ (Nat.le_refl _)]
  · have he : ¬ e = nI 0 := fun q => h0 (m8.2.2.2.2.2.2.2.1.trans q)
    exact i8 he f8 m8 gg
/-- a fragment met -/
theorem md_107 (hM : mm_S Gm) (hu : uP u) (hT : T < 10) (hx : pX u N B M S lc ln op ch) (hV : pV u N V) (hA : u_A u r) (ht : tb_t k (u_A u) (u_G u) (nI T) b1 r (u_w u T) p m L1) (hc : u_w u T (p + 1) = 107) (hst : st ≤ u_bu u) (hmn : m ≤ u_n u T) (hpr : (p, r) ∈ u_L u T) (hL1 : ∀ y, y ∈ L1 → y ∈ u_L u T) (ih : op < 12 → ihO u Gm (op + 1)) : mdJ u Gm T 107 N B M S lc ln op ch V o ra rd sp st hts FG r p m := by
  have hW := (hu.2.2.2 T hT).1
  have hn := hW.1
  have hnd := tg_nd hA ht hc
  have hop := hx.2.1
  have hMop := hx.2.2.2.2.2.1
  have hBs := hx.2.2.2.2.1
  have h10 := pX_10 hx
  have hch : ∀ y, y ∈ ch → en_x y ≤ N := fun y hy => (hx.2.2.2.2.2.2.2 y hy).2.2.2.1
  obtain ⟨e0, q1, b', h9, hp123, he125, hpe, hB, hq123, hq59, rfl, heq, hqn⟩ := tg_one ht hW (Or.inr (Or.inl hc))
  have hdg : tx_D (u_w u T (p + 2)) ∧ e0 = p + 3 ∧ mj_i (u_G u) r 3 = nI (u_w u T (p + 2) - 48) := by
    rcases h9 with ⟨a, -⟩ | ⟨a, -⟩ | ⟨a, -⟩ | ⟨a, a1, a2, a3, -⟩ | ⟨a, -⟩ | ⟨a, -⟩ | ⟨a, -⟩ | ⟨a, -⟩
    · omega
    · omega
    · omega
    · exact ⟨a1, a2, a3⟩
    · omega
    · omega
    · omega
    · omega
  obtain ⟨d1, d2, d3⟩ := hdg
  have d1' : 48 ≤ u_w u T (p + 2) ∧ u_w u T (p + 2) ≤ 57 := d1
  obtain ⟨i, hi, hw2⟩ : ∃ i, i < 10 ∧ u_w u T (p + 2) = 48 + i := ⟨u_w u T (p + 2) - 48, by omega, by omega⟩
  rw [hw2, Nat.add_sub_cancel_left] at d3
  have hp80 : p < 80 := by omega
  have hr6 : mj_k (u_G u) r = 6 := hnd.2.2.1
  have hr0 : r ≠ 0 := hnd.2.1
  have hk107 : mj_i (u_G u) r 0 = nI 107 := hnd.2.2.2.2.2
  -- where the model comes to
  have disp : ∀ (f : mm_F) (D : Nat) (KK : mm_F → Prop), mt_T f T (u_w u T) (u_n u T) → m_keepsOrPuts Gm D (nI i) (nI T) (nI p) f KK → m_rendersOther Gm (D + 1) (nI 107) (nI T) (nI p) f KK := fun f D KK hmt h => by
    refine w_m_rendersOther hM ?_
    rw [z_add]
    refine c_letter hM hmt (by omega) ?_
    rw [tx_nxi (by omega), hw2, z_sub (by omega), Nat.add_sub_cancel_left]
    exact z_bf (by decide) (z_bf (by decide) (z_bf (by decide) (z_bf (by decide) (z_bt rfl h))))
  by_cases hfit : fitS (FG i) T p lc ln o ∧ fitV u (FG i) N B V
  · -- put out again
    refine ⟨(o_pc (k_c (FG i)) (k_n (FG i)) 0 o).1, V, (o_pc (k_c (FG i)) (k_n (FG i)) 0 o).2, hIa (FG i) N B M S V 26 0 ra, hId (FG i) N B M S V 26 0 rd, sp, st, hts + 1, FG, pJ_o hV hst o_pc_le o_pc_gr, ?_, ?_⟩
    · intro fr b cn top la ρ G hC hnx k1 k2 k3 Q hQ h80 hb1 hb2 d dm K t hd hdm htt c1 c2
      refine ⟨fun q => absurd q (by decide), fun q => absurd q (by decide), fun q => absurd q (by decide), fun q => absurd q (by decide), fun q => absurd q (by decide), fun q => absurd q (by decide), fun _ => ?_, fun q => absurd q (by decide), fun q => absurd q (by decide), fun q => absurd q (by decide)⟩
      refine c_mf hu hC hV hBs hch hMop hT hA hr6 hpr hi d3 hop (by omega) (by omega) (fun _ _ G1 a1 a2 a3 a4 => ?_) (fun q => absurd hfit q) (fun q => absurd hfit q)
      exact ⟨fun q => c1 q ρ G1 cn (t + 1) ⟨a1, ro_r, a2, a3, a4.trans hnx, fun _ _ => rfl, by omega, by omega⟩, fun q => c2 q _ ρ G1 cn top t (rX_of a1 o_pc_le ro_r a2 a3 (fun _ _ => rfl) (by omega))⟩
    · intro f bg vc li LC ci CA tr hm Q hQ hQn hb1 hb2 D KK hD hk
      obtain ⟨D, rfl⟩ : ∃ x, D = x + 1 := ⟨D - 1, by omega⟩
      refine ⟨fun q => absurd q (by decide), fun _ => disp f D KK (MM_T hm hT) ?_, fun q => absurd q (by decide)⟩
      exact p_kop hM hu hx hV hT hi hp80 hpr h9 hp123 he125 hB hq123 hq59 hm (by omega) (by omega) (fun _ _ f' a1 a2 => hk f' vc _ a1 a2 (by omega)) (fun q => absurd hfit q) (fun q => absurd hfit q)
  by_cases ho : op = 12
  · -- too much is open
    refine ⟨Int32.ofInt (-8), V, o, ra, rd, sp, st, hts, FG, pJ_r hV hst, ?_, ?_⟩
    · intro fr b cn top la ρ G hC hnx k1 k2 k3 Q hQ h80 hb1 hb2 d dm K t hd hdm htt c1 c2
      refine ⟨fun q => absurd q (by decide), fun q => absurd q (by decide), fun q => absurd q (by decide), fun q => absurd q (by decide), fun q => absurd q (by decide), fun q => absurd q (by decide), fun _ => ?_, fun q => absurd q (by decide), fun q => absurd q (by decide), fun q => absurd q (by decide)⟩
      exact c_mf hu hC hV hBs hch hMop hT hA hr6 hpr hi d3 hop (by omega) (by omega) (fun q1 q2 => absurd ⟨q1, q2⟩ hfit) (fun _ _ => kk_x hC (by decide) (by omega) c2) (fun _ q => absurd q (by omega))
    · intro f bg vc li LC ci CA tr hm Q hQ hQn hb1 hb2 D KK hD hk
      obtain ⟨D, rfl⟩ : ∃ x, D = x + 1 := ⟨D - 1, by omega⟩
      refine ⟨fun q => absurd q (by decide), fun _ => disp f D KK (MM_T hm hT) ?_, fun q => absurd q (by decide)⟩
      exact p_kop hM hu hx hV hT hi hp80 hpr h9 hp123 he125 hB hq123 hq59 hm (by omega) (by omega) (fun q1 q2 => absurd ⟨q1, q2⟩ hfit) (fun _ _ f' a1 a2 => hk f' vc _ a1 a2 (by omega)) (fun _ q => absurd q (by omega))
  have ho12 : op < 12 := by omega
  have hx1 : pX u (N + 1) (e_bh B N N) (M + 1) (g_u S M N) lc ln (op + 1) ch := by
    obtain ⟨i1, i2, i3, i4, i5, i6, i7, i8⟩ := pX_s (x := N) (pX_o hx ho12) (Nat.le_refl N)
    refine ⟨i1, i2, i3, i4, i5, by omega, fun y hy => ?_, i8⟩
    by_cases q : y = M
    · rw [q, g_us]
      exact Nat.lt_succ_self N
    · rw [g_un q]
      have := hx.2.2.2.2.2.2.1 y (by omega)
      omega
  obtain ⟨e, V', o', ra', rd', sp', st', hts', FG', j1, j2, j3⟩ := bd_0 (o := o) (ra := g_u ra M (nI 0)) (rd := g_u rd M (nI 0)) (sp := g_u sp M false) (hts := hts) (FG := FG) hB (pV_s hV) hst (fun hr => ih ho12 T hT _ _ _ _ _ _ hB hL1 (by omega) hr _ _ _ _ _ _ _ V o (g_u ra M (nI 0)) (g_u rd M (nI 0)) (g_u sp M false) st hts FG hx1 (pV_s hV) hst)
  have hVV : ∀ s l, s < N → V' s l = V s l := fun s l hsl => j1.2.2.1 s l (by omega)
  have hgr : e = nI 0 → sp' M = false → o_gr o o' := fun q1 q2 => j1.1.2.2 q1 M (Nat.lt_succ_self M) q2
  have hoJ : oJ M sp o e sp' o' := ⟨j1.1.1, fun y hy q => j1.1.2.1 y (by omega) (by rw [g_un (by omega)]; exact q), fun q1 y hy q2 => j1.1.2.2 q1 y (by omega) q2⟩
  -- what is kept then
  have hres : ∃ FG2 : Nat → kfr, (e = nI 0 → FG2 = (if sp' M = true then FG' else g_u FG' i (k_nw u T p r lc ln (o_n o) (o_w o) o' (ra' M) (rd' M) N B V))) ∧ (¬ e = nI 0 → FG2 = FG') := by
    by_cases q : e = nI 0
    · exact ⟨_, fun _ => rfl, fun t => absurd q t⟩
    · exact ⟨FG', fun t => absurd t q, fun _ => rfl⟩
  obtain ⟨FG2, hf0, hf1⟩ := hres
  refine ⟨e, V, o', ra', rd', sp', st', hts', FG2, ⟨hoJ, hV, fun _ _ _ => rfl, j1.2.2.2.1, j1.2.2.2.2⟩, ?_, ?_⟩
  · intro fr b cn top la ρ G hC hnx k1 k2 k3 Q hQ h80 hb1 hb2 d dm K t hd hdm htt c1 c2
    refine ⟨fun q => absurd q (by decide), fun q => absurd q (by decide), fun q => absurd q (by decide), fun q => absurd q (by decide), fun q => absurd q (by decide), fun q => absurd q (by decide), fun _ => ?_, fun q => absurd q (by decide), fun q => absurd q (by decide), fun q => absurd q (by decide)⟩
    refine c_mf hu hC hV hBs hch hMop hT hA hr6 hpr hi d3 hop (by omega) (by omega) (fun q1 q2 => absurd ⟨q1, q2⟩ hfit) (fun _ q => absurd q ho) (fun _ _ G1 a1 a2 a3 a4 a5 a6 a7 a8 a9 => ⟨fun _ => ?_, fun q => absurd rfl q⟩)
    refine sc_K (TT := t + 100 * (2000 - st) + 100 + (q1 + 3 - p)) (q := q1 + 3) hu hC (a4.trans hnx) hV hVV hBs hT hp80 hpr hi hA hr0 hr6 d3 a1 a2 a3 a5 (a6.trans hk107) a7 a8 a9 j2 hgr (by omega) (by omega) (by omega) (by omega) (by omega) hd (by omega) (by omega) (fun he ρ' G3 t' hN => ?_) (fun he o2 ρ' G3 cn' top' t' hX => ?_)
    · rw [← hf0 he] at hN
      exact c1 he ρ' G3 cn t' hN
    · rw [← hf1 he] at hX
      exact c2 he o2 ρ' G3 cn' top' t' hX
  · intro f bg vc li LC ci CA tr hm Q hQ hQn hb1 hb2 D KK hD hk
    obtain ⟨D, rfl⟩ : ∃ x, D = x + 1 := ⟨D - 1, by omega⟩
    refine ⟨fun q => absurd q (by decide), fun _ => disp f D KK (MM_T hm hT) ?_, fun q => absurd q (by decide)⟩
    refine p_kop hM hu hx hV hT hi hp80 hpr h9 hp123 he125 hB hq123 hq59 hm (by omega) (by omega) (fun q1 q2 => absurd ⟨q1, q2⟩ hfit) (fun _ q => absurd q ho) (fun _ _ => ⟨e, V', o', ra', rd', sp', st', hts', FG', j3, hVV, hgr, by omega, by omega, by omega, fun he f' a1 a2 => ?_, fun he f' a1 a2 => ?_⟩)
    · rw [← hf0 he, ← he] at a1
      exact hk f' vc _ a1 a2 (by omega)
    · rw [← hf1 he] at a1
      exact hk f' vc _ a1 a2 (by omega)
/-- the tags that were left -/
theorem h_rest (hM : mm_S Gm) (hu : uP u) : ∀ op, op ≤ 12 → (op < 12 → ihO u Gm (op + 1)) → ∀ T, T < 10 → hRest u Gm T op := fun op hop ih T hT k b1 r p m L1 N B M S lc ln ch V o ra rd sp st hts FG hx hV hst h1 hA ht hmn hpr hL1 hc => by
  rcases hc with hc | hc | hc | hc
  · rw [hc]
    exact md_94 hM hu hT hx hV hA ht hc hst hmn hpr ih
  · rw [hc]
    exact md_107 hM hu hT hx hV hA ht hc hst hmn hpr hL1 ih
  · rw [hc]
    exact md_call hM hu hT hx hV hA ht hc (Or.inl rfl) hst hmn hL1 ih
  · rw [hc]
    exact md_call hM hu hT hx hV hA ht hc (Or.inr rfl) hst hmn hL1 ih
/-- bodies at every depth, by both sides -/
theorem bd_every (hM : mm_S Gm) (hu : uP u) : ihO u Gm 0 := bd_op hM hu (h_rest hM hu) (h := 12) (op := 0) (by decide)
end ZZT2
