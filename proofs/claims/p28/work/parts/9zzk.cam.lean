/-! CALLS by the model -/
/-- what the entry of a call writes -/
def cR (a : Nat) : Prop := 1739 ≤ a ∧ a ≤ 1744
def cw (CA : Nat) (f f' : mm_F) : Prop := mw no_R (fun j => j = 41 ∨ j = 42) cR f f' ∧ ∀ a i, 1739 ≤ a → a ≤ 1744 → i ≠ CA → f' a i = f a i
section ZZK
variable {u : wo} {Gm : mj_G} {f f0 f1 f' : mm_F} {T T2 p q s d D tg rm me j k i kk e8 q8 gg : Nat} {x a lt : Nat → Nat} {ga : Nat → Nat} {av av0 : Nat → rv} {g g' : Nat → Option rv} {m2 : Nat} {e e1 e2 : Int32} {v : rv} {b8 : Int32} {L8 : List (Nat × Nat)} {N : Nat} {B : Nat → Nat} {M : Nat} {S : Nat → Nat} {lc : Nat} {ln : Nat → Nat} {op : Nat} {ch : List en} {V : Nat → Nat → Option rv} {o : ost} {ra rd : Nat → Int32} {sp : Nat → Bool} {st hts : Nat} {FG : Nat → kfr} {V' : Nat → Nat → Option rv} {o' : ost} {ra' rd' : Nat → Int32} {sp' : Nat → Bool} {st' hts' : Nat} {FG' : Nat → kfr} {bg : Nat → Nat} {vc li LC : Nat} {ci : Int32} {CA tr : Nat}
theorem cw_t (h1 : cw CA f f1) (h2 : cw CA f1 f') : cw CA f f' := ⟨mw_t h1.1 h2.1, fun a i a1 a2 hi => (h2.2 a i a1 a2 hi).trans (h1.2 a i a1 a2 hi)⟩
theorem cw_E {y : Int32} {b : Nat} (h : cR b) : cw CA f (mj_u2 f b CA y) := by
  have h' : 1739 ≤ b ∧ b ≤ 1744 := h
  refine ⟨⟨fun c i q1 q2 q3 => z_u2n (fun t => q3 (by rw [t]; exact h)), fun i _ => z_u2n (by omega), fun c i b1 b2 _ => z_u2n (by omega), fun i _ => z_u2n (by omega)⟩, fun c i a1 a2 hi => if_neg (fun t => hi t.2)⟩
theorem cw_S {y : Int32} (h : j = 41 ∨ j = 42) : cw CA f (mj_u2 f 1714 j y) := ⟨mw_S h, fun c i a1 a2 hi => z_u2n (by omega)⟩
theorem cw_T {w : Nat → Nat} {n : Nat} (hT : mt_T f T w n) (h : cw CA f f') : mt_T f' T w n := mt_o hT (fun k => h.1.1 1716 k (by decide) (by decide) (by unfold cR; decide)) (fun k => h.1.1 1717 k (by decide) (by decide) (by unfold cR; decide))
theorem cw_F {tr' LC' : Nat} (h : cw CA f f') : mF tr' LC' CA f f' := by
  have r : ∀ a i, ¬ (1728 ≤ a ∧ a ≤ 1732) → a ≠ 1714 → ¬ cR a → f' a i = f a i := fun a i h1 h2 h3 => h.1.1 a i h2 h1 h3
  exact ⟨mw_m h.1 (fun _ _ => trivial) (fun j q => by unfold rS; omega) (fun a q => by unfold cR at q; unfold rR; omega), fun j _ => r _ j (by decide) (by decide) (by unfold cR; decide), fun j _ => r _ j (by decide) (by decide) (by unfold cR; decide), fun j _ => r _ j (by decide) (by decide) (by unfold cR; decide), fun a a1 a2 i hi => h.2 a i a1 a2 (by omega)⟩
/-- the macro's variables are no more than its parameters -/
theorem mac_vc {B' bg' : Nat → Nat} {vc2 : Nat} {fe : Int32} (h : MM u f (N + 1) B' M S lc ln op ch (e_cl V N (p_vl lt g m2)) o ra rd sp st hts FG e bg' vc2 li LC ci CA tr fe) (hb : bg' N = vc) : vc2 ≤ vc + m2 := by
  obtain ⟨-, -, ⟨d1, d2, d3, -⟩, -⟩ := h
  obtain ⟨h5, -⟩ := me_vc d1 d2
  obtain ⟨-, -, d23⟩ := d2
  obtain ⟨-, d32⟩ := d3
  by_cases hle : vc2 ≤ vc + m2
  · exact hle
  · exfalso
    have hex : ∀ i, ∃ y, i < m2 + 1 → y < m2 ∧ f 1735 (vc + i) = nI N ∧ f 1736 (vc + i) = nI (lt y) := fun i => by
      by_cases hi : i < m2 + 1
      · obtain ⟨s', l, v, a1, a2, a3, a4, a5, -⟩ := h5 (vc + i) (by omega)
        have r1 := ((d32 N (Nat.lt_succ_self N)).2.2 (vc + i) (by omega) s' a1 a3).mpr (by omega)
        have hs : s' = N := by omega
        subst hs
        unfold e_cl at a5
        rw [if_pos rfl] at a5
        obtain ⟨y, y1, y2, -⟩ := p_vl_s a5
        exact ⟨y, fun _ => ⟨y1, a3, by rw [y2]; exact a4⟩⟩
      · exact ⟨0, fun q => absurd q hi⟩
    obtain ⟨c, hc⟩ := Classical.axiomOfChoice hex
    obtain ⟨i, j, h1, h2, h3⟩ := pg_n (n := m2) (c := c) (fun i hi => (hc i hi).1)
    obtain ⟨-, i1, i2⟩ := hc i (by omega)
    obtain ⟨-, j1, j2⟩ := hc j h2
    have := d23 (vc + i) (vc + j) (by omega) (by omega) (i1.trans j1.symm) (i2.trans (by rw [h3]; exact j2.symm))
    omega
/-- something has failed: nothing is opened -/
theorem p_opens_x {K : Bool → mm_F → Prop} (hM : mm_S Gm) (h70 : ¬ f 1714 70 = nI 0) (h43 : f 1714 43 = nI op) (hK : K false f) : m_opens Gm d f K := by
  have e1 : nI op + nI 0 = nI op := by rw [z_add, Nat.add_zero]
  refine w_m_opens hM (z_bf h70 (z_bf h70 ?_))
  rw [h43, e1, u2_same h43]
  exact z_bf h70 hK
/-- the body of a macro, and what is behind it -/
theorem p_303 {s2 : Int32} {ch' : List en} {B' bg' : Nat → Nat} {vc2 : Nat} {V1 : Nat → Nat → Option rv} {K : mm_F → Prop} (hM : mm_S Gm) (hT2 : T2 < 10) (hW : tx_W (u_w u T2) (u_n u T2)) (htg : tg < 80) (h9 : tb_h (u_A u) (u_G u) rm b8 (u_w u T2) tg e8) (h123 : u_w u T2 tg = 123) (h125 : u_w u T2 e8 = 125) {k8 r8 : Nat} {bb : Int32} (hB : tb_B k8 (u_A u) (u_G u) (nI T2) bb r8 (u_w u T2) (e8 + 1) q8 L8) (hq : u_w u T2 q8 = 123) (hq1 : u_w u T2 (q8 + 1) = 59)
    (h10 : ∀ x, x ∈ ch → en_n x ≤ 10) (h10' : ∀ x, x ∈ ch' → en_n x ≤ 10) (hm : MM u f0 (N + 1) B' M S lc ln (op + 1) ch V1 o ra rd sp st hts FG (nI 0) bg' vc2 li LC ci CA tr (nI 320)) (hCA : CA ≤ op) (hLC : LC ≤ op + 1) (hop : op < 12) (hc : cw CA f0 f) (h41 : f 1714 41 = nI CA)
    (hchM : ∀ f', cw CA f0 f' → f' 1739 CA = f 1739 CA → f' 1740 CA = f 1740 CA → f' 1741 CA = s2 → f' 1742 CA = sh N → f' 1743 CA = nI li → f' 1744 CA = ci → chM f' ch' (CA + 1) LC (nI CA))
    (hs : sgM u Gm T2 (N + 1) B' M S lc ln (op + 1) ch' V1 o ra rd sp st hts FG (e8 + 1) q8 e V' o' ra' rd' sp' st' hts' FG') (h80 : q8 ≤ u_n u T2) (hb1 : 9 * tr + (q8 - (e8 + 1)) ≤ 72 * (op + 1) + 80 ∧ 7 * (N + 1) + (q8 - (e8 + 1)) ≤ 84 * (op + 1) + 87) (hb2 : 5 * vc2 ≤ 95 * (op + 1) + (e8 + 1)) (hd : (q8 - (e8 + 1)) + 90 * (12 - (op + 1)) + 321 ≤ d)
    (hN1 : 1 ≤ N) (hV : pV u N V) (hVV : ∀ s l, s < N → V' s l = V s l) (hBe : ∀ s, s < N → B' s = B s) (hbg : ∀ s, s < N → bg' s = bg s) (hvc : bg' N = vc) (hS : ∀ k, k < M → S k < N) (hBs : ∀ s, s < N → B s ≤ s)
    (hK : ∀ f', MM u f' N B M S lc ln op ch V o' ra' rd' sp' st' hts' FG' e bg vc li LC ci CA tr (nI 320) → mF tr LC CA f0 f' → K f') : m_calls_303 Gm (d + 1) (nI (100 * T2 + tg)) (sh N) (nI T2) ci (nI CA) s2 f K := by
  have hn80 := hW.1
  have nr : ∀ a, no_R a → False := fun a q => q
  have nc : ∀ a, cR a → 1739 ≤ a ∧ a ≤ 1744 := fun a q => q
  have hs0 := hm.2.1
  obtain ⟨s1, s2', s3, s4, s5, s6, s7, s8, s9, s9', s11, s12, s13, s14, s15, s16⟩ := hs0
  have f34 : f 1714 34 = nI li := (hc.1.2.1 34 (by decide)).trans s4
  refine w_m_calls_303 hM (z_ixi (by omega) (by omega) ?_)
  rw [show (mj_u2 f 1741 CA s2) 1714 41 = nI CA from (z_u2n (by decide)).trans h41]
  refine z_ixi (by omega) (by omega) ?_
  rw [show (mj_u2 (mj_u2 f 1741 CA s2) 1742 CA (sh N)) 1714 41 = nI CA from (z_u2n (by decide)).trans ((z_u2n (by decide)).trans h41), show (mj_u2 (mj_u2 f 1741 CA s2) 1742 CA (sh N)) 1714 34 = nI li from (z_u2n (by decide)).trans ((z_u2n (by decide)).trans f34)]
  refine z_ixi (by omega) (by omega) ?_
  rw [show (mj_u2 (mj_u2 (mj_u2 f 1741 CA s2) 1742 CA (sh N)) 1743 CA (nI li)) 1714 41 = nI CA from (z_u2n (by decide)).trans ((z_u2n (by decide)).trans ((z_u2n (by decide)).trans h41))]
  refine z_ixi (by omega) (by omega) ?_
  rw [show (mj_u2 (mj_u2 (mj_u2 (mj_u2 f 1741 CA s2) 1742 CA (sh N)) 1743 CA (nI li)) 1744 CA ci) 1714 41 = nI CA from (z_u2n (by decide)).trans ((z_u2n (by decide)).trans ((z_u2n (by decide)).trans ((z_u2n (by decide)).trans h41)))]
  rw [show (mj_u2 (mj_u2 (mj_u2 (mj_u2 (mj_u2 f 1741 CA s2) 1742 CA (sh N)) 1743 CA (nI li)) 1744 CA ci) 1714 42 (nI CA)) 1714 41 = nI CA from (z_u2m (by decide)).trans ((z_u2n (by decide)).trans ((z_u2n (by decide)).trans ((z_u2n (by decide)).trans ((z_u2n (by decide)).trans h41)))), z_add]
  have hcz : cw CA f (mj_u2 (mj_u2 (mj_u2 (mj_u2 (mj_u2 (mj_u2 f 1741 CA s2) 1742 CA (sh N)) 1743 CA (nI li)) 1744 CA ci) 1714 42 (nI CA)) 1714 41 (nI (CA + 1))) := cw_t (cw_E (by unfold cR; decide)) (cw_t (cw_E (by unfold cR; decide)) (cw_t (cw_E (by unfold cR; decide)) (cw_t (cw_E (by unfold cR; decide)) (cw_t (cw_S (Or.inr rfl)) (cw_S (Or.inl rfl))))))
  have z41 : (mj_u2 (mj_u2 (mj_u2 (mj_u2 (mj_u2 (mj_u2 f 1741 CA s2) 1742 CA (sh N)) 1743 CA (nI li)) 1744 CA ci) 1714 42 (nI CA)) 1714 41 (nI (CA + 1))) 1714 41 = nI (CA + 1) := z_u2s
  have z42 : (mj_u2 (mj_u2 (mj_u2 (mj_u2 (mj_u2 (mj_u2 f 1741 CA s2) 1742 CA (sh N)) 1743 CA (nI li)) 1744 CA ci) 1714 42 (nI CA)) 1714 41 (nI (CA + 1))) 1714 42 = nI CA := (z_u2m (by decide)).trans z_u2s
  have y39 : (mj_u2 (mj_u2 (mj_u2 (mj_u2 (mj_u2 (mj_u2 f 1741 CA s2) 1742 CA (sh N)) 1743 CA (nI li)) 1744 CA ci) 1714 42 (nI CA)) 1714 41 (nI (CA + 1))) 1739 CA = f 1739 CA := (z_u2n (by decide)).trans ((z_u2n (by decide)).trans ((z_u2n (by decide)).trans ((z_u2n (by decide)).trans ((z_u2n (by decide)).trans (z_u2n (by decide))))))
  have y40 : (mj_u2 (mj_u2 (mj_u2 (mj_u2 (mj_u2 (mj_u2 f 1741 CA s2) 1742 CA (sh N)) 1743 CA (nI li)) 1744 CA ci) 1714 42 (nI CA)) 1714 41 (nI (CA + 1))) 1740 CA = f 1740 CA := (z_u2n (by decide)).trans ((z_u2n (by decide)).trans ((z_u2n (by decide)).trans ((z_u2n (by decide)).trans ((z_u2n (by decide)).trans (z_u2n (by decide))))))
  have y41 : (mj_u2 (mj_u2 (mj_u2 (mj_u2 (mj_u2 (mj_u2 f 1741 CA s2) 1742 CA (sh N)) 1743 CA (nI li)) 1744 CA ci) 1714 42 (nI CA)) 1714 41 (nI (CA + 1))) 1741 CA = s2 := (z_u2n (by decide)).trans ((z_u2n (by decide)).trans ((z_u2n (by decide)).trans ((z_u2n (by decide)).trans ((z_u2n (by decide)).trans z_u2s))))
  have y42 : (mj_u2 (mj_u2 (mj_u2 (mj_u2 (mj_u2 (mj_u2 f 1741 CA s2) 1742 CA (sh N)) 1743 CA (nI li)) 1744 CA ci) 1714 42 (nI CA)) 1714 41 (nI (CA + 1))) 1742 CA = sh N := (z_u2n (by decide)).trans ((z_u2n (by decide)).trans ((z_u2n (by decide)).trans ((z_u2n (by decide)).trans z_u2s)))
  have y43 : (mj_u2 (mj_u2 (mj_u2 (mj_u2 (mj_u2 (mj_u2 f 1741 CA s2) 1742 CA (sh N)) 1743 CA (nI li)) 1744 CA ci) 1714 42 (nI CA)) 1714 41 (nI (CA + 1))) 1743 CA = nI li := (z_u2n (by decide)).trans ((z_u2n (by decide)).trans ((z_u2n (by decide)).trans z_u2s))
  have y44 : (mj_u2 (mj_u2 (mj_u2 (mj_u2 (mj_u2 (mj_u2 f 1741 CA s2) 1742 CA (sh N)) 1743 CA (nI li)) 1744 CA ci) 1714 42 (nI CA)) 1714 41 (nI (CA + 1))) 1744 CA = ci := (z_u2n (by decide)).trans ((z_u2n (by decide)).trans z_u2s)
  generalize (mj_u2 (mj_u2 (mj_u2 (mj_u2 (mj_u2 (mj_u2 f 1741 CA s2) 1742 CA (sh N)) 1743 CA (nI li)) 1744 CA ci) 1714 42 (nI CA)) 1714 41 (nI (CA + 1))) = fz at hcz z41 z42 y39 y40 y41 y42 y43 y44 ⊢
  have hc0 := cw_t hc hcz
  have hchz := hchM fz hc0 y39 y40 y41 y42 y43 y44
  have zs : ∀ j, j ≠ 41 → j ≠ 42 → fz 1714 j = f0 1714 j := fun j h1 h2 => hc0.1.2.1 j (fun t => by omega)
  have zl : ∀ a i, a = 1737 ∨ a = 1738 → fz a i = f0 a i := fun a i h1 => hc0.1.1 a i (by omega) (by omega) (fun t => by have := nc a t; omega)
  have g0 : mF tr LC CA f0 fz := cw_F hc0
  have mz : MM u fz (N + 1) B' M S lc ln (op + 1) ch' V1 o ra rd sp st hts FG (nI 0) bg' vc2 li LC (nI CA) (CA + 1) tr (nI 320) := MM_ln hm (mw_m hc0.1 (fun _ t => t) (fun j t => by show j = 33 ∨ j = 34 ∨ j = 41 ∨ j = 42 ∨ j = 43 ∨ j = 70; omega) (fun _ t => t)) (fun j t => t) (fun a t => by have := nc a t; omega) ⟨s1, (zs 27 (by decide) (by decide)).trans s2', (zs 21 (by decide) (by decide)).trans s3, (zs 34 (by decide) (by decide)).trans s4, s5, s6, s7, (zs 33 (by decide) (by decide)).trans s8, ⟨(zl _ _ (Or.inr rfl)).trans s9.1, fun k hk => ⟨(zl _ _ (Or.inl rfl)).trans (s9.2 k hk).1, (s9.2 k hk).2⟩⟩, s9', (zs 43 (by decide) (by decide)).trans s11, z41, by omega, z42, hchz, (zs 66 (by decide) (by decide)).trans s16⟩ ((zs 70 (by decide) (by decide)).trans hm.2.2.2.2.2.2.2.1)
  have hTz := MM_T mz hT2
  rw [(z_mac T2 hT2 tg htg).2]
  refine c_tagEnd hM hTz (by omega) h9 h123 h125 (c_closeOf hM hTz (by omega) h9 h123 h125 hB hq (Or.inr hq1) (fun _ => ?_) (fun t => absurd t (by omega)))
  rw [z_add]
  refine bd_M hM hs mz (by omega) h80 hb1 hb2 hd (fun f2 vc3 m3 g3 _ => ?_)
  obtain ⟨v1, v2, v3, v4, v5, v6, v7, v8, v9, v9', v11, v12, v13, v14, v15, v16⟩ := m3.2.1
  rw [v12, show nI (CA + 1) - nI 1 = nI CA by rw [z_sub (by omega), Nat.add_sub_cancel], show (mj_u2 (mj_u2 f2 1714 41 (nI CA)) 1714 42 ci) 1714 43 = nI (op + 1) from (z_u2m (by decide)).trans ((z_u2m (by decide)).trans v11), show nI (op + 1) - nI 1 = nI op by rw [z_sub (by omega), Nat.add_sub_cancel]]
  have Fx : mw no_R (fun j => j = 33 ∨ j = 34 ∨ j = 41 ∨ j = 42 ∨ j = 43 ∨ j = 70) no_R f2 (mj_u2 (mj_u2 (mj_u2 f2 1714 41 (nI CA)) 1714 42 ci) 1714 43 (nI op)) := mw_t (mw_S (by omega)) (mw_t (mw_S (by omega)) (mw_S (by omega)))
  have gx : mF tr LC CA f0 (mj_u2 (mj_u2 (mj_u2 f2 1714 41 (nI CA)) 1714 42 ci) 1714 43 (nI op)) := mF_t g0 (mF_t (mF_lo g3 (Nat.le_refl _) (Nat.le_refl _) (Nat.le_succ _)) (mF_w Fx (fun j q => by unfold rS; omega) (fun a q => absurd q (nr a))))
  have mx : MM u (mj_u2 (mj_u2 (mj_u2 f2 1714 41 (nI CA)) 1714 42 ci) 1714 43 (nI op)) (N + 1) B' M S lc ln op ch V' o' ra' rd' sp' st' hts' FG' e bg' vc3 li LC ci CA tr (nI 320) := by
    refine MM_ln m3 Fx (fun j q => q) (fun a q => absurd q (nr a)) ⟨s1, ?_, ?_, ?_, s5, hLC, by omega, ?_, mL_F gx s5 s9' s9, s9', z_u2s, ?_, hCA, ?_, chM_F gx (Nat.le_refl _) h10 s15, ?_⟩ ?_
    · exact (z_u2m (by decide)).trans ((z_u2m (by decide)).trans ((z_u2m (by decide)).trans v2))
    · exact (z_u2m (by decide)).trans ((z_u2m (by decide)).trans ((z_u2m (by decide)).trans v3))
    · exact (z_u2m (by decide)).trans ((z_u2m (by decide)).trans ((z_u2m (by decide)).trans v4))
    · exact (z_u2m (by decide)).trans ((z_u2m (by decide)).trans ((z_u2m (by decide)).trans v8))
    · exact (z_u2m (by decide)).trans ((z_u2m (by decide)).trans z_u2s)
    · exact (z_u2m (by decide)).trans z_u2s
    · exact (z_u2m (by decide)).trans ((z_u2m (by decide)).trans ((z_u2m (by decide)).trans v16))
    · exact (z_u2m (by decide)).trans ((z_u2m (by decide)).trans ((z_u2m (by decide)).trans m3.2.2.2.2.2.2.2.1))
  exact MM_cs hM mx h10 hN1 hV hVV hBe hbg hvc hS hBs (fun f4 m4 g4 => hK f4 m4 (mF_t gx g4))
/-- a call by the model, up to its opening -/
theorem p_callA {x1 : Int32} {av0 : Nat → rv} {ra1 rd1 ra2 rd2 : Nat → Int32} {K : mm_F → Prop} (hM : mm_S Gm) (hu : uP u) (hT : T < 10) (hx : pX u N B M S lc ln op ch) (hV : pV u N V) (hm : MM u f N B M S lc ln op ch V o ra rd sp st hts FG (nI 0) bg vc li LC ci CA tr (nI 320)) (hN : N < 400) (hvc : vc + 3 ≤ 317) (hgg : gg < 10) (hpn : p + 2 < u_n u T) (hw2 : u_w u T (p + 2) = 48 + gg) {yy : Nat × Nat} (hyy : yy = (tg, rm)) (hq2 : u_qm u gg T2 = some yy) (hlt : l_fb (u_qm u gg) ln lc 0 < lc) (hT2' : ln (l_fb (u_qm u gg) ln lc 0) = T2) (mc : mcP u T2 tg rm x a m2 me) (htg : tg < 80) (hj : j ≤ 3) (hga : ∀ k, ga k = 3 ∨ ga k < j) (hgm : ∀ k, ga k ≠ 3 → k < m2) (hav : ∀ k, k < j → rv_in (u_D u) (av k)) (hd : 310 ≤ d)
    (hag : agM u Gm T T2 tg N B M S lc ln op ch V o ra rd sp st hts FG (p + 3) 0 0 (fun _ => 3) av0 e1 j ga av ra1 rd1)
    (hdf : e1 = nI 0 → dfM u Gm T2 tg a m2 j ga N B M S lc ln op ch V o ra1 rd1 sp st hts FG 0 (gvO ga av) e2 g' ra2 rd2)
    (h1 : ¬ e1 = nI 0 → ∀ f' fe, MM u f' N B M S lc ln op ch V o ra1 rd1 sp st hts FG e1 bg vc li LC ci CA tr fe → mF tr LC CA f f' → K f')
    (h2 : e1 = nI 0 → ∀ f' vc2 fe D, MM u f' (N + 1) (e_bh B N 0) M S lc ln op ch (e_cl V N (p_vl (p_lt (u_w u T2) a) g' m2)) o ra2 rd2 sp st hts FG e2 (e_bh bg N vc) vc2 li LC ci CA tr fe → mF tr LC CA f f' → D + 1 = d → m_calls_227 Gm (D + 1) x1 (nI T) (nI p) (nI (100 * T2 + tg)) (nI 320) (sh N) (nI T2) f' K) : m_calls Gm d x1 (nI T) (nI p) f K := by
  obtain ⟨d, rfl⟩ : ∃ y, d = y + 4 := ⟨d - 4, by omega⟩
  subst hyy
  have hs := hm.2.1
  have hT1 := MM_T hm hT
  have hW := hT1.2.1
  have hn := hW.1
  have hli : li < 14 := by
    have := hs.2.2.2.2.1
    have := hs.2.2.2.2.2.1
    have := hs.2.2.2.2.2.2.1
    omega
  refine w_m_calls hM ?_
  rw [z_add, z_add]
  refine c_letter hM hT1 (by omega) ?_
  rw [tx_nxi hpn, hw2]
  refine p_macroOf (q := u_qm u gg) hM hs.2.2.2.1 hli hx.2.2.1 hs.2.2.2.2.2.2.2.2.1 (tQ_w hM hu hm.1 hgg (by omega) (Or.inr rfl)) (fun t => absurd t (by omega)) (fun y y1 y2 y3 y4 => ?_)
  rw [hT2', hq2] at y2
  obtain rfl := Option.some.inj y2
  rw [hT2']
  have hc1 := mc.1
  obtain ⟨zm1, zm2⟩ := z_mac T2 hc1 tg htg
  refine z_bf (z_m1n (by omega)) ?_
  rw [zm1, zm2]
  refine w_m_findsArguments hM ?_
  rw [show nI 16777215 = gI (fun _ => 3) by decide +kernel]
  refine hag f bg vc li LC ci CA tr hm (fun i hi => absurd hi (by omega)) (d + 2) _ (by omega) (fun t1 f5 m5 g5 v5 => ?_) (fun t1 y f5 fe m5 g5 => z_bf (by rw [m5.2.2.2.2.2.2.2.1]; exact t1) (h1 t1 f5 fe m5 g5))
  refine z_bt m5.2.2.2.2.2.2.2.1 ?_
  have h10 := pX_10 hx
  rw [show (Int32.ofInt (-1)) = sh 0 from rfl]
  refine MM_osF hM m5 h10 hN (Nat.zero_le N) (fun f7 m7 g7 F7 => ?_)
  rw [m5.2.1.2.1, hs.2.2.1]
  have vN := pV_N hV
  have e0 : e_cl V N (p_vl (p_lt (u_w u T2) a) (gK (gvO ga av) 0) m2) = V := by
    rw [show gK (gvO ga av) 0 = fun _ => none from funext fun i => if_neg (Nat.not_lt_zero i)]
    exact e_cl_0 vN
  have m7' : MM u f7 (N + 1) (e_bh B N 0) M S lc ln op ch (e_cl V N (p_vl (p_lt (u_w u T2) a) (gK (gvO ga av) 0) m2)) o ra1 rd1 sp st hts FG (nI 0) (e_bh bg N vc) vc li LC ci CA tr (nI (320 + j)) := by
    rw [e0]
    exact m7
  refine p_give (j := j) (vc0 := vc) (f0 := f) hM h10 mc htg hj hga (fun k _ t => hgm k t) hav (by omega) vN hvc (fun f9 vc9 m9 g9 hv9 => ?_) (n := 3) (k := 0) (vc1 := vc) (by omega) (Nat.le_refl _) m7' (mF_t g5 g7) (fun i hi => mv_fr (v5 i hi) (hav i hi).1 F7 (fun t => t))
  have hm3 := mc.2.2.2.2.2.1
  have e3 : e_cl V N (p_vl (p_lt (u_w u T2) a) (gK (gvO ga av) 3) m2) = e_cl V N (p_vl (p_lt (u_w u T2) a) (gvO ga av) m2) := by
    congr 1
    funext l
    exact p_vl_c (fun i hi => if_pos (by omega))
  rw [e3] at m9
  exact hdf t1 f9 _ vc9 li LC ci CA tr m9 (by omega) (d + 3) _ _ _ _ _ K (by omega) (fun f2 vc2 fe y1 y2 _ => h2 t1 f2 vc2 fe (d + 3) y1 (mF_t g9 y2) rfl)
/-- a call by the model that fails behind its arguments -/
theorem p_callX {x1 x2 x3 x4 x8 : Int32} {fe : Int32} {V1 : Nat → Nat → Option rv} {B' bg' : Nat → Nat} {vc2 : Nat} {K : mm_F → Prop} (hM : mm_S Gm) (h10 : ∀ x, x ∈ ch → en_n x ≤ 10) (hm : MM u f (N + 1) B' M S lc ln op ch V1 o ra rd sp st hts FG e bg' vc2 li LC ci CA tr fe) (he : ¬ e = nI 0 ∨ (e = nI 0 ∧ op = 12)) (hop : op ≤ 12) (hN1 : 1 ≤ N) (hV : pV u N V) (hVV : ∀ s l, s < N → V1 s l = V s l) (hBe : ∀ s, s < N → B' s = B s) (hbg : ∀ s, s < N → bg' s = bg s) (hvc : bg' N = vc) (hS : ∀ k, k < M → S k < N) (hBs : ∀ s, s < N → B s ≤ s)
    (hK : ∀ f', MM u f' N B M S lc ln op ch V o ra rd sp st hts FG (if e = nI 0 then Int32.ofInt (-8) else e) bg vc li LC ci CA tr (nI 320) → mF tr LC CA f f' → K f') : m_calls_227 Gm (d + 1) x1 x2 x3 x4 (nI 320) (sh N) x8 f K := by
  refine w_m_calls_227 hM ?_
  obtain ⟨y1, y2⟩ := MM_fe (y := nI 320) hm h10
  generalize mj_u2 f 1714 21 (nI 320) = f1 at y1 y2 ⊢
  have hs := y1.2.1
  have h43 := hs.2.2.2.2.2.2.2.2.2.2.1
  have h70 : f1 1714 70 = e := y1.2.2.2.2.2.2.2.1
  rcases he with he | ⟨he, ho⟩
  · rw [if_neg he] at hK
    refine p_opens_x hM (by rw [h70]; exact he) h43 (z_bf (by decide) ?_)
    exact MM_cs hM y1 h10 hN1 hV hVV hBe hbg hvc hS hBs (fun f4 m4 g4 => hK f4 m4 (mF_t y2 g4))
  · rw [if_pos he] at hK
    refine p_opens hM (h70.trans he) h43 hop (fun t => absurd t (by omega)) (fun _ f3 F3 e1 e2 => z_bf (by decide) ?_)
    obtain ⟨b1, b2⟩ := MM_43 y1 F3 (fun j q => q) e1 e2 hs.2.2.2.2.2.1 hop hs.2.2.2.2.2.2.2.2.2.2.2.2.1
    exact MM_cs hM b1 h10 hN1 hV hVV hBe hbg hvc hS hBs (fun f4 m4 g4 => hK f4 m4 (mF_t y2 (mF_t b2 g4)))
/-- a call by the model: its body -/
theorem p_callB {x1 : Int32} {fe : Int32} {V1 : Nat → Nat → Option rv} {B' bg' : Nat → Nat} {vc2 e0 q1 r1 : Nat} {b1 : Int32} {ch' : List en} {K : mm_F → Prop} (hM : mm_S Gm) (hT : T < 10) (h9' : tb_h (u_A u) (u_G u) s b1 (u_w u T) p e0) (hp123 : u_w u T p = 123) (he125 : u_w u T e0 = 125) (hcase : (x1 = nI 0 ∧ ch' = []) ∨ (x1 = nI 1 ∧ ch' = (T, e0 + 1, q1, r1, N, lc, ln) :: ch ∧ ∃ kk bb rr LL, tb_B kk (u_A u) (u_G u) (nI T) bb rr (u_w u T) (e0 + 1) q1 LL ∧ u_w u T q1 = 123 ∧ u_w u T (q1 + 1) = 59))
    (hT2 : T2 < 10) (hW : tx_W (u_w u T2) (u_n u T2)) (htg : tg < 80) (h9 : tb_h (u_A u) (u_G u) rm b8 (u_w u T2) tg e8) (h123 : u_w u T2 tg = 123) (h125 : u_w u T2 e8 = 125) {k8 r8 : Nat} {bb : Int32} (hB : tb_B k8 (u_A u) (u_G u) (nI T2) bb r8 (u_w u T2) (e8 + 1) q8 L8) (hq : u_w u T2 q8 = 123) (hq1 : u_w u T2 (q8 + 1) = 59)
    (h10 : ∀ x, x ∈ ch → en_n x ≤ 10) (hlc : lc ≤ 10) (hm : MM u f (N + 1) B' M S lc ln op ch V1 o ra rd sp st hts FG (nI 0) bg' vc2 li LC ci CA tr fe) (hop : op < 12)
    (hs : sgM u Gm T2 (N + 1) B' M S lc ln (op + 1) ch' V1 o ra rd sp st hts FG (e8 + 1) q8 e V' o' ra' rd' sp' st' hts' FG') (h80 : q8 ≤ u_n u T2) (hb1 : 9 * tr + (q8 - (e8 + 1)) ≤ 72 * (op + 1) + 80 ∧ 7 * (N + 1) + (q8 - (e8 + 1)) ≤ 84 * (op + 1) + 87) (hb2 : 5 * vc2 ≤ 95 * (op + 1) + (e8 + 1)) (hd : (q8 - (e8 + 1)) + 90 * (12 - (op + 1)) + 322 ≤ d)
    (hN1 : 1 ≤ N) (hV : pV u N V) (hVV : ∀ s l, s < N → V' s l = V s l) (hBe : ∀ s, s < N → B' s = B s) (hbg : ∀ s, s < N → bg' s = bg s) (hvc : bg' N = vc) (hS : ∀ k, k < M → S k < N) (hBs : ∀ s, s < N → B s ≤ s)
    (hK : ∀ f', MM u f' N B M S lc ln op ch V o' ra' rd' sp' st' hts' FG' e bg vc li LC ci CA tr (nI 320) → mF tr LC CA f f' → K f') : m_calls_227 Gm (d + 1) x1 (nI T) (nI p) (nI (100 * T2 + tg)) (nI 320) (sh N) (nI T2) f K := by
  obtain ⟨d, rfl⟩ : ∃ y, d = y + 1 := ⟨d - 1, by omega⟩
  refine w_m_calls_227 hM ?_
  obtain ⟨y1, y2⟩ := MM_fe (y := nI 320) hm h10
  generalize mj_u2 f 1714 21 (nI 320) = f1 at y1 y2 ⊢
  have hsx := y1.2.1
  have h43 := hsx.2.2.2.2.2.2.2.2.2.2.1
  have h70 : f1 1714 70 = nI 0 := y1.2.2.2.2.2.2.2.1
  have hCA : CA ≤ op := hsx.2.2.2.2.2.2.2.2.2.2.2.2.1
  have hLC : LC ≤ op + 1 := hsx.2.2.2.2.2.1
  refine p_opens hM h70 h43 (by omega) (fun _ f3 F3 e1 e2 => z_bt rfl ?_) (fun t => absurd t (by omega))
  obtain ⟨m3, g3⟩ := MM_43 y1 F3 (fun j q => q) e1 e2 (by omega) (by omega) (by omega)
  obtain ⟨r1', r2, r3, r4, r5, r6, r7, r8', r9, r9', r11, r12, r13, r14, r15, r16⟩ := m3.2.1
  have hT3 := MM_T m3 hT
  have gK : ∀ f', MM u f' N B M S lc ln op ch V o' ra' rd' sp' st' hts' FG' e bg vc li LC ci CA tr (nI 320) → mF tr LC CA f3 f' → K f' := fun f' a1 a2 => hK f' a1 (mF_t y2 (mF_t g3 a2))
  -- the entry as far as it is written
  have ent : ∀ z : Int32, cw CA f3 (mj_u2 (mj_u2 f3 1739 CA z) 1740 CA (nI (e0 + 1))) ∧ (mj_u2 (mj_u2 f3 1739 CA z) 1740 CA (nI (e0 + 1))) 1714 41 = nI CA ∧ (mj_u2 (mj_u2 f3 1739 CA z) 1740 CA (nI (e0 + 1))) 1739 CA = z ∧ (mj_u2 (mj_u2 f3 1739 CA z) 1740 CA (nI (e0 + 1))) 1740 CA = nI (e0 + 1) := fun z => ⟨cw_t (cw_E (by unfold cR; decide)) (cw_E (by unfold cR; decide)), (z_u2n (by decide)).trans ((z_u2n (by decide)).trans r12), (z_u2n (by decide)).trans z_u2s, z_u2s⟩
  have e41 : ∀ z : Int32, (mj_u2 f3 1739 CA z) 1714 41 = nI CA := fun z => (z_u2n (by decide)).trans r12
  rcases hcase with ⟨rfl, rfl⟩ | ⟨rfl, rfl, kk, bb2, rr, LL, g1, g2, g3'⟩
  · refine z_bt rfl ?_
    rw [r12, r14]
    refine z_ixi (by omega) (by omega) (c_tagEnd hM (cw_T hT3 (cw_E (CA := CA) (by unfold cR; decide))) (by omega) h9' hp123 he125 ?_)
    rw [e41, z_add]
    refine z_ixi (by omega) (by omega) (z_bt rfl ?_)
    obtain ⟨n1, n2, n3, n4⟩ := ent (Int32.ofInt (-1))
    rw [n2]
    generalize mj_u2 (mj_u2 f3 1739 CA (Int32.ofInt (-1))) 1740 CA (nI (e0 + 1)) = f5 at n1 n2 n3 n4 ⊢
    exact p_303 (ch' := []) hM hT2 hW htg h9 h123 h125 hB hq hq1 h10 (fun x hx => nomatch hx) m3 hCA hLC hop n1 n2 (fun f' _ a1 _ _ _ _ _ => Or.inr ⟨CA, Nat.lt_succ_self _, rfl, a1.trans n3⟩) hs h80 hb1 hb2 (by omega) hN1 hV hVV hBe hbg hvc hS hBs gK
  · refine z_bf (by decide) ?_
    rw [r12, r14]
    refine z_ixi (by omega) (by omega) (c_tagEnd hM (cw_T hT3 (cw_E (CA := CA) (by unfold cR; decide))) (by omega) h9' hp123 he125 ?_)
    rw [e41, z_add]
    refine z_ixi (by omega) (by omega) (z_bf (by decide) ?_)
    obtain ⟨n1, n2, n3, n4⟩ := ent (nI T)
    have hT5 := cw_T hT3 n1
    rw [n2]
    generalize mj_u2 (mj_u2 f3 1739 CA (nI T)) 1740 CA (nI (e0 + 1)) = f5 at n1 n2 n3 n4 hT5 ⊢
    refine c_closeOf hM hT5 (by omega) h9' hp123 he125 g1 g2 (Or.inr g3') (fun _ => ?_) (fun t => absurd t (by omega))
    refine p_303 (ch' := (T, e0 + 1, q1, r1, N, lc, ln) :: ch) hM hT2 hW htg h9 h123 h125 hB hq hq1 h10 (fun x hx => ?_) m3 hCA hLC hop n1 n2 (fun f' a0 a1 a2 a3 a4 a5 a6 => ⟨CA, li, Nat.lt_succ_self _, rfl, a1.trans n3, a2.trans n4, a3, a4, a5, r5, ?_, ?_⟩) hs h80 hb1 hb2 (by omega) hN1 hV hVV hBe hbg hvc hS hBs gK
    · rcases List.mem_cons.mp hx with rfl | hx
      · exact hlc
      · exact h10 x hx
    · exact mL_F (cw_F (tr' := tr) (LC' := LC) a0) r5 r9' r9
    · rw [a6]
      exact chM_F (cw_F (tr' := tr) (LC' := LC) a0) (Nat.le_refl _) h10 r15
end ZZK
