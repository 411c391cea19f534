/-! RENDERING from its top, by both sides -/
section ZZ
variable {u : wo} {Gm : mj_G} {f f' : mm_F} {ρ ρ' ρ0 ρ1 : Nat → Nat} {G G0 G' : mj_G} {p q d T : Nat} {e : Int32} {K : Int32 → mj_G → Prop} {V : Nat → Nat → Option rv} {o : ost} {ra rd : Nat → Int32} {sp : Nat → Bool} {st hts : Nat} {FG : Nat → kfr} {V' : Nat → Nat → Option rv} {o' : ost} {ra' rd' : Nat → Int32} {sp' : Nat → Bool} {st' hts' : Nat} {FG' : Nat → kfr}
/-- a rendering, from its very beginning, by the class -/
theorem run_C {tg : Nat} {S : Nat → Nat} {oP : ost} (h : hh ρ (u_D u) (u_I u) G) (hw : wC u ρ G) (hf : fgC u ρ G FG) (hoP : oC G oP) (h66 : mj_i G 6 6 = nI (u_bu u)) (hbu : u_bu u ≤ 2000) (ho0 : mj_r G 1589 2 = 1590 ∨ mj_r G 1589 2 = 1591) (hne : mj_r G 1589 2 ≠ mj_r G 1589 0) (hu2 : u_o2 u = mj_r G 1589 0) (hun : u_on u = o_n oP) (huc : u_oc u = o_c oP) (ht : tg < 10) (hpa : ∀ t, t < 10 → u_pa u t ≤ 10) (hd : 303 ≤ d) (h80 : q ≤ 80)
    (hb : (l_of (u_pa u) tg).1 = true → sgC u 1 (fun _ => 0) 0 S (l_of (u_pa u) tg).2.1 (l_of (u_pa u) tg).2.2 0 [] (fun _ _ => none) (o_z oP) ra rd sp 0 0 FG (u_bd u ((l_of (u_pa u) tg).2.2 ((l_of (u_pa u) tg).2.1 - 1))) 0 0 q e V' o' ra' rd' sp' st' hts' FG')
    (hno : ¬ (l_of (u_pa u) tg).1 = true → e = Int32.ofInt (-8) ∧ st' = 0 ∧ hts' = 0 ∧ FG' = FG)
    (hK : ∀ ρ' G' o1, rE u ρ G (if e = nI 0 then o' else o_z o1) st' hts' FG' ρ' G' → K (if e = nI 0 then nI (o_n o') else e) G') : Rn_run (d + 1) (nI tg) G K := by
  obtain ⟨d, rfl⟩ : ∃ y, d = y + 1 := ⟨d - 1, by omega⟩
  have hG := hh_n h
  refine w_Rn_run h.1 (w_Ou_begin h.1 ?_)
  intro G1 e1 G2 e2 G3 e3
  obtain ⟨h1, -⟩ := re_w h (by omega) e1
  obtain ⟨h2, -⟩ := in_w h1 (by unfold wR; omega) e2
  obtain ⟨h3, -⟩ := re_w h2 (by omega) e3
  refine w_Ou_empty h3.1 ?_
  intro G4 e4 G5 e5
  obtain ⟨h4, -⟩ := in_w h3 (by unfold wR; omega) e4
  obtain ⟨h5, -⟩ := in_w h4 (by unfold wR; omega) e5
  refine w_St_begin h5.1 (z_ixi (by decide) (by decide) ?_)
  intro G6 e6 G7 e7 G8 e8 G9 e9 G10 e10 G11 e11 G12 e12 G13 e13 G14 e14 G15 e15 G16 e16 G17 e17 G18 e18 G19 e19
  obtain ⟨c1, c2, c3, c4, c5, c6, c7, b0, b3, b4, b5, b6, b7, b10, b11, b12, c8, c9, c10, c11, c12, c13, c14⟩ := c_begun h e1 e2 e3 e4 e5 e6 e7 e8 e9 e10 e11 e12 e13 e14 e15 e16 e17 e18 e19
  clear e1 e2 e3 e4 e5 e6 e7 e8 e9 e10 e11 e12 e13 e14 e15 e16 e17 e18 e19
  have nimR : ∀ o, wR o → ¬ im_o o := fun o q => (wR_bW q).2
  have w1 := wC_f h hw c2 ro_r nimR
  have f1 := fgC_f h hf c2 ro_r (fun o q => ⟨nimR o q, by unfold wR at q; unfold gW; omega⟩)
  refine c_layLine (i := 0) (by decide) ht c1 w1.1 (fun H a1 a2 a3 a4 a5 a6 => ?_)
  have nimL : ∀ o, lW 0 o → ¬ im_o o := fun o q => by
    unfold lW at q
    unfold im_o
    omega
  have w2 := wC_f c1 w1 a2 ro_r nimL
  have f2 := fgC_f c1 f1 a2 ro_r (fun o q => ⟨nimL o q, by unfold lW at q; unfold gW; omega⟩)
  have hI : ∀ a i, a < 1768 → a ≠ 707 → a ≠ 708 → mj_i H a i = mj_i G19 a i := fun a i q1 q2 q3 => ce_i c1 a2 q1 (by unfold lW; omega)
  have hR : ∀ a i, a < 1768 → a ≠ 707 → a ≠ 708 → mj_r H a i = mj_r G19 a i := fun a i q1 q2 q3 => ((a2.2.2.2 a (by have := hh_n c1; omega)).2.2 (by rw [ow_s q1]; unfold lW; omega)).1 i
  obtain ⟨p1, p2, p3, p4, p5, p6⟩ := hoP
  have hu : uC u H 0 0 := ⟨(hI 6 6 (by decide) (by decide) (by decide)).trans (c10.trans h66), (hI 6 7 (by decide) (by decide) (by decide)).trans c11, (hI 6 8 (by decide) (by decide) (by decide)).trans c12, hbu, Nat.zero_le _⟩
  have r0 : mj_r H 1589 0 = mj_r G 1589 2 := (hR 1589 0 (by decide) (by decide) (by decide)).trans c3
  have r2 : mj_r H 1589 2 = mj_r G 1589 0 := (hR 1589 2 (by decide) (by decide) (by decide)).trans c4
  have ho : oD u H (o_z oP) := by
    refine ⟨⟨o_zk p1, by rw [r0]; exact ho0, (hI 1589 1 (by decide) (by decide) (by decide)).trans c5, (hI 1589 5 (by decide) (by decide) (by decide)).trans c7, fun i hi => absurd hi (Nat.not_lt_zero i), fun i hi => ?_⟩, by rw [r2, hu2], by rw [r0, hu2]; exact hne, by rw [hu2]; exact p2, ?_, fun i hi => ?_⟩
    · rw [hI 1592 i (by decide) (by decide) (by decide), c13 1592 i (by decide) (by decide) (by decide) (by decide)]
      exact p6 i (Nat.le_trans hi (Nat.zero_le _))
    · rw [hI 1589 3 (by decide) (by decide) (by decide), c6, p3, hun]
    · rw [hu2, huc]
      rw [hI _ i (by omega) (by omega) (by omega), c13 _ i (by omega) (by omega) (by omega) (by omega)]
      exact p5 i (by rw [← hun]; exact hi)
  have F : fw ρ bW G H := fw_t (fw_m c2 (fun o q => wR_bW q)) ro_r (fw_m a2 (fun o q => ⟨by unfold lW at q; omega, nimL o q⟩))
  have rE_t : ∀ {o1 st1 hts1 FG1 ρ2 G2}, rE u ρ H o1 st1 hts1 FG1 ρ2 G2 → rE u ρ G o1 st1 hts1 FG1 ρ2 G2 := fun ⟨x1, x2, x3, x4⟩ => ⟨x1, fun a ha => x2 a (Nat.lt_of_lt_of_le ha F.1), fw_t F ro_r x3, x4⟩
  by_cases hok : (l_of (u_pa u) tg).1 = true
  · rw [if_pos hok]
    obtain ⟨k1, k2, k3⟩ := a6 hok
    obtain ⟨l1, l2, l3, l4⟩ := l_go_p hpa (m := 10) (n := 0) (t := tg) (c := fun _ => 0) ht (fun k hk => absurd hk (by omega)) hok
    have l1' : (l_of (u_pa u) tg).2.1 ≤ 10 := by
      have : (l_of (u_pa u) tg).2.1 = (l_go (u_pa u) 10 0 (fun _ => 0) tg).2.1 := rfl
      omega
    have hC : CC u ρ H 1 (fun _ => 0) 0 S (l_of (u_pa u) tg).2.1 (l_of (u_pa u) tg).2.2 0 [] (fun _ _ => none) (o_z oP) ra rd sp 0 0 FG (fun _ => 0) (fun _ => 0) (fun _ => 0) 0 0 := by
      refine ⟨a1, w2, ⟨Nat.le_refl _, by decide, by decide, Nat.le_refl _, fun s hs => Nat.le_refl _, (a3 3 (by decide) (by decide)).trans b3, a4, (a3 11 (by decide) (by decide)).trans b11, (a3 12 (by decide) (by decide)).trans b12, k1, l1', (a3 10 (by decide) (by decide)).trans b10, fun s hs => Nat.zero_le _, fun k hk => absurd hk (Nat.not_lt_zero k)⟩, ⟨⟨by decide, fun s hs => ⟨by show 0 < 200; omega, by show 0 + 0 ≤ 320; omega, fun r hr => absurd hr (by omega), (a3 4 (by decide) (by decide)).trans b4, (a3 5 (by decide) (by decide)).trans b5, (a3 6 (by decide) (by decide)).trans b6, fun p q1 q2 => absurd q2 (Nat.not_lt_zero _), fun l v q => absurd q (by simp)⟩⟩, fun s hs p' q' p1 p2 => absurd p2 (Nat.not_lt_zero _), fun k hk => absurd hk (Nat.not_lt_zero k)⟩, (hI 11 4 (by decide) (by decide) (by decide)).trans c8, (hI 11 2 (by decide) (by decide) (by decide)).trans c9, hu, ho, f2⟩
    exact run_B (d := d + 1) hC ((a3 0 (by decide) (by decide)).trans b0) k3 h80 (hb hok) (by omega) (fun ρ' G' o1 hE => hK ρ' G' o1 (rE_t hE))
  · rw [if_neg hok]
    obtain ⟨n1, n2, n3, n4⟩ := hno hok
    have he : ¬ e = nI 0 := by rw [n1]; decide
    have emp : Ou_empty (d + 1) H (fun G7 => K (Int32.ofInt (-8)) G7) := c_empty a1 w2 hu ho f2 (fun G2 hE => by
      have hk := hK ρ G2 (o_z oP) (by rw [if_neg he, n2, n3, n4]; exact rE_t hE)
      rw [if_neg he, n1] at hk
      exact hk)
    exact w_Rn_run_33 a1.1 (z_br (fun _ => z_bf (by decide) emp) (fun _ => z_bf (by decide) (z_bf (by decide) emp)))
end ZZ
