/-! SCOPES of the model, with the whole picture -/
section ZK
variable {u : wo} {Gm : mj_G} {f f1 f' : mm_F} {T p q m d k r x : Nat} {e : Int32} {fe : Int32} {N : Nat} {B : Nat → Nat} {M : Nat} {S : Nat → Nat} {lc : Nat} {ln : Nat → Nat} {op : Nat} {ch : List en} {V : Nat → Nat → Option rv} {o : ost} {ra rd : Nat → Int32} {sp : Nat → Bool} {st hts : Nat} {FG : Nat → kfr} {V' : Nat → Nat → Option rv} {o' : ost} {ra' rd' : Nat → Int32} {sp' : Nat → Bool} {st' hts' : Nat} {FG' : Nat → kfr} {bg : Nat → Nat} {vc li LC : Nat} {ci : Int32} {CA tr : Nat}
theorem MM_osF (hM : mm_S Gm) (h : MM u f N B M S lc ln op ch V o ra rd sp st hts FG e bg vc li LC ci CA tr fe) (h10 : ∀ x, x ∈ ch → en_n x ≤ 10) (hN : N < 400) (hx : x ≤ N) {K : Int32 → mm_F → Prop} (hK : ∀ f', MM u f' (N + 1) (e_bh B N x) M S lc ln op ch V o ra rd sp st hts FG e (e_bh bg N vc) vc li LC ci CA tr fe → mF tr LC CA f f' → mw no_R (fun j => j = 26 ∨ j = 27) R_o f f' → K (f 1714 27) f') : m_opensScope Gm d (sh x) f K := by
  obtain ⟨w1, w2, ⟨m1, m2, m3, m4, m5, m6⟩, w4, w5, w6, w7, w8, w9, w0⟩ := h
  refine p_opensScope hM m1 m2 m3 hN hx (fun f' F i1 i2 i3 i4 => hK f' ?_ ?_ F)
  · have nr : ∀ a, R_o a → a = 1733 ∨ a = 1734 := fun a q => q
    obtain ⟨s1, s2, s3, s4, s5, s6, s7, s8, s9, s9', s11, s12, s13, s14, s15, s16⟩ := w2
    have s0 : ∀ j, ¬ (j = 26 ∨ j = 27) → f' 1714 j = f 1714 j := fun j hj => F.2.1 j hj
    have r : ∀ a i, ¬ (a = 1733 ∨ a = 1734) → a ≠ 1714 → ¬ (1728 ≤ a ∧ a ≤ 1732) → f' a i = f a i := fun a i h1 h2 h3 => F.1 a i h2 h3 (fun q => h1 (nr a q))
    have c0 : ∀ {L : List en} {m : Nat} {z : Int32}, m ≤ CA → (∀ y, y ∈ L → en_n y ≤ 10) → chM f L m LC z → chM f' L m LC z := fun hm hl => chM_F (tr := tr) ⟨mw_m F (fun _ _ => trivial) (fun j q => by unfold rS; omega) (fun a q => by have := nr a q; unfold rR; omega), fun j _ => r _ _ (by decide) (by decide) (by decide), fun j _ => r _ _ (by decide) (by decide) (by decide), fun j _ => r _ _ (by decide) (by decide) (by decide), fun a a1 a2 i _ => r _ _ (by omega) (by omega) (by omega)⟩ hm hl
    refine ⟨wM_f w1 F (by decide) (fun a q => by have := nr a q; omega), ⟨by omega, by rw [i4]; exact sh_s.symm, (s0 21 (by decide)).trans s3, (s0 34 (by decide)).trans s4, s5, s6, s7, (s0 33 (by decide)).trans s8, ⟨(r _ _ (by decide) (by decide) (by decide)).trans s9.1, fun k hk => ⟨(r _ _ (by decide) (by decide) (by decide)).trans (s9.2 k hk).1, (s9.2 k hk).2⟩⟩, s9', (s0 43 (by decide)).trans s11, (s0 41 (by decide)).trans s12, s13, (s0 42 (by decide)).trans s14, c0 (Nat.le_refl _) h10 s15, (s0 66 (by decide)).trans s16⟩, ⟨i1, i2, i3, ⟨m4.1, (s0 44 (by decide)).trans m4.2.1, fun k hk => ?_⟩, fun s hs => ?_, fun k hk => (r _ _ (by decide) (by decide) (by decide)).trans (m6 k hk)⟩, (s0 68 (by decide)).trans w4, w5, w6, (s0 69 (by decide)).trans w7, (s0 70 (by decide)).trans w8, oM_f w9 F ⟨by decide, by decide⟩ ⟨by unfold R_o; decide, by unfold R_o; decide⟩, fgM_f w0 F (fun a q => by have := nr a q; omega)⟩
    · obtain ⟨g1, g2, g3, g4⟩ := m4.2.2 k hk
      exact ⟨by omega, (r _ _ (by decide) (by decide) (by decide)).trans g2, (r _ _ (by decide) (by decide) (by decide)).trans g3, (r _ _ (by decide) (by decide) (by decide)).trans g4⟩
    · unfold e_bh
      by_cases q : s = N
      · rw [if_pos q]
        omega
      · rw [if_neg q]
        exact m5 s (by omega)
  · exact mF_w F (fun j q => by unfold rS; omega) (fun a q => by have q' : a = 1733 ∨ a = 1734 := q; unfold rR; omega)
theorem MM_os (hM : mm_S Gm) (h : MM u f N B M S lc ln op ch V o ra rd sp st hts FG e bg vc li LC ci CA tr fe) (h10 : ∀ x, x ∈ ch → en_n x ≤ 10) (hN : N < 400) (hx : x ≤ N) {K : Int32 → mm_F → Prop} (hK : ∀ f', MM u f' (N + 1) (e_bh B N x) M S lc ln op ch V o ra rd sp st hts FG e (e_bh bg N vc) vc li LC ci CA tr fe → mF tr LC CA f f' → K (f 1714 27) f') : m_opensScope Gm d (sh x) f K := MM_osF hM h h10 hN hx (fun f' h1 h2 _ => hK f' h1 h2)
/-- scopes that are the same -/
theorem me_cg {D : Nat → rv} {B' : Nat → Nat} (h : me f D N B' V') (hB : ∀ s, s < N → B' s = B s) (hV : V' = V) : me f D N B V := by
  subst hV
  exact ⟨h.1, fun s hs => by rw [← hB s hs]; exact h.2.1 s hs, h.2.2⟩
theorem mb_cg {bg' : Nat → Nat} (h : mb f N bg' vc) (hb : ∀ s, s < N → bg' s = bg s) : mb f N bg vc := ⟨h.1, fun s hs => by rw [← hb s hs]; exact h.2 s hs⟩
/-- variables of closed scopes are gone -/
theorem e_rm_V (hV : pV u N V) (h : ∀ s l, s < N → V' s l = V s l) : e_rm V' N = V := by
  funext s l
  unfold e_rm
  by_cases q : s < N
  · rw [if_pos q, h s l q]
  · rw [if_neg q]
    cases hv : V s l with
    | none => rfl
    | some v => exact absurd (hV s l v hv).1 q
theorem MM_cs (hM : mm_S Gm) {B' bg' : Nat → Nat} {vc1 : Nat} {V1 : Nat → Nat → Option rv} (h : MM u f (N + 1) B' M S lc ln op ch V1 o ra rd sp st hts FG e bg' vc1 li LC ci CA tr fe) (h10 : ∀ x, x ∈ ch → en_n x ≤ 10) (hN1 : 1 ≤ N) (hV : pV u N V) (hV1 : ∀ s l, s < N → V1 s l = V s l) (hB : ∀ s, s < N → B' s = B s) (hb : ∀ s, s < N → bg' s = bg s) (hvc : bg' N = vc) (hS : ∀ k, k < M → S k < N) (hBs : ∀ s, s < N → B s ≤ s) {K : mm_F → Prop} (hK : ∀ f', MM u f' N B M S lc ln op ch V o ra rd sp st hts FG e bg vc li LC ci CA tr fe → mF tr LC CA f f' → K f') : m_closesScope Gm d (sh N) f K := by
  obtain ⟨w1, w2, ⟨m1, m2, m3, m4, m5, m6⟩, w4, w5, w6, w7, w8, w9, w0⟩ := h
  refine p_closesScope hM m1 m2 m3 (fun f' F i1 i2 i3 i4 => hK f' ?_ ?_)
  · have nr : ∀ a, no_R a → False := fun a q => q
    obtain ⟨s1, s2, s3, s4, s5, s6, s7, s8, s9, s9', s11, s12, s13, s14, s15, s16⟩ := w2
    have s0 : ∀ j, ¬ (j = 26 ∨ j = 27 ∨ j = 30) → f' 1714 j = f 1714 j := fun j hj => F.2.1 j hj
    have r : ∀ a i, a ≠ 1714 → ¬ (1728 ≤ a ∧ a ≤ 1732) → f' a i = f a i := fun a i h2 h3 => F.1 a i h2 h3 (nr a)
    have c0 : ∀ {L : List en} {m : Nat} {z : Int32}, m ≤ CA → (∀ y, y ∈ L → en_n y ≤ 10) → chM f L m LC z → chM f' L m LC z := fun hm hl => chM_F (tr := tr) ⟨mw_m F (fun _ _ => trivial) (fun j q => by unfold rS; omega) (fun a q => absurd q (nr a)), fun j _ => r _ _ (by decide) (by decide), fun j _ => r _ _ (by decide) (by decide), fun j _ => r _ _ (by decide) (by decide), fun a a1 a2 i _ => r _ _ (by omega) (by omega)⟩ hm hl
    rw [hvc] at i2 i3
    refine ⟨wM_f w1 F (by decide) (fun a q => absurd q (nr a)), ⟨hN1, i4, (s0 21 (by decide)).trans s3, (s0 34 (by decide)).trans s4, s5, s6, s7, (s0 33 (by decide)).trans s8, ⟨(r _ _ (by decide) (by decide)).trans s9.1, fun k hk => ⟨(r _ _ (by decide) (by decide)).trans (s9.2 k hk).1, (s9.2 k hk).2⟩⟩, s9', (s0 43 (by decide)).trans s11, (s0 41 (by decide)).trans s12, s13, (s0 42 (by decide)).trans s14, c0 (Nat.le_refl _) h10 s15, (s0 66 (by decide)).trans s16⟩, ⟨me_cg i1 hB (e_rm_V hV hV1), i2, mb_cg i3 hb, ⟨m4.1, (s0 44 (by decide)).trans m4.2.1, fun k hk => ?_⟩, hBs, fun k hk => (r _ _ (by decide) (by decide)).trans (m6 k hk)⟩, (s0 68 (by decide)).trans w4, w5, w6, (s0 69 (by decide)).trans w7, (s0 70 (by decide)).trans w8, oM_f w9 F ⟨by decide, by decide⟩ ⟨nr _, nr _⟩, fgM_f w0 F (fun a q => absurd q (nr a))⟩
    obtain ⟨g1, g2, g3, g4⟩ := m4.2.2 k hk
    exact ⟨hS k hk, (r _ _ (by decide) (by decide)).trans g2, (r _ _ (by decide) (by decide)).trans g3, (r _ _ (by decide) (by decide)).trans g4⟩
  · exact mF_w F (fun j q => by unfold rS; omega) (fun a q => absurd q (fun t => t))
/-- a body in a scope of its own -/
theorem sco_M (hM : mm_S Gm) (h10 : ∀ x, x ∈ ch → en_n x ≤ 10) (h : sgM u Gm T (N + 1) (e_bh B N x) M S lc ln op ch V o ra rd sp st hts FG p q e V' o' ra' rd' sp' st' hts' FG') (hm : MM u f N B M S lc ln op ch V o ra rd sp st hts FG (nI 0) bg vc li LC ci CA tr (nI 320)) (hV : pV u N V) (hV' : ∀ s l, s < N → V' s l = V s l) (hS : ∀ k, k < M → S k < N) (hx : x ≤ N) (hN : N < 400) (h80 : q ≤ 80) (hq : q ≤ u_n u T) (hb1 : 9 * tr + (q - p) ≤ 72 * op + 80 ∧ 7 * (N + 1) + (q - p) ≤ 84 * op + 87) (hb2 : 5 * vc ≤ 95 * op + p) (hd : (q - p) + 90 * (12 - op) + 322 ≤ d) {K : mm_F → Prop} (hK : ∀ f', MM u f' N B M S lc ln op ch V o' ra' rd' sp' st' hts' FG' e bg vc li LC ci CA tr (nI 320) → mF tr LC CA f f' → K f') : m_scoped Gm d (sh x) (nI T) (nI p) (nI q) f K := by
  obtain ⟨d, rfl⟩ : ∃ y, d = y + 1 := ⟨d - 1, by omega⟩
  have h27 : f 1714 27 = sh N := hm.2.1.2.1
  have hN1 := hm.2.1.1
  have hBs := hm.2.2.1.2.2.2.2.1
  refine w_m_scoped hM (MM_os hM hm h10 hN hx (fun f1 m1 g1 => ?_))
  rw [h27]
  refine bd_M hM h m1 h80 hq hb1 hb2 (by omega) (fun f2 vc2 m2 g2 _ => ?_)
  exact MM_cs hM m2 h10 hN1 hV hV' (fun s hs => if_neg (by omega)) (fun s hs => if_neg (by omega)) (if_pos rfl) hS hBs (fun f3 m3 g3 => hK f3 m3 (mF_t g1 (mF_t g2 g3)))
end ZK
