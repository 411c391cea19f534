/-! EXPRESSIONS FOUND, with the whole pictures -/
section ZC
variable {u : wo} {Gm : mj_G} {f f' : mm_F} {ρ ρ' : Nat → Nat} {G G1 G' : mj_G} {cur r p q m d t T l s : Nat} {e : Int32} {v : rv} {N : Nat} {B : Nat → Nat} {M : Nat} {S : Nat → Nat} {lc : Nat} {ln : Nat → Nat} {op : Nat} {ch : List en} {V : Nat → Nat → Option rv} {o : ost} {ra rd : Nat → Int32} {sp : Nat → Bool} {st hts : Nat} {FG : Nat → kfr} {V' : Nat → Nat → Option rv} {o' : ost} {ra' rd' : Nat → Int32} {sp' : Nat → Bool} {st' hts' : Nat} {FG' : Nat → kfr} {fr b cn : Nat → Nat} {top la : Nat} {bg : Nat → Nat} {vc li LC : Nat} {ci : Int32} {CA tr : Nat}
theorem CC_ck (h : CC u ρ G N B M S lc ln op ch V o ra rd sp st hts FG fr b cn top la) : ck G N M S fr top ra rd := by
  obtain ⟨h1, h2, ⟨s1, s2, s3, s4, s5, s6, s7, s8, s9, s10, s11, s12, s13, s14⟩, ⟨c1, c2, c3⟩, h5, -⟩ := h
  refine ⟨s3, s2, h5, s8, fun k hk => ?_⟩
  obtain ⟨g1, g2, g3, g4⟩ := s14 k hk
  exact ⟨g1, g2, g3, g4, (c3 k hk).1, (c3 k hk).2.1⟩
theorem CC_cE (h : CC u ρ G N B M S lc ln op ch V o ra rd sp st hts FG fr b cn top la) : cE (u_D u) (u_I u) N B V M S fr b cn top ra rd (u_A u) (u_G u) ρ G := ⟨h.1, h.2.2.2.1.1, CC_ck h, h.2.1.2.2.2.1⟩
theorem CC_v {sl : Nat} (h : CC u ρ G N B M S lc ln op ch V o ra rd sp st hts FG fr b cn top la) (hh' : hh ρ' (u_D u) (u_I u) G') (he : ro_e ρ ρ' G) (F : fv ρ sl G G') (hk : ck G' N M S fr top ra' rd') : CC u ρ' G' N B M S lc ln op ch V o ra' rd' sp st hts FG fr b cn top la ∧ fw ρ bW G G' ∧ FF ρ top cur G G' := by
  obtain ⟨h1, h2, h3, h4, h5, h5', hu, h8, h9⟩ := h
  have htop := h3.2.1
  have hG := hh_n h1
  have nw : ∀ o, fx sl o → ¬ im_o o ∧ ¬ gW o ∧ o ≠ 6 ∧ o ≠ 11 ∧ ¬ (67 ≤ o ∧ o ≤ 706) ∧ ¬ oW o ∧ 67 ≤ o ∧ o ≤ 1593 := fun o q => by
    have hi := fx_im q
    unfold fx fW fF at q
    unfold gW oW
    exact ⟨hi, by omega, by omega, by omega, by omega, by omega, by omega, by omega⟩
  have hF : ∀ cur, FF ρ top cur G G' := fun cur a ha h7 h8 => by
    obtain ⟨g1, g2⟩ := F.2 a ha (by unfold fF; omega)
    refine ⟨fun j _ => g1 j, fun j _ hj => ?_⟩
    rcases g2 j with g | g
    · exact absurd (by omega) hj
    · exact g
  refine ⟨⟨hh', wC_f h1 h2 F.1 he (fun o q => (nw o q).1), sC_F (hF 0) h1 h3, ⟨ce_fv h1 h4.1 F he, cu_w h1 h4.1 h4.2.1 F.1 (fun o q => (nw o q).2.2.2.2.1), fun k hk' => ?_⟩, ?_, ?_, uC_f h1 hu F.1 (fun o q => (nw o q).2.2.1), (oD_f h1 h8 F.1 (fun o q => (nw o q).2.2.2.2.2.1)).1, fgC_f h1 h9 F.1 he (fun o q => ⟨(nw o q).1, (nw o q).2.1⟩)⟩, fw_m F.1 (fun o q => ⟨Or.inr (Or.inr (Or.inl (nw o q).2.2.2.2.2.2)), (nw o q).1⟩), hF cur⟩
  · obtain ⟨-, -, -, -, k5⟩ := hk
    obtain ⟨g1, g2, g3, g4, g5, g6⟩ := k5 k hk'
    have hfr := h3.2.2.2.2.1 _ g1
    refine ⟨g5, g6, ?_⟩
    have ho : ow ρ (707 + 4 * fr (S k)) = 707 + 4 * fr (S k) := ow_s (by omega)
    rcases (F.2 (707 + 4 * fr (S k)) (by omega) (by rw [ho]; unfold fF; omega)).2 21 with g | g
    · exact absurd g.2.2 (by decide)
    · exact g.trans (h4.2.2 k hk').2.2
  · exact (ce_i h1 F.1 (by decide) (fun q => (nw _ q).2.2.2.1 rfl)).trans h5
  · exact (ce_i h1 F.1 (by decide) (fun q => (nw _ q).2.2.2.1 rfl)).trans h5'
/-- what is done with a value, by the kind of the tag -/
def mwD (d c r : Nat) (G : mj_G) (K : Int32 → mj_G → Prop) : Prop := (c = 42 → Rn_enterLoop d r 1509 G (fun v G' => K v G')) ∧ (c = 61 → Nd_origin d r G (fun v12 G11 => Ou_putValue d 1509 v12 G11 (fun v14 G13 => K v14 G13))) ∧ (c = 63 → (mj_k G 1509 = 12) ∧ Va_isTrue d 1509 G (fun v17 G16 => mm_br (v17 = true) ((mj_k G16 r = 6) ∧ Rn_enter d (mj_r G16 r 8) G16 (fun v23 G22 => K v23 G22)) ((mj_k G16 r = 6) ∧ Rn_enter d (mj_r G16 r 9) G16 (fun v20 G19 => K v20 G19)))) ∧ (c = 116 → (mj_k G 1509 = 12) ∧ mm_br ((mj_i G 1509 0) = (nI 2)) (Rn_formOf d r 1509 G (fun v26 G25 => (mj_k G25 1509 = 12) ∧ (mj_k G25 r = 6) ∧ Nd_origin d r G25 (fun v30 G29 => Ou_putForm d v26 (mj_i G25 1509 1) v30 G29 (fun v32 G31 => K v32 G31)))) (K ((Int32.ofInt (-3))) G)) ∧ (c = 37 → St_set d (mj_i G r 4) 1509 G (fun v34 G33 => mm_br (v34 = true) (K (nI 0) G33) (K ((Int32.ofInt (-8))) G33)))
/-- a tag with an expression: its value is found first -/
theorem c_mwv {c : Nat} {K : Int32 → mj_G → Prop} (hC : CC u ρ G N B M S lc ln op ch V o ra rd sp st hts FG fr b cn top la) (hA : u_A u r) (hk : mj_k (u_G u) r = 6) (h0 : mj_i (u_G u) r 0 = nI c) (hc : c = 42 ∨ c = 61 ∨ c = 63 ∨ c = 116 ∨ c = 37) (hf : fnC (u_D u) (u_I u) N B V M S N (u_A u) (u_G u) (mj_r (u_G u) r 6) p q 0 0 ra rd e v ra' rd') (hd : 2 * (q - p) + 22 ≤ d)
    (h1 : e = nI 0 → ∀ ρ' G', CC u ρ' G' N B M S lc ln op ch V o ra' rd' sp st hts FG fr b cn top la → ro_e ρ ρ' G → fw ρ bW G G' → FF ρ top (fr (N - 1)) G G' → mj_r G' (707 + 4 * top) 2 = mj_r G (707 + 4 * top) 2 → cv (sv ρ' 0) G' 1509 v → mwD d c r G' K)
    (h2 : ¬ e = nI 0 → ∀ ρ' G', CC u ρ' G' N B M S lc ln op ch V o ra' rd' sp st hts FG fr b cn top la → ro_e ρ ρ' G → fw ρ bW G G' → FF ρ top (fr (N - 1)) G G' → K e G') : Rn_meetWithValue (d + 1) r G K := by
  have hs := hC.2.2.1
  have hh1 := hC.1
  obtain ⟨A1, A2, A3⟩ := wC_A hC.2.1 hA
  refine w_Rn_meetWithValue hh1.1 ⟨A1.trans hk, w_St_scope hh1.1 ?_⟩
  rw [hC.2.2.2.2.1]
  refine z_bf (by rw [z_lt (by have := hs.2.1; omega) (by omega)]; omega) (z_ixi hs.2.1 (by omega) ?_)
  rw [hs.2.2.2.2.2.1, A2 6]
  have hsf : nI (fr (N - 1)) = sf fr N := by
    unfold sf
    rw [if_neg (by have := hs.1; omega)]
  rw [hsf]
  refine hf fr b cn top ρ G (CC_cE hC) d _ hd (fun ρ' G' b1 b2 b3 b4 b5 => ?_)
  obtain ⟨c1, c2, c3⟩ := CC_v (cur := fr (N - 1)) hC b1 b2 b3 b4
  have hG := hh_n hh1
  have htop := hs.2.1
  have e2 : mj_r G' (707 + 4 * top) 2 = mj_r G (707 + 4 * top) 2 := (b3.2 (707 + 4 * top) (by omega) (by rw [ow_s (by omega)]; unfold fF; omega)).1 2
  refine z_br (fun he => ?_) (fun he => h2 he ρ' G' c1 b2 c2 c3)
  obtain ⟨B1, B2, B3⟩ := wC_A c1.2.1 hA
  obtain ⟨d1, d2, d3, d4, d5⟩ := h1 he ρ' G' c1 b2 c2 c3 e2 (b5 he)
  refine w_Fi_found b1.1 (z_ixi (by decide) (by decide) ⟨B1.trans hk, ?_⟩)
  show mm_br (mj_i G' r 0 = nI 42) (Rn_enterLoop d r 1509 G' _) _
  rw [B3 0, h0]
  have ne : ∀ k : Nat, k < 200 → ¬ c = k → ¬ nI c = nI k := fun k hk hn => by rw [z_eq (by omega) (by omega)]; exact hn
  by_cases c1' : c = 42
  · exact z_bt (by rw [c1']) (d1 c1')
  refine z_bf (ne _ (by decide) c1') ?_
  by_cases c2' : c = 61
  · exact z_bt (by rw [c2']) (d2 c2')
  refine z_bf (ne _ (by decide) c2') ?_
  by_cases c3' : c = 63
  · exact z_bt (by rw [c3']) (d3 c3')
  refine z_bf (ne _ (by decide) c3') ?_
  by_cases c4' : c = 116
  · exact z_bt (by rw [c4']) (d4 c4')
  refine z_bf (ne _ (by decide) c4') ?_
  exact d5 (by omega)
theorem sM_21 {fe fe' : Int32} {S1 R1 P : Nat → Prop} (h : sM f N lc ln op ch li LC ci CA tr fe) (h10 : ∀ x, x ∈ ch → en_n x ≤ 10) (F : mw P S1 R1 f f') (hS : ∀ j, S1 j → j ≠ 27 ∧ j ≠ 34 ∧ j ≠ 33 ∧ j ≠ 43 ∧ j ≠ 41 ∧ j ≠ 42 ∧ j ≠ 66) (hR : ∀ a, R1 a → ¬ (1737 ≤ a ∧ a ≤ 1744)) (h21 : f' 1714 21 = fe') : sM f' N lc ln op ch li LC ci CA tr fe' := by
  have F' : mw P (fun j => S1 j ∧ j ≠ 21) R1 (mj_u2 f 1714 21 fe') f' := ⟨fun a i a1 a2 a3 => (F.1 a i a1 a2 a3).trans (z_u2n a1).symm, fun i hi => by
    by_cases q : i = 21
    · rw [q, h21]
      exact z_u2s.symm
    · exact (F.2.1 i (fun t => hi ⟨t, q⟩)).trans (z_u2m q).symm, fun a i a1 a2 a3 => (F.2.2.1 a i a1 a2 a3).trans (z_u2n (by omega)).symm, fun i a1 => (F.2.2.2 i a1).trans (z_u2n (by decide)).symm⟩
  obtain ⟨s1, s2, s3, s4, s5, s6, s7, s8, s9, s9', s11, s12, s13, s14, s15, s16⟩ := h
  have c0 : ∀ {L : List en} {m : Nat} {z : Int32}, chM f L m LC z → chM (mj_u2 f 1714 21 fe') L m LC z := fun {L} => by
    induction L with
    | nil => exact fun h => h
    | cons x L ih =>
      intro m z ⟨j, l, g1, g2, g3, g4, g5, g6, g7, g8, g9, g11⟩
      exact ⟨j, l, g1, g2, g3, g4, g5, g6, g7, g8, g9, ih g11⟩
  have h' : sM (mj_u2 f 1714 21 fe') N lc ln op ch li LC ci CA tr fe' := ⟨s1, s2, z_u2s, s4, s5, s6, s7, s8, s9, s9', s11, s12, s13, s14, c0 s15, s16⟩
  exact sM_f h' h10 F' (fun j q => by have := hS j q.1; have := q.2; omega) hR
/-- what is found leaves the rest of the picture -/
theorem MM_v {fe fe' : Int32} (h : MM u f N B M S lc ln op ch V o ra rd sp st hts FG (nI 0) bg vc li LC ci CA tr fe) (h10 : ∀ x, x ∈ ch → en_n x ≤ 10) (F : mw (fun k => 320 ≤ k) (fun j => j = 21 ∨ j = 22 ∨ j = 23 ∨ j = 70) R_n f f') (hn : mn f' N M S ra' rd') (h70 : f' 1714 70 = e) (h21 : f' 1714 21 = fe') : MM u f' N B M S lc ln op ch V o ra' rd' sp st hts FG e bg vc li LC ci CA tr fe' ∧ mF tr LC CA f f' := by
  obtain ⟨h1, h2, ⟨m1, m2, m3, m4, m5, m6⟩, h4, h5, h6, h7, h8, h9, h0⟩ := h
  have s : ∀ j, ¬ (j = 21 ∨ j = 22 ∨ j = 23 ∨ j = 70) → f' 1714 j = f 1714 j := fun j hj => F.2.1 j hj
  refine ⟨⟨wM_f h1 F (by decide) (fun a q => by unfold R_n at q; omega), sM_21 h2 h10 F (fun j q => by omega) (fun a q => by unfold R_n at q; omega) h21, ⟨me_f m1 F (fun i q => q) (by decide) (fun a q => by unfold R_n at q; omega), mu_f m2 F (by decide) (fun a q => by unfold R_n at q; omega), mb_f m3 F (by decide) (fun a q => by unfold R_n at q; omega), hn, m5, fun k hk => (F.1 1748 k (by decide) (by decide) (by unfold R_n; decide)).trans (m6 k hk)⟩, (s 68 (by decide)).trans h4, h5, h6, (s 69 (by decide)).trans h7, h70, oM_f h9 F ⟨by decide, by decide⟩ ⟨by unfold R_n; decide, by unfold R_n; decide⟩, fgM_f h0 F (fun a q => by unfold R_n at q; omega)⟩, mF_w F (fun j q => by unfold rS; omega) (fun a q => by unfold R_n at q; unfold rR; omega)⟩
/-- an expression found in a template -/
theorem p_f2 {K : Int32 → mm_F → Prop} (hM : mm_S Gm) (hT : T < 10) (h10 : ∀ x, x ∈ ch → en_n x ≤ 10) (h : MM u f N B M S lc ln op ch V o ra rd sp st hts FG (nI 0) bg vc li LC ci CA tr (nI 320)) (hf : fnM Gm T (u_w u T) (u_n u T) (u_D u) (u_I u) N B V M S N p q ra rd e v ra' rd') (hpq : p ≤ q) (hq : q ≤ u_n u T) (h124 : ¬ u_w u T q = 124) (hd : 3 * (q - p) + 50 ≤ d)
    (h1 : e = nI 0 → ∀ f', MM u f' N B M S lc ln op ch V o ra' rd' sp st hts FG (nI 0) bg vc li LC ci CA tr (nI 321) → mF tr LC CA f f' → mv f' 320 v → f' 1714 23 = nI q → K (nI 320) f')
    (h2 : ¬ e = nI 0 → ∀ k f' fe, MM u f' N B M S lc ln op ch V o ra' rd' sp st hts FG e bg vc li LC ci CA tr fe → mF tr LC CA f f' → 320 ≤ k → k < 380 → (∃ m0, m0 ≤ 300 ∧ f' 1730 k = nI m0) → mj_b (f' 1731 k) → (∃ pp, pp ≤ q ∧ f' 1714 23 = nI pp) → K (nI k) f') : m_finds2 Gm (d + 2) (nI T) (nI p) f K := by
  have hT1 := MM_T h hT
  have hn80 := hT1.2.1.1
  have hW := hT1.2.1
  refine w_m_finds2 hM ?_
  have F0 : mw (fun k => 320 ≤ k) (fun j => j = 21 ∨ j = 22 ∨ j = 23 ∨ j = 70) R_n f (mj_u2 (mj_u2 f 1714 22 (nI T)) 1714 23 (nI p)) := mw_t (mw_S (by decide)) (mw_S (by decide))
  obtain ⟨w1, w2, w3, w4⟩ := h.1
  have h0 := h
  obtain ⟨-, hs, ⟨m1, m2, m3, m4, m5, m6⟩, -, -, -, -, h8, -⟩ := h0
  have hfm : fm T (u_w u T) (u_n u T) (u_D u) (u_I u) N B V M S N ra rd 320 p (mj_u2 (mj_u2 f 1714 22 (nI T)) 1714 23 (nI p)) := by
    refine ⟨⟨mt_o hT1 (fun _ => rfl) (fun _ => rfl), ?_⟩, ?_, me_f m1 F0 (fun i q => q) (by decide) (fun a q => by unfold R_n at q; omega), ?_, hs.2.1, h8, hs.2.2.1, z_u2s⟩
    · exact (z_u2m (by decide)).trans z_u2s
    · exact w3
    · exact ⟨m4.1, m4.2.1, m4.2.2⟩
  refine hf _ 320 hfm (by omega) (by omega) d K hd ⟨fun he f' z1 z2 z3 => ?_, fun he f' k m0 pp z1 z2 z3 z4 z5 z6 z7 z8' z8 z9 => ?_⟩
  · have F1 : mw (fun k => 320 ≤ k) (fun j => j = 21 ∨ j = 22 ∨ j = 23 ∨ j = 70) R_n f f' := mw_t F0 (mw_m z1 (fun _ q => q) (fun j q => by unfold zS at q; omega) (fun _ q => q))
    have z2' := z2
    obtain ⟨-, -, -, g4, -, g6, g7, g8⟩ := z2'
    obtain ⟨a1, a2⟩ := MM_v h h10 F1 g4 g6 g7
    exact fin5 hM hW z2 (by omega) hq h124 (h1 he f' a1 a2 z3 g8)
  · have F1 : mw (fun k => 320 ≤ k) (fun j => j = 21 ∨ j = 22 ∨ j = 23 ∨ j = 70) R_n f f' := mw_t F0 (mw_m z1 (fun _ q => q) (fun j q => by unfold zS at q; omega) (fun _ q => q))
    obtain ⟨a1, a2⟩ := MM_v h h10 F1 z8 z9 rfl
    exact bad5 hM z9 he (h2 he k f' _ a1 a2 z2 z3 ⟨m0, z4, z5⟩ z6 ⟨pp, z7, z8'⟩)
end ZC
