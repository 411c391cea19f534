/-! TAGS by both sides: variables set, blanks trimmed -/
section ZG
variable {u : wo} {Gm : mj_G} {f f' : mm_F} {ρ ρ' : Nat → Nat} {G G1 G' : mj_G} {cur r p q m d t T l s k c : Nat} {e : Int32} {v : rv} {b1 : Int32} {L1 : List (Nat × Nat)} {N : Nat} {B : Nat → Nat} {M : Nat} {S : Nat → Nat} {lc : Nat} {ln : Nat → Nat} {op : Nat} {ch : List en} {V : Nat → Nat → Option rv} {o : ost} {ra rd : Nat → Int32} {sp : Nat → Bool} {st hts : Nat} {FG : Nat → kfr} {V' : Nat → Nat → Option rv} {o' : ost} {ra' rd' : Nat → Int32} {sp' : Nat → Bool} {st' hts' : Nat} {FG' : Nat → kfr} {fr b cn : Nat → Nat} {top la : Nat} {bg : Nat → Nat} {vc li LC : Nat} {ci : Int32} {CA tr : Nat}
theorem CC_cF (h : CC u ρ G N B M S lc ln op ch V o ra rd sp st hts FG fr b cn top la) : cF G N fr b cn top := ⟨h.2.2.1.1, h.2.2.1.2.1, h.2.2.2.2.1, h.2.2.1.2.2.2.2.2.1, h.2.2.2.2.2.1⟩
/-- a variable set -/
theorem CC_set {cn' : Nat → Nat} (hC : CC u ρ G N B M S lc ln op ch V o ra rd sp st hts FG fr b cn top la) (hh' : hh ρ' (u_D u) (u_I u) G') (he : ro_e ρ ρ' G) (F : fw ρ (sW fr N) G G') (hce : ce ρ' (u_D u) G' N B V' fr b cn') (hcu : cu G' N b cn') (hcF : cF G' N fr b cn' top) (hi : ∀ j, j ≠ 6 → mj_i G' (707 + 4 * fr (N - 1)) j = mj_i G (707 + 4 * fr (N - 1)) j) (hr : ∀ j, mj_r G' (707 + 4 * fr (N - 1)) j = mj_r G (707 + 4 * fr (N - 1)) j)
    (hx : ∀ x, 1768 ≤ x → x < mj_n G → ¬ (67 ≤ ρ x ∧ ρ x ≤ 706) → (∀ j, mj_r G' x j = mj_r G x j) ∧ ∀ j, mj_i G' x j = mj_i G x j) : CC u ρ' G' N B M S lc ln op ch V' o ra rd sp st hts FG fr b cn' top la ∧ fw ρ bW G G' ∧ FF ρ top (fr (N - 1)) G G' := by
  obtain ⟨h1, h2, h3, h4, h5, h5', hu, h8, h9⟩ := hC
  have htop := h3.2.1
  have hG := hh_n h1
  have hf : fr (N - 1) ≤ top := h3.2.2.2.2.1 _ (by have := h3.1; omega)
  have nim : ∀ o, sW fr N o → ¬ im_o o := fun o q => sW_im (by omega) q
  have hF : FF ρ top (fr (N - 1)) G G' := fun a ha h7 h8 => by
    by_cases hd : 1768 ≤ a
    · have := hx a hd ha (by rw [ow_d hd] at h7; omega)
      exact ⟨fun j _ => this.1 j, fun j _ _ => this.2 j⟩
    · by_cases hq : a = 707 + 4 * fr (N - 1)
      · rw [hq]
        exact ⟨fun j _ => hr j, fun j hj _ => hi j (fun q => hj ⟨rfl, q⟩)⟩
      · have := (F.2.2.2 a ha).2.2 (by rw [ow_s (by omega)] at h7 ⊢; unfold sW; omega)
        exact ⟨fun j _ => this.1 j, fun j _ _ => this.2 j⟩
  obtain ⟨k1, k2, k3, k4, k5⟩ := hcF
  refine ⟨⟨hh', wC_f h1 h2 F he nim, sC_F hF h1 h3, ⟨hce, hcu, fun k hk => ?_⟩, k3, k5, uC_f h1 hu F (fun o q => by unfold sW at q; omega), (oD_f h1 h8 F (fun o q => by unfold sW at q; unfold oW; omega)).1, fgC_f h1 h9 F he (fun o q => ⟨nim o q, by unfold sW at q; unfold gW; omega⟩)⟩, fw_m F (fun o q => ⟨by unfold sW at q; omega, nim o q⟩), hF⟩
  obtain ⟨g1, -⟩ := h3.2.2.2.2.2.2.2.2.2.2.2.2.2 k hk
  have hfk := h3.2.2.2.2.1 _ g1
  have e : ∀ j, j ≠ 6 → mj_i G' (707 + 4 * fr (S k)) j = mj_i G (707 + 4 * fr (S k)) j := fun j hj => by
    by_cases hq : fr (S k) = fr (N - 1)
    · rw [hq]
      exact hi j hj
    · exact ce_i h1 F (by omega) (by unfold sW; omega)
  obtain ⟨i1, i2, i3⟩ := h4.2.2 k hk
  exact ⟨(e 19 (by decide)).trans i1, (e 20 (by decide)).trans i2, (e 21 (by decide)).trans i3⟩
theorem MM_set {P : Nat → Prop} {fe : Int32} {vc' : Nat} (h : MM u f N B M S lc ln op ch V o ra rd sp st hts FG e bg vc li LC ci CA tr fe) (h10 : ∀ x, x ∈ ch → en_n x ≤ 10) (F : mw (fun j => j < 320) (fun j => j = 30) R_v f f') (hme : me f' (u_D u) N B V') (hmu : mu f' vc') (h1 : vc ≤ vc') (h2 : vc' ≤ vc + 1) (h3 : ∀ i, i < vc → f' 1735 i = f 1735 i) (h4 : vc' = vc + 1 → f' 1735 vc = nI (N - 1)) : MM u f' N B M S lc ln op ch V' o ra rd sp st hts FG e bg vc' li LC ci CA tr fe ∧ mF tr LC CA f f' := by
  obtain ⟨w1, w2, ⟨m1, m2, m3, m4, m5, m6⟩, w4, w5, w6, w7, w8, w9, w0⟩ := h
  have hN400 : N ≤ 400 := m1.1
  have hN1 : 1 ≤ N := w2.1
  have s : ∀ j, ¬ j = 30 → f' 1714 j = f 1714 j := fun j hj => F.2.1 j hj
  have nv : ∀ a, R_v a → a = 1735 ∨ a = 1736 := fun a q => q
  refine ⟨⟨wM_f w1 F (by decide) (fun a q => by have := nv a q; omega), sM_f w2 h10 F (fun j q => by omega) (fun a q => by have := nv a q; omega), ⟨hme, hmu, ⟨(s 26 (by decide)).trans m3.1, fun s hs => ?_⟩, ⟨m4.1, (s 44 (by decide)).trans m4.2.1, fun k hk => ?_⟩, m5, fun k hk => (F.1 1748 k (by decide) (by decide) (by unfold R_v; decide)).trans (m6 k hk)⟩, (s 68 (by decide)).trans w4, w5, w6, (s 69 (by decide)).trans w7, (s 70 (by decide)).trans w8, oM_f w9 F ⟨by decide, by decide⟩ ⟨by unfold R_v; decide, by unfold R_v; decide⟩, fgM_f w0 F (fun a q => by have := nv a q; omega)⟩, mF_w F (fun j q => by unfold rS; omega) (fun a q => by have := nv a q; unfold rR; omega)⟩
  · obtain ⟨g1, g2, g3⟩ := m3.2 s hs
    refine ⟨(F.1 1734 s (by decide) (by decide) (by unfold R_v; decide)).trans g1, by omega, fun k hk r hr e => ?_⟩
    by_cases hkv : k < vc
    · rw [h3 k hkv] at e
      exact g3 k hkv r hr e
    · have hk2 : k = vc := by omega
      rw [hk2, h4 (by omega), z_eq (by omega) (by omega)] at e
      omega
  · obtain ⟨g1, g2, g3, g4⟩ := m4.2.2 k hk
    have r : ∀ a, a = 1745 ∨ a = 1746 ∨ a = 1747 → f' a k = f a k := fun a ha => F.1 a k (by omega) (by omega) (fun q => by have := nv a q; omega)
    exact ⟨g1, (r _ (by omega)).trans g2, (r _ (by omega)).trans g3, (r _ (by omega)).trans g4⟩
theorem e_st_p (hV : pV u N V) (hN : 1 ≤ N) (hl : l < 26) (hv : rv_in (u_D u) v) : pV u N (e_st V (N - 1) l v) := fun s l' w q => by
  by_cases h : s = N - 1 ∧ l' = l
  · obtain ⟨rfl, rfl⟩ := h
    rw [e_st_s] at q
    rw [← Option.some.inj q]
    exact ⟨by omega, hl, hv⟩
  · rw [e_st_n h] at q
    exact hV s l' w q
/-- a variable set -/
theorem md_37 (hM : mm_S Gm) (hu : uP u) (hT : T < 10) (hx : pX u N B M S lc ln op ch) (hV : pV u N V) (hA : u_A u r) (ht : tb_t k (u_A u) (u_G u) (nI T) b1 r (u_w u T) p m L1) (hc : u_w u T (p + 1) = 37) (hst : st ≤ u_bu u) : mdJ u Gm T 37 N B M S lc ln op ch V o ra rd sp st hts FG r p m := by
  have hW := (hu.2.2.2 T hT).1
  have hn := hW.1
  have hN := hx.1
  obtain ⟨x1, s, l, es, hE, h1, h2, h3, -, hta, hg, -⟩ := tg_ex ht hW (by omega)
  rw [if_neg (by omega)] at es
  subst es
  obtain ⟨hgL, hg4⟩ := hg (Or.inr hc)
  have hnd := tg_nd hA ht hc
  have hmm : m = x1 + 1 := by
    rcases hta with ⟨-, g, -⟩ | ⟨g, -⟩ | ⟨g, -⟩
    · exact g
    · unfold tx_B at g
      omega
    · omega
  have hl26 : u_w u T (p + 2) - 97 < 26 ∧ 97 ≤ u_w u T (p + 2) ∧ u_w u T (p + 2) ≤ 122 := by
    unfold tx_L at hgL
    omega
  obtain ⟨e1, v, ra1, rd1, f1, f2, f3, -⟩ := fn_all (t := T) (sl := 0) (dep := 0) hM hW hx.2.2.2.2.1 hu.1 (fun s l v q => (hV s l v q).2.2) (Nat.le_refl N) hE (by omega) (by omega) (by omega) ra rd
  by_cases he : e1 = nI 0
  · subst he
    have hvin := f1 rfl
    refine ⟨nI 0, e_st V (N - 1) (u_w u T (p + 2) - 97) v, o, ra1, rd1, sp, st, hts, FG, ⟨oJ_r, e_st_p hV hN hl26.1 hvin, fun s l hs => e_st_n (fun q => by omega), Nat.le_refl _, hst⟩, mdC_me hnd (by omega) f2 (by omega) ?_, ?_⟩
    · intro fr b cn top la ρ G hC hcv hnx k1 k2 k3 Q hQ h80 hb1 hb2 d dm K t hd hdm htt c1 c2
      obtain ⟨dm, rfl⟩ : ∃ x, dm = x + 2 := ⟨dm - 2, by omega⟩
      have hop := hx.2.1
      refine ⟨fun q => absurd q (by decide), fun q => absurd q (by decide), fun q => absurd q (by decide), fun q => absurd q (by decide), fun _ => ?_⟩
      rw [k3, hg4]
      refine c_set (fun s l v q => (hV s l v q).2.1) hC.1 hC.2.2.2.1.1 hC.2.2.2.1.2.1 (CC_cF hC) hl26.1 hvin hcv (by decide) (by omega) (fun ρ' G' cn' a1 a2 a3 a4 a5 a6 a7 a8 a9 a10 a11 => z_bt rfl ?_)
      obtain ⟨d1, d2, d3⟩ := CC_set hC a1 a2 a3 a4 a5 a6 a9 a10 a11
      have hG := hh_n hC.1
      have htop := hC.2.2.1.2.1
      have e10 : mj_r G' (707 + 4 * top) 2 = mj_r (u_G u) r 10 := by
        by_cases hq : top = fr (N - 1)
        · rw [hq, a10, ← hq]
          exact hnx
        · rw [((a3.2.2.2 (707 + 4 * top) (by omega)).2.2 (by rw [ow_s (by omega)]; unfold sW; omega)).1 2]
          exact hnx
      refine ⟨fun _ => c1 rfl ρ' G' cn' (t + 1) ⟨d1, a2, d2, d3, e10, a7, by omega, by omega⟩, fun q => absurd rfl q⟩
    · intro f bg vc li LC ci CA tr hm Q hQ hQn hb1 hb2 D KK hD hk
      obtain ⟨D, rfl⟩ : ∃ x, D = x + 6 := ⟨D - 6, by omega⟩
      have hop := hx.2.1
      refine ⟨fun q => absurd q (by decide), fun q => absurd q (by decide), fun _ => w_m_rendersPlain hM (z_bf (by decide) (z_bf (by decide) ?_))⟩
      rw [z_add]
      refine p_f2 (d := D + 3) hM hT (pX_10 hx) hm f3 (by omega) (by omega) (by omega) (by omega) (fun _ f1 a1 a2 a3 _ => ?_) (fun q => absurd rfl q)
      refine z_bt a1.2.2.2.2.2.2.2.1 (z_bt rfl ?_)
      rw [z_add]
      refine c_letter hM (MM_T a1 hT) (by omega) ?_
      rw [tx_nxi (by omega), z_sub hl26.2.1]
      have h27 : f1 1714 27 = nI (N - 1) := by
        rw [a1.2.1.2.1]
        unfold sh
        rw [if_neg (by omega)]
      refine p_sets hM a1.2.2.1.1 a1.2.2.1.2.1 hN h27 hl26.1 (Nat.le_refl _) (by decide) a3 hvin (by omega) (fun f2 vc' F2 i1 i2 i3 i4 i5 i6 => ?_)
      obtain ⟨b1, b2⟩ := MM_set (P := no_R) a1 (pX_10 hx) F2 i1 i2 i3 i4 i5 i6
      exact hk f2 vc' _ b1 (mF_t a2 b2) (by omega)
  · refine ⟨e1, V, o, ra1, rd1, sp, st, hts, FG, pJ_r hV hst, mdC_mx hnd (by omega) he f2 (by omega), ?_⟩
    intro f bg vc li LC ci CA tr hm Q hQ hQn hb1 hb2 D KK hD hk
    obtain ⟨D, rfl⟩ : ∃ x, D = x + 3 := ⟨D - 3, by omega⟩
    refine ⟨fun q => absurd q (by decide), fun q => absurd q (by decide), fun _ => w_m_rendersPlain hM (z_bf (by decide) (z_bf (by decide) ?_))⟩
    rw [z_add]
    refine p_f2 (d := D) hM hT (pX_10 hx) hm f3 (by omega) (by omega) (by omega) (by omega) (fun q => absurd q he) (fun _ k f1 fe a1 a2 _ _ _ _ _ => ?_)
    have h70 : ¬ f1 1714 70 = nI 0 := by rw [a1.2.2.2.2.2.2.2.1]; exact he
    exact z_bf h70 (z_bf h70 (hk f1 vc _ a1 a2 (by omega)))
/-- open fragments spoilt -/
theorem CC_sp (hC : CC u ρ G N B M S lc ln op ch V o ra rd sp st hts FG fr b cn top la) (hh' : hh ρ (u_D u) (u_I u) G') (F : fw ρ fF G G') (hn : nk G G') (h21 : ∀ k, k < M → mj_i G' (707 + 4 * fr (S k)) 21 = nI 0) : CC u ρ G' N B M S lc ln op ch V o ra rd (fun _ => true) st hts FG fr b cn top la ∧ fw ρ bW G G' ∧ FF ρ top cur G G' := by
  obtain ⟨h1, h2, h3, h4, h5, h5', hu, h8, h9⟩ := hC
  have htop := h3.2.1
  have hG := hh_n h1
  have nim : ∀ o, fF o → ¬ im_o o := fun o q => fF_im q
  have hI : ∀ a j, ¬ (707 ≤ a ∧ a ≤ 1506 ∧ j = 21) → mj_i G' a j = mj_i G a j := fun a j h => (hn.2.2 a j).resolve_left h
  have hF : ∀ cur, FF ρ top cur G G' := fun cur a ha _ _ => ⟨fun j _ => hn.2.1 a j, fun j _ hj => hI a j (fun q => hj (by omega))⟩
  refine ⟨⟨hh', wC_f h1 h2 F ro_r nim, sC_F (hF 0) h1 h3, ⟨?_, cu_w h1 h4.1 h4.2.1 F (fun o q => by unfold fF at q; omega), fun k hk => ?_⟩, (hI _ _ (by decide)).trans h5, (hI _ _ (by decide)).trans h5', uC_f h1 hu F (fun o q => by unfold fF at q; omega), (oD_f h1 h8 F (fun o q => by unfold fF at q; unfold oW; omega)).1, fgC_f h1 h9 F ro_r (fun o q => ⟨nim o q, by unfold fF at q; unfold gW; omega⟩)⟩, fw_m F (fun o q => ⟨by unfold fF at q; omega, nim o q⟩), hF cur⟩
  · have hE := h4.1
    refine ⟨hE.1, fun s hs => ?_⟩
    obtain ⟨g1, g2, g3, g4, g5, g6, g7, g8⟩ := hE.2 s hs
    have e : ∀ j, j ≠ 21 → mj_i G' (707 + 4 * fr s) j = mj_i G (707 + 4 * fr s) j := fun j hj => hI _ _ (by omega)
    have ev : ∀ p j, p < 320 → mj_i G' (67 + 2 * p) j = mj_i G (67 + 2 * p) j := fun p j hp => hI _ _ (by omega)
    refine ⟨g1, g2, g3, (e 4 (by decide)).trans g4, (e 5 (by decide)).trans g5, (e 6 (by decide)).trans g6, fun p p1 p2 => ?_, fun l v q => ?_⟩
    · rcases g7 p p1 p2 with g | ⟨l, v, i1, i2, i3, i4, i5⟩
      · exact Or.inl ((ev p 6 (by omega)).trans g)
      · exact Or.inr ⟨l, v, i1, (ev p 6 (by omega)).trans i2, i3, ce_cv h1 F ro_r (fun o q => ⟨nim o q, by unfold fF at q; omega⟩) (by omega) i5.1 i4, i5⟩
    · obtain ⟨p, p1, p2, p3⟩ := g8 l v q
      exact ⟨p, p1, p2, (ev p 6 (by omega)).trans p3⟩
  · obtain ⟨i1, i2, -⟩ := h4.2.2 k hk
    have hfk := h3.2.2.2.2.1 _ ((h3.2.2.2.2.2.2.2.2.2.2.2.2.2 k hk).1)
    exact ⟨(hI _ _ (by omega)).trans i1, (hI _ _ (by omega)).trans i2, h21 k hk⟩
theorem MM_sp {P S1 : Nat → Prop} {fe : Int32} (h : MM u f N B M S lc ln op ch V o ra rd sp st hts FG e bg vc li LC ci CA tr fe) (h10 : ∀ x, x ∈ ch → en_n x ≤ 10) (F : mw no_R oS R_s f f') (ho : oM f' o') (h48 : ∀ k, k < M → f' 1748 k = nI 1) (h70 : f' 1714 70 = f 1714 70) : MM u f' N B M S lc ln op ch V o' ra rd (fun _ => true) st hts FG e bg vc li LC ci CA tr fe ∧ mF tr LC CA f f' := by
  obtain ⟨w1, w2, ⟨m1, m2, m3, m4, m5, m6⟩, w4, w5, w6, w7, w8, w9, w0⟩ := h
  have nr : ∀ a, no_R a → False := fun a q => q
  have nv : ∀ a, R_s a → a = 1748 := fun a q => q
  have r : ∀ a i, a = 1745 ∨ a = 1746 ∨ a = 1747 → f' a i = f a i := fun a i ha => F.1 a i (by omega) (by omega) (fun q => by have := nv a q; omega)
  refine ⟨⟨wM_f w1 F (fun q => by unfold oS at q; omega) (fun a q => by have := nv a q; omega), sM_f w2 h10 F (fun j q => by unfold oS at q; omega) (fun a q => by have := nv a q; omega), ⟨me_f m1 F (fun i q => absurd q (nr i)) (fun q => by unfold oS at q; omega) (fun a q => by have := nv a q; omega), mu_f m2 F (fun q => by unfold oS at q; omega) (fun a q => by have := nv a q; omega), mb_f m3 F (fun q => by unfold oS at q; omega) (fun a q => by have := nv a q; omega), ⟨m4.1, (F.2.1 44 (fun q => by unfold oS at q; omega)).trans m4.2.1, fun k hk => ?_⟩, m5, h48⟩, (F.2.1 68 (fun q => by unfold oS at q; omega)).trans w4, w5, w6, (F.2.1 69 (fun q => by unfold oS at q; omega)).trans w7, h70.trans w8, ho, fgM_f w0 F (fun a q => by have := nv a q; omega)⟩, mF_w F (fun j q => by unfold oS at q; unfold rS; omega) (fun a q => by have := nv a q; unfold rR; omega)⟩
  obtain ⟨g1, g2, g3, g4⟩ := m4.2.2 k hk
  exact ⟨g1, (r _ _ (by omega)).trans g2, (r _ _ (by omega)).trans g3, (r _ _ (by omega)).trans g4⟩
/-- blanks trimmed -/
theorem md_45 (hM : mm_S Gm) (hu : uP u) (hT : T < 10) (hx : pX u N B M S lc ln op ch) (hV : pV u N V) (hA : u_A u r) (ht : tb_t k (u_A u) (u_G u) (nI T) b1 r (u_w u T) p m L1) (hc : u_w u T (p + 1) = 45) (hst : st ≤ u_bu u) : mdJ u Gm T 45 N B M S lc ln op ch V o ra rd sp st hts FG r p m := by
  have hnd := tg_nd hA ht hc
  have hop := hx.2.1
  have hpm : p + 3 ≤ m := by
    obtain ⟨-, -, -, -, -, -, -, e, h8, -, -, h11⟩ := ht
    rcases h11 with ⟨-, rfl, -⟩ | ⟨g, -⟩ | ⟨g, -⟩
    · omega
    · unfold tx_B at g
      omega
    · omega
  refine ⟨nI 0, V, o_tm o, ra, rd, fun _ => true, st, hts, FG, pJ_a hV hst o_le_m, ?_, ?_⟩
  · intro fr b cn top la ρ G hC hnx k1 k2 k3 Q hQ h80 hb1 hb2 d dm K t hd hdm htt c1 c2
    obtain ⟨dm, rfl⟩ : ∃ x, dm = x + 2 := ⟨dm - 2, by omega⟩
    refine ⟨fun q => absurd q (by decide), fun q => absurd q (by decide), fun q => absurd q (by decide), fun q => absurd q (by decide), fun q => absurd q (by decide), fun q => absurd q (by decide), fun q => absurd q (by decide), fun q => absurd q (by decide), fun _ => ?_, fun q => absurd q (by decide)⟩
    refine c_spoil hC.1 (CC_ck hC) (fun s hs => by have := hC.2.2.1.2.2.2.2.1 s hs; have := hC.2.2.1.2.1; omega) (fun G1 a1 a2 a3 a4 => ?_)
    obtain ⟨d1, d2, d3⟩ := CC_sp (cur := fr (N - 1)) hC a1 a2 a3 a4
    refine c_trim d1.1 d1.2.2.2.2.2.2.2.1.1 (by omega) (fun G2 i1 i2 i3 i4 => ?_)
    have hnx1 : mj_r G1 (707 + 4 * top) 2 = mj_r (u_G u) r 10 := (a3.2.1 _ _).trans hnx
    refine kk_o (q := m) (TT := t + 100 * (2000 - st) + 100 + (m - p)) d1 hnx1 o_le_m (by omega) (by omega) i1 ro_r i2 i3 i4 (fun _ ρ' G' cn' t' hN => ?_) (fun q => absurd rfl q)
    exact c1 rfl ρ' G' cn' t' (rN_l ro_r d2 d3 (Nat.le_refl _) hN)
  · intro f bg vc li LC ci CA tr hm Q hQ hQn hb1 hb2 D KK hD hk
    obtain ⟨D, rfl⟩ : ∃ x, D = x + 2 := ⟨D - 2, by omega⟩
    refine ⟨fun q => absurd q (by decide), fun q => absurd q (by decide), fun _ => w_m_rendersPlain hM (z_bt rfl ?_)⟩
    refine p_trims hM hm.2.2.1.2.2.2.1.2.1 hm.2.2.1.2.2.2.1.1 (hm.2.2.2.2.2.2.2.2.1) (fun f1 F1 o1 s1 e1 => ?_)
    obtain ⟨b1, b2⟩ := MM_sp (P := no_R) (S1 := no_R) hm (pX_10 hx) F1 o1 s1 e1
    exact hk f1 vc _ b1 b2 (by omega)
end ZG
