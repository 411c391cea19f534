/-! CHOICES, by both sides -/
/-- a body entered in a frame without a scope -/
def enC (u : wo) (N : Nat) (B : Nat → Nat) (M : Nat) (S : Nat → Nat) (lc : Nat) (ln : Nat → Nat) (op : Nat) (ch : List en) (V : Nat → Nat → Option rv) (o : ost) (ra rd : Nat → Int32) (sp : Nat → Bool) (st hts : Nat) (FG : Nat → kfr) (r p q : Nat) (e : Int32) (V' : Nat → Nat → Option rv) (o' : ost) (ra' rd' : Nat → Int32) (sp' : Nat → Bool) (st' hts' : Nat) (FG' : Nat → kfr) : Prop := ∀ (fr b cn : Nat → Nat) (top la : Nat) (ρ : Nat → Nat) (G : mj_G), CC u ρ G N B M S lc ln op ch V o ra rd sp st hts FG fr b cn top la → ∀ nx q' TT, mj_r G (707 + 4 * top) 2 = nx → q ≤ 80 → 7 * top + 7 + (q - p) ≤ 84 * op + 80 → op ≤ 12 → 5 * (b (N - 1) + cn (N - 1)) ≤ 95 * op + p → q ≤ q' → ∀ d dm K t KK, (∀ G', lp (d + 1) K (t + 1) G' → KK (nI 0) G') → 299 ≤ d → t + 2 + 100 * (2000 - st) + (q - p) ≤ TT → TT ≤ 900000 → (e = nI 0 → ∀ ρ' G' cn' t', rN u ρ G N B M S lc ln op ch V' o' ra' rd' sp' st' hts' FG' fr b cn top la nx q' TT ρ' G' cn' t' → lp (d + 1) K t' G') → (¬ e = nI 0 → ∀ o1 ρ' G' cn' top' t', rX u ρ G o e N B M S lc ln op ch V' o1 ra' rd' sp' st' hts' FG' fr b cn top la TT ρ' G' cn' top' t' → lf (d + 1) K t' e G') → Rn_enter (dm + 1) r G KK
/-- a body by both sides -/
def bdJ (u : wo) (Gm : mj_G) (T : Nat) (N : Nat) (B : Nat → Nat) (M : Nat) (S : Nat → Nat) (lc : Nat) (ln : Nat → Nat) (op : Nat) (ch : List en) (V : Nat → Nat → Option rv) (o : ost) (ra rd : Nat → Int32) (sp : Nat → Bool) (st hts : Nat) (FG : Nat → kfr) (r p q : Nat) : Prop := ∃ (e : Int32) (V' : Nat → Nat → Option rv) (o' : ost) (ra' rd' : Nat → Int32) (sp' : Nat → Bool) (st' hts' : Nat) (FG' : Nat → kfr), pJ u N V o st e V' o' st' M sp sp' ∧ sgC u N B M S lc ln op ch V o ra rd sp st hts FG r p 0 q e V' o' ra' rd' sp' st' hts' FG' ∧ sgM u Gm T N B M S lc ln op ch V o ra rd sp st hts FG p q e V' o' ra' rd' sp' st' hts' FG'
section ZI
variable {u : wo} {Gm : mj_G} {f f' : mm_F} {ρ ρ' : Nat → Nat} {G G1 G' : mj_G} {cur r p q m d t T l s k c : Nat} {e : Int32} {v : rv} {b1 : Int32} {L1 : List (Nat × Nat)} {N : Nat} {B : Nat → Nat} {M : Nat} {S : Nat → Nat} {lc : Nat} {ln : Nat → Nat} {op : Nat} {ch : List en} {V : Nat → Nat → Option rv} {o : ost} {ra rd : Nat → Int32} {sp : Nat → Bool} {st hts : Nat} {FG : Nat → kfr} {V' : Nat → Nat → Option rv} {o' : ost} {ra' rd' : Nat → Int32} {sp' : Nat → Bool} {st' hts' : Nat} {FG' : Nat → kfr} {fr b cn : Nat → Nat} {top la : Nat} {bg : Nat → Nat} {vc li LC : Nat} {ci : Int32} {CA tr : Nat}
theorem enC_0 : enC u N B M S lc ln op ch V o ra rd sp st hts FG 0 p p (nI 0) V o ra rd sp st hts FG := by
  intro fr b cn top la ρ G hC nx q' TT hnx h80 hb1 hop hb2 hq d dm K t KK hKK hd hT hT9 c1 c2
  refine w_Rn_enter hC.1.1 (z_bt rfl (hKK _ ?_))
  exact c1 rfl ρ G cn (t + 1) ⟨hC, ro_r, fw_r, FF_r, hnx, fun _ _ => rfl, by omega, by omega⟩
theorem enC_s (hr : r ≠ 0) (h : sgC u N B M S lc ln op ch V o ra rd sp st hts FG r p 0 q e V' o' ra' rd' sp' st' hts' FG') : enC u N B M S lc ln op ch V o ra rd sp st hts FG r p q e V' o' ra' rd' sp' st' hts' FG' := by
  intro fr b cn top la ρ G hC nx q' TT hnx h80 hb1 hop hb2 hq d dm K t KK hKK hd hT hT9 c1 c2
  exact en_C hKK hr h hC hnx h80 hb1 hop hb2 hd hT hT9 hq c1 c2
theorem tb_0 {A : Nat → Prop} {G : mj_G} {hm b : Int32} {w : Nat → Nat} {L : List (Nat × Nat)} (h : tb_B k A G hm b 0 w p q L) : p = q := by
  cases k with
  | zero => exact h.elim
  | succ k =>
    rcases h with ⟨-, h, -⟩ | ⟨-, h, -⟩ | ⟨-, h, -⟩
    · exact h
    · exact absurd rfl h
    · exact absurd rfl h
theorem bd_or {L : List (Nat × Nat)} {hm : Int32} {w : Nat → Nat} {A : Nat → Prop} {G : mj_G} {b : Int32} (hB : tb_B k A G hm b r w p q L) (hV : pV u N V) (hst : st ≤ u_bu u) (ih : r ≠ 0 → bdJ u Gm T N B M S lc ln op ch V o ra rd sp st hts FG r p q) : ∃ (e : Int32) (V' : Nat → Nat → Option rv) (o' : ost) (ra' rd' : Nat → Int32) (sp' : Nat → Bool) (st' hts' : Nat) (FG' : Nat → kfr), pJ u N V o st e V' o' st' M sp sp' ∧ enC u N B M S lc ln op ch V o ra rd sp st hts FG r p q e V' o' ra' rd' sp' st' hts' FG' ∧ sgM u Gm T N B M S lc ln op ch V o ra rd sp st hts FG p q e V' o' ra' rd' sp' st' hts' FG' := by
  by_cases hr : r = 0
  · subst hr
    have hpq := tb_0 hB
    subst hpq
    exact ⟨nI 0, V, o, ra, rd, sp, st, hts, FG, pJ_r hV hst, enC_0, sgM_0⟩
  · obtain ⟨e, V', o', ra', rd', sp', st', hts', FG', j1, j2, j3⟩ := ih hr
    exact ⟨e, V', o', ra', rd', sp', st', hts', FG', j1, enC_s hr j2, j3⟩
/-- a body by the model -/
theorem bd_M {K : mm_F → Prop} (hM : mm_S Gm) (h : sgM u Gm T N B M S lc ln op ch V o ra rd sp st hts FG p q e V' o' ra' rd' sp' st' hts' FG') (hm : MM u f N B M S lc ln op ch V o ra rd sp st hts FG (nI 0) bg vc li LC ci CA tr (nI 320)) (h80 : q ≤ 80) (hq : q ≤ u_n u T) (hb1 : 9 * tr + (q - p) ≤ 72 * op + 80 ∧ 7 * N + (q - p) ≤ 84 * op + 87) (hb2 : 5 * vc ≤ 95 * op + p) (hd : (q - p) + 90 * (12 - op) + 321 ≤ d) (hK : ∀ f' vc', MM u f' N B M S lc ln op ch V' o' ra' rd' sp' st' hts' FG' e bg vc' li LC ci CA tr (nI 320) → mF tr LC CA f f' → 5 * vc' ≤ 95 * op + q → K f') : m_renders Gm d (nI T) (nI p) (nI q) f K := by
  obtain ⟨d, rfl⟩ : ∃ x, d = x + 1 := ⟨d - 1, by omega⟩
  refine w_m_renders hM ?_
  exact h f bg vc li LC ci CA tr hm q (Nat.le_refl _) hq hb1 hb2 d K (by omega) (fun f' vc' a1 a2 a3 => ⟨fun _ => r3_e hM h80 (hK f' vc' a1 a2 a3), fun _ => hK f' vc' a1 a2 a3⟩)
/-- the second body by the model, if there is one -/
def sbM (u : wo) (Gm : mj_G) (T : Nat) (x5 x6 : Int32) (N : Nat) (B : Nat → Nat) (M : Nat) (S : Nat → Nat) (lc : Nat) (ln : Nat → Nat) (op : Nat) (ch : List en) (V : Nat → Nat → Option rv) (o : ost) (ra rd : Nat → Int32) (sp : Nat → Bool) (st hts : Nat) (FG : Nat → kfr) (p q : Nat) (e : Int32) (V' : Nat → Nat → Option rv) (o' : ost) (ra' rd' : Nat → Int32) (sp' : Nat → Bool) (st' hts' : Nat) (FG' : Nat → kfr) : Prop := ∀ (f : mm_F) (bg : Nat → Nat) (vc li LC : Nat) (ci : Int32) (CA tr : Nat), MM u f N B M S lc ln op ch V o ra rd sp st hts FG (nI 0) bg vc li LC ci CA tr (nI 320) → (9 * tr + (q - p) ≤ 72 * op + 80 ∧ 7 * N + (q - p) ≤ 84 * op + 87) → 5 * vc ≤ 95 * op + p → ∀ d (K : mm_F → Prop), (q - p) + 90 * (12 - op) + 321 ≤ d → (∀ f' vc', MM u f' N B M S lc ln op ch V' o' ra' rd' sp' st' hts' FG' e bg vc' li LC ci CA tr (nI 320) → mF tr LC CA f f' → 5 * vc' ≤ 95 * op + q → K f') → mm_br (x5 = Int32.ofInt (-1)) (K f) (m_renders Gm d (nI T) (x5 + nI 3) x6 f (fun f26 => K f26))
/-- what of a tag's bodies is taken for granted, that are not tried -/
def ihB (u : wo) (Gm : mj_G) (T k : Nat) (b1 : Int32) (L1 : List (Nat × Nat)) (N : Nat) (B : Nat → Nat) (M : Nat) (S : Nat → Nat) (lc : Nat) (ln : Nat → Nat) (op : Nat) (ch : List en) : Prop := ∀ (r' p' q' : Nat) (L' : List (Nat × Nat)), tb_B k (u_A u) (u_G u) (nI T) b1 r' (u_w u T) p' q' L' → q' ≤ u_n u T → (∀ y, y ∈ L' → y ∈ L1) → r' ≠ 0 → ∀ (V : Nat → Nat → Option rv) (o : ost) (ra rd : Nat → Int32) (sp : Nat → Bool) (st hts : Nat) (FG : Nat → kfr), pV u N V → st ≤ u_bu u → bdJ u Gm T N B M S lc ln op ch V o ra rd sp st hts FG r' p' q'
/-- the bodies of a tag that may turn -/
theorem tg_two {x : Nat} (hM : mm_S Gm) (hW : tx_W (u_w u T) (u_n u T)) (t5 : u_w u T p = 123) (h8 : p + 2 ≤ x) (h9 : tb_h (u_A u) (u_G u) r b1 (u_w u T) p x) (h10 : u_w u T x = 125) (h11 : tb_a k (u_A u) (u_G u) (nI T) b1 r (u_w u T) p x m L1) (hc : u_w u T (p + 1) = c) (hcc : c = 63 ∨ c = 42 ∨ c = 43) :
    ∃ (q1 : Nat) (x5 x6 : Int32) (La : List (Nat × Nat)), tb_B k (u_A u) (u_G u) (nI T) b1 (mj_r (u_G u) r 8) (u_w u T) (x + 1) q1 La ∧ (∀ y, y ∈ La → y ∈ L1) ∧ x + 1 ≤ q1 ∧ q1 + 3 ≤ m ∧ m ≤ u_n u T ∧ (c = 43 → q1 + 6 ≤ m) ∧
      (∀ (f : mm_F) d (K : mm_F → Prop), mt_T f T (u_w u T) (u_n u T) → 18 ≤ d → m_rendersBodies_39 Gm (d + 1) (nI c) (nI T) (nI p) (nI (x + 1)) x5 x6 (nI q1) f K → m_rendersBodies Gm (d + 1) (nI c) (nI T) (nI p) f K) ∧
      (∀ (N : Nat) (B : Nat → Nat) (M : Nat) (S : Nat → Nat) (lc : Nat) (ln : Nat → Nat) (op : Nat) (ch : List en), ihB u Gm T k b1 L1 N B M S lc ln op ch → ∀ (V : Nat → Nat → Option rv) (o : ost) (ra rd : Nat → Int32) (sp : Nat → Bool) (st hts : Nat) (FG : Nat → kfr), pV u N V → st ≤ u_bu u → ∃ (p' q' : Nat) (e : Int32) (V' : Nat → Nat → Option rv) (o' : ost) (ra' rd' : Nat → Int32) (sp' : Nat → Bool) (st' hts' : Nat) (FG' : Nat → kfr), pJ u N V o st e V' o' st' M sp sp' ∧ enC u N B M S lc ln op ch V o ra rd sp st hts FG (mj_r (u_G u) r 9) p' q' e V' o' ra' rd' sp' st' hts' FG' ∧ sbM u Gm T x5 x6 N B M S lc ln op ch V o ra rd sp st hts FG p' q' e V' o' ra' rd' sp' st' hts' FG' ∧ q1 ≤ p' ∧ p' ≤ q' ∧ q' + 3 ≤ m ∧ (p' = q' ∨ q1 + 3 ≤ p')) := by
  rcases h11 with ⟨g, -⟩ | ⟨-, g2, g3, q1, g4, g5, g6, g7, g8⟩ | ⟨-, q1, q2, La, Lb, a2, a3, a4, a5, a6, a7, a8, a9, a10, a11⟩
  · unfold tx_B at g
    omega
  · have hq := tx_in hW (k := q1 + 2) (by omega)
    rw [if_neg (by omega)] at g4
    refine ⟨q1, Int32.ofInt (-1), nI q1, L1, g4, fun y hy => hy, tb_le g4, by omega, by omega, fun q => by omega, fun f d K hmt hd hK => ?_, fun N B M S lc ln op ch _ V o ra rd sp st hts FG hV hst => ⟨q1, q1, nI 0, V, o, ra, rd, sp, st, hts, FG, pJ_r hV hst, ?_, ?_, Nat.le_refl _, Nat.le_refl _, by omega, Or.inl rfl⟩⟩
    · refine w_m_rendersBodies hM (c_tagEnd hM hmt (by omega) h9 t5 h10 (c_turnOf hM hmt (by omega) h9 t5 h10 g4 g5 (Or.inr g6) (fun q => absurd q (by omega)) (fun _ => c_closeOf hM hmt (by omega) h9 t5 h10 g4 g5 (Or.inr g6) (fun _ => z_bt rfl ?_) (fun q => absurd q (by omega)))))
      rw [z_add]
      exact hK
    · rw [g3]
      exact enC_0
    · intro f bg vc li LC ci CA tr hm hb1 hb2 d K hd hK
      exact z_bt rfl (hK f vc hm mF_r (by omega))
  · have hq := tx_in hW (k := q2 + 2) (by omega)
    have hn := hW.1
    have l1 := tb_le a2
    have l2 := tb_le a6
    refine ⟨q1, nI q1, nI q2, La, a2, fun y hy => by rw [a11]; exact List.mem_append.mpr (Or.inl hy), l1, by omega, by omega, fun q => by omega, fun f d K hmt hd hK => ?_, fun N B M S lc ln op ch ih V o ra rd sp st hts FG hV hst => ?_⟩
    · refine w_m_rendersBodies hM (c_tagEnd hM hmt (by omega) h9 t5 h10 (c_turnOf hM hmt (by omega) h9 t5 h10 a2 a3 (Or.inl a4) (fun _ => c_closeOf hM hmt (by omega) h9 t5 h10 a2 a3 (Or.inl a4) (fun q => absurd q (by omega)) (fun _ => ⟨q2, k, _, _, Lb, a6, a7, a8, z_bf (z_m1n (by omega)) ?_⟩)) (fun q => absurd q (by omega))))
      rw [z_add]
      exact hK
    · obtain ⟨e, V', o', ra', rd', sp', st', hts', FG', j1, j2, j3⟩ := bd_or (o := o) (ra := ra) (rd := rd) (sp := sp) (hts := hts) (FG := FG) a6 hV hst (fun hr => ih _ _ _ _ a6 (by omega) (fun y hy => by rw [a11]; exact List.mem_append.mpr (Or.inr hy)) hr V o ra rd sp st hts FG hV hst)
      refine ⟨q1 + 3, q2, e, V', o', ra', rd', sp', st', hts', FG', j1, j2, ?_, by omega, l2, by omega, Or.inr (Nat.le_refl _)⟩
      intro f bg vc li LC ci CA tr hm hb1 hb2 d K hd hK
      refine z_bf (z_m1n (by omega)) ?_
      rw [z_add]
      exact bd_M hM j3 hm (by omega) (by omega) hb1 hb2 hd hK
/-- a choice -/
theorem md_63 (hM : mm_S Gm) (hu : uP u) (hT : T < 10) (hx : pX u N B M S lc ln op ch) (hV : pV u N V) (hA : u_A u r) (ht : tb_t k (u_A u) (u_G u) (nI T) b1 r (u_w u T) p m L1) (hc : u_w u T (p + 1) = 63) (hst : st ≤ u_bu u) (ih : ihB u Gm T k b1 L1 N B M S lc ln op ch) : mdJ u Gm T 63 N B M S lc ln op ch V o ra rd sp st hts FG r p m := by
  have hW := (hu.2.2.2 T hT).1
  have hn := hW.1
  have hop := hx.2.1
  obtain ⟨x1, s, l, es, hE, h1, h2, ⟨h0, h3⟩, hH, hta, -, -⟩ := tg_ex ht hW (by omega)
  rw [if_pos (Or.inr hc)] at es
  subst es
  have hnd := tg_nd hA ht hc
  obtain ⟨q1, x5, x6, La, y1, y2, y3, y4, y5, -, y6, y7⟩ := tg_two hM hW h0 (by omega) hH h3 hta hc (by omega)
  obtain ⟨e1, v, ra1, rd1, f1, f2, f3, -⟩ := fn_all (t := T) (sl := 0) (dep := 0) hM hW hx.2.2.2.2.1 hu.1 (fun s l v q => (hV s l v q).2.2) (Nat.le_refl N) hE (by omega) (by omega) (by omega) ra rd
  by_cases he : e1 = nI 0
  case neg =>
    refine ⟨e1, V, o, ra1, rd1, sp, st, hts, FG, pJ_r hV hst, mdC_mx hnd (by omega) he f2 (by omega), ?_⟩
    intro f bg vc li LC ci CA tr hm Q hQ hQn hb1 hb2 D KK hD hk
    obtain ⟨D, rfl⟩ : ∃ x, D = x + 20 := ⟨D - 20, by omega⟩
    refine ⟨fun _ => y6 f (D + 19) KK (MM_T hm hT) (by omega) ?_, fun q => absurd q (by decide), fun q => absurd q (by decide)⟩
    refine w_m_rendersBodies_39 hM (z_bf (by decide) (z_bt rfl ?_))
    rw [z_add]
    refine p_f2 (d := D + 17) hM hT (pX_10 hx) hm f3 (by omega) (by omega) (by omega) (by omega) (fun q => absurd q he) (fun _ kq f1 fe a1 a2 a3 a4 _ _ _ => ?_)
    have h70 : ¬ f1 1714 70 = nI 0 := by rw [a1.2.2.2.2.2.2.2.1]; exact he
    refine z_bf h70 (w_m_rendersBodies_101 hM (z_bf (by decide) ?_))
    have h70' : ¬ (mj_u2 f1 1714 21 (nI kq)) 1714 70 = nI 0 := by
      rw [show (mj_u2 f1 1714 21 (nI kq)) 1714 70 = f1 1714 70 from z_u2m (by decide)]
      exact h70
    obtain ⟨b1, b2⟩ := MM_fe (y := nI kq) a1 (pX_10 hx)
    exact w_m_renders hM (r3_x hM h70' (z_bf (by decide) (hk _ vc _ b1 (mF_t a2 b2) (by omega))))
  subst he
  have hvin := f1 rfl
  by_cases htr : rv_tr v
  · -- the first body
    obtain ⟨e, V', o', ra', rd', sp', st', hts', FG', j1, j2, j3⟩ := bd_or (o := o) (ra := ra1) (rd := rd1) (sp := sp) (hts := hts) (FG := FG) y1 hV hst (fun hr => ih _ _ _ _ y1 (by omega) y2 hr V o ra1 rd1 sp st hts FG hV hst)
    refine ⟨e, V', o', ra', rd', sp', st', hts', FG', j1, mdC_me hnd (by omega) f2 (by omega) ?_, ?_⟩
    · intro fr b cn top la ρ G hC hcv hnx k1 k2 k3 Q hQ h80 hb1 hb2 d dm K t hd hdm htt c1 c2
      obtain ⟨dm, rfl⟩ : ∃ x, dm = x + 1 := ⟨dm - 1, by omega⟩
      refine ⟨fun q => absurd q (by decide), fun q => absurd q (by decide), fun _ => ⟨hcv.1, ?_⟩, fun q => absurd q (by decide), fun q => absurd q (by decide)⟩
      refine c_isTrue hC.1 hvin hcv (fun _ => z_bt rfl ⟨k1, ?_⟩) (fun q => absurd htr q)
      rw [k2]
      exact j2 fr b cn top la ρ G hC _ m (t + 100 * (2000 - st) + 100 + (m - p)) hnx (by omega) (by omega) hop (by omega) (by omega) d dm K t _ (fun G' h => ⟨fun _ => h, fun q => absurd rfl q⟩) hd (by omega) (by omega) c1 c2
    · intro f bg vc li LC ci CA tr hm Q hQ hQn hb1 hb2 D KK hD hk
      obtain ⟨D, rfl⟩ : ∃ x, D = x + 20 := ⟨D - 20, by omega⟩
      refine ⟨fun _ => y6 f (D + 19) KK (MM_T hm hT) (by omega) ?_, fun q => absurd q (by decide), fun q => absurd q (by decide)⟩
      refine w_m_rendersBodies_39 hM (z_bf (by decide) (z_bt rfl ?_))
      rw [z_add]
      refine p_f2 (d := D + 17) hM hT (pX_10 hx) hm f3 (by omega) (by omega) (by omega) (by omega) (fun _ f1 a1 a2 a3 _ => ?_) (fun q => absurd rfl q)
      obtain ⟨b1, b2⟩ := MM_fe (y := nI 320) a1 (pX_10 hx)
      refine z_bt a1.2.2.2.2.2.2.2.1 (p_isTrue hM (by decide) a3 hvin.1 (fun _ => z_bt rfl ?_) (fun q => absurd htr q))
      refine w_m_rendersBodies_101 hM (z_bf (by decide) ?_)
      exact bd_M hM j3 b1 (by omega) (by omega) (by omega) (by omega) (by omega) (fun f2 vc2 t1 t2 t3 => z_bf (by decide) (hk f2 vc2 _ t1 (mF_t (mF_t a2 b2) t2) (by omega)))
  · -- the second one
    obtain ⟨p', q', e, V', o', ra', rd', sp', st', hts', FG', j1, j2, j3, i1, i2, i3, i4⟩ := y7 N B M S lc ln op ch ih V o ra1 rd1 sp st hts FG hV hst
    refine ⟨e, V', o', ra', rd', sp', st', hts', FG', j1, mdC_me hnd (by omega) f2 (by omega) ?_, ?_⟩
    · intro fr b cn top la ρ G hC hcv hnx k1 k2 k3 Q hQ h80 hb1 hb2 d dm K t hd hdm htt c1 c2
      obtain ⟨dm, rfl⟩ : ∃ x, dm = x + 1 := ⟨dm - 1, by omega⟩
      refine ⟨fun q => absurd q (by decide), fun q => absurd q (by decide), fun _ => ⟨hcv.1, ?_⟩, fun q => absurd q (by decide), fun q => absurd q (by decide)⟩
      refine c_isTrue hC.1 hvin hcv (fun q => absurd q htr) (fun _ => z_bf (by decide) ⟨k1, ?_⟩)
      rw [k2]
      exact j2 fr b cn top la ρ G hC _ m (t + 100 * (2000 - st) + 100 + (m - p)) hnx (by omega) (by omega) hop (by omega) (by omega) d dm K t _ (fun G' h => ⟨fun _ => h, fun q => absurd rfl q⟩) hd (by omega) (by omega) c1 c2
    · intro f bg vc li LC ci CA tr hm Q hQ hQn hb1 hb2 D KK hD hk
      obtain ⟨D, rfl⟩ : ∃ x, D = x + 20 := ⟨D - 20, by omega⟩
      refine ⟨fun _ => y6 f (D + 19) KK (MM_T hm hT) (by omega) ?_, fun q => absurd q (by decide), fun q => absurd q (by decide)⟩
      refine w_m_rendersBodies_39 hM (z_bf (by decide) (z_bt rfl ?_))
      rw [z_add]
      refine p_f2 (d := D + 17) hM hT (pX_10 hx) hm f3 (by omega) (by omega) (by omega) (by omega) (fun _ f1 a1 a2 a3 _ => ?_) (fun q => absurd rfl q)
      obtain ⟨b1, b2⟩ := MM_fe (y := nI 320) a1 (pX_10 hx)
      refine z_bt a1.2.2.2.2.2.2.2.1 (p_isTrue hM (by decide) a3 hvin.1 (fun q => absurd q htr) (fun _ => z_bf (by decide) ?_))
      refine w_m_rendersBodies_101 hM (z_bt rfl (z_bt rfl ?_))
      exact j3 _ bg vc li LC ci CA tr b1 (by omega) (by omega) (D + 19) KK (by omega) (fun f2 vc2 t1 t2 t3 => hk f2 vc2 _ t1 (mF_t (mF_t a2 b2) t2) (by omega))
end ZI
