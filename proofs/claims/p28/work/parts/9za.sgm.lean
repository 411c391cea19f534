/-! STRETCHES OF A BODY: the model's half -/
/-- the stretch from p to q of template T -/
def sgM (u : wo) (Gm : mj_G) (T : Nat) (N : Nat) (B : Nat → Nat) (M : Nat) (S : Nat → Nat) (lc : Nat) (ln : Nat → Nat) (op : Nat) (ch : List en) (V : Nat → Nat → Option rv) (o : ost) (ra rd : Nat → Int32) (sp : Nat → Bool) (st hts : Nat) (FG : Nat → kfr) (p q : Nat) (e : Int32) (V' : Nat → Nat → Option rv) (o' : ost) (ra' rd' : Nat → Int32) (sp' : Nat → Bool) (st' hts' : Nat) (FG' : Nat → kfr) : Prop := ∀ (f : mm_F) (bg : Nat → Nat) (vc li LC : Nat) (ci : Int32) (CA tr : Nat), MM u f N B M S lc ln op ch V o ra rd sp st hts FG (nI 0) bg vc li LC ci CA tr (nI 320) → ∀ Q, q ≤ Q → Q ≤ u_n u T → (9 * tr + (Q - p) ≤ 72 * op + 80 ∧ 7 * N + (Q - p) ≤ 84 * op + 87) → 5 * vc ≤ 95 * op + p → ∀ d K, (Q - p) + 90 * (12 - op) + 320 ≤ d → (∀ f' vc', MM u f' N B M S lc ln op ch V' o' ra' rd' sp' st' hts' FG' e bg vc' li LC ci CA tr (nI 320) → mF tr LC CA f f' → 5 * vc' ≤ 95 * op + q → (e = nI 0 → m_renders_3 Gm (d + 1) (nI T) (nI Q) (nI q) f' K) ∧ (¬ e = nI 0 → K f')) → m_renders_3 Gm (d + 1) (nI T) (nI Q) (nI p) f K
section AA
variable {u : wo} {fe : Int32} {Gm : mj_G} {f f1 f' : mm_F} {P S1 R1 : Nat → Prop} {e : Int32} {T p q m d k r : Nat} {K : mm_F → Prop} {N : Nat} {B : Nat → Nat} {M : Nat} {S : Nat → Nat} {lc : Nat} {ln : Nat → Nat} {op : Nat} {ch : List en} {V : Nat → Nat → Option rv} {o : ost} {ra rd : Nat → Int32} {sp : Nat → Bool} {st hts : Nat} {FG : Nat → kfr} {V' : Nat → Nat → Option rv} {o' : ost} {ra' rd' : Nat → Int32} {sp' : Nat → Bool} {st' hts' : Nat} {FG' : Nat → kfr} {bg : Nat → Nat} {vc li LC : Nat} {ci : Int32} {CA tr : Nat}
theorem MM_T (h : MM u f N B M S lc ln op ch V o ra rd sp st hts FG e bg vc li LC ci CA tr fe) (hT : T < 10) : mt_T f T (u_w u T) (u_n u T) := (h.1.1 T hT).1
theorem sgM_t {m : Nat} {V1 : Nat → Nat → Option rv} {o1 : ost} {ra1 rd1 : Nat → Int32} {sp1 : Nat → Bool} {st1 hts1 : Nat} {FG1 : Nat → kfr} (hpm : p ≤ m) (hmq : m ≤ q) (h1 : sgM u Gm T N B M S lc ln op ch V o ra rd sp st hts FG p m (nI 0) V1 o1 ra1 rd1 sp1 st1 hts1 FG1) (h2 : sgM u Gm T N B M S lc ln op ch V1 o1 ra1 rd1 sp1 st1 hts1 FG1 m q e V' o' ra' rd' sp' st' hts' FG') : sgM u Gm T N B M S lc ln op ch V o ra rd sp st hts FG p q e V' o' ra' rd' sp' st' hts' FG' := by
  intro f bg vc li LC ci CA tr hm Q hQ hn hb1 hb2 d K hd hk
  refine h1 f bg vc li LC ci CA tr hm Q (by omega) hn hb1 hb2 d K hd (fun f1 vc1 a1 a2 a3 => ⟨fun _ => ?_, fun q => absurd rfl q⟩)
  exact h2 f1 bg vc1 li LC ci CA tr a1 Q hQ hn (by omega) a3 d K (by omega) (fun f2 vc2 b1 b2 b3 => hk f2 vc2 b1 (mF_t a2 b2) b3)
theorem sgM_x {m : Nat} (hpm : p ≤ m) (hmq : m ≤ q) (he : ¬ e = nI 0) (h1 : sgM u Gm T N B M S lc ln op ch V o ra rd sp st hts FG p m e V' o' ra' rd' sp' st' hts' FG') : sgM u Gm T N B M S lc ln op ch V o ra rd sp st hts FG p q e V' o' ra' rd' sp' st' hts' FG' := by
  intro f bg vc li LC ci CA tr hm Q hQ hn hb1 hb2 d K hd hk
  exact h1 f bg vc li LC ci CA tr hm Q (by omega) hn hb1 hb2 d K hd (fun f1 vc1 a1 a2 a3 => ⟨fun q => absurd q he, fun _ => (hk f1 vc1 a1 a2 (by omega)).2 he⟩)
theorem sgM_0 : sgM u Gm T N B M S lc ln op ch V o ra rd sp st hts FG p p (nI 0) V o ra rd sp st hts FG := fun _ _ vc _ _ _ _ _ hm Q _ _ _ hb2 d K _ hk => (hk _ vc hm mF_r hb2).1 rfl
/-- what failed ends the loop -/
theorem r3_x {x1 x3 x4 : Int32} (hM : mm_S Gm) (h : ¬ f 1714 70 = nI 0) (hK : K f) : m_renders_3 Gm (d + 1) x1 x3 x4 f K := w_m_renders_3 hM (z_br (fun _ => hK) (fun _ => z_bf h hK))
/-- the end of a body -/
theorem r3_e {Q : Nat} (hM : mm_S Gm) (hQ : Q ≤ 80) (hK : K f) : m_renders_3 Gm (d + 1) (nI T) (nI Q) (nI Q) f K := w_m_renders_3 hM (z_bt (by rw [z_le (by omega) (by omega)]; exact Nat.le_refl _) hK)
theorem MM_st (h : MM u f N B M S lc ln op ch V o ra rd sp st hts FG e bg vc li LC ci CA tr fe) (h10 : ∀ x, x ∈ ch → en_n x ≤ 10) (F : mw no_R (fun j => j = 68) no_R f f') (h68 : f' 1714 68 = nI (st + 1)) (hs : st < u_bu u) : MM u f' N B M S lc ln op ch V o ra rd sp (st + 1) hts FG e bg vc li LC ci CA tr fe ∧ mF tr LC CA f f' := by
  obtain ⟨h1, h2, h3, h4, h5, h6, h7, h8, h9, h0⟩ := h
  have nr : ∀ a, no_R a → False := fun a q => q
  exact ⟨⟨wM_f h1 F (by decide) (fun a q => absurd q (nr a)), sM_f h2 h10 F (fun j q => by omega) (fun a q => absurd q (nr a)), dM_f h3 F (fun i q => absurd q (nr i)) (fun j q => by omega) (fun a q => absurd q (nr a)), h68, hs, h6, (F.2.1 69 (by decide)).trans h7, (F.2.1 70 (by decide)).trans h8, oM_f h9 F ⟨by decide, by decide⟩ ⟨nr _, nr _⟩, fgM_f h0 F (fun a q => absurd q (nr a))⟩, mF_w F (fun j q => by unfold rS; omega) (fun a q => absurd q (nr a))⟩
theorem MM_e {e' : Int32} (h : MM u f N B M S lc ln op ch V o ra rd sp st hts FG e bg vc li LC ci CA tr fe) (h10 : ∀ x, x ∈ ch → en_n x ≤ 10) (F : mw no_R (fun j => j = 70) no_R f f') (h70 : f' 1714 70 = e') (he : ¬ e' = nI 0) : MM u f' N B M S lc ln op ch V o ra rd sp st hts FG e' bg vc li LC ci CA tr fe ∧ mF tr LC CA f f' := by
  obtain ⟨h1, h2, h3, h4, h5, h6, h7, h8, h9, h0⟩ := h
  have nr : ∀ a, no_R a → False := fun a q => q
  exact ⟨⟨wM_f h1 F (by decide) (fun a q => absurd q (nr a)), sM_f h2 h10 F (fun j q => by omega) (fun a q => absurd q (nr a)), dM_f h3 F (fun i q => absurd q (nr i)) (fun j q => by omega) (fun a q => absurd q (nr a)), (F.2.1 68 (by decide)).trans h4, h5, h6, (F.2.1 69 (by decide)).trans h7, h70, oM_f h9 F ⟨by decide, by decide⟩ ⟨nr _, nr _⟩, fgM_f h0 F (fun a q => absurd q (nr a))⟩, mF_w F (fun j q => by unfold rS; omega) (fun a q => absurd q (nr a))⟩
/-- a character that stands for itself -/
theorem sgM_lit (hM : mm_S Gm) (hT : T < 10) (h10 : ∀ x, x ∈ ch → en_n x ≤ 10) (h123 : ¬ u_w u T p = 123) (hpn : p < u_n u T) :
    (st = u_bu u → sgM u Gm T N B M S lc ln op ch V o ra rd sp st hts FG p (p + 1) (Int32.ofInt (-9)) V o ra rd sp st hts FG) ∧ (st < u_bu u → sgM u Gm T N B M S lc ln op ch V o ra rd sp st hts FG p (p + 1) (o_lt (u_w u T p) (100 * T + p) o).1 V (o_lt (u_w u T p) (100 * T + p) o).2 ra rd sp (st + 1) hts FG) := by
  have key : ∀ (f : mm_F) (bg : Nat → Nat) (vc li LC : Nat) (ci : Int32) (CA tr : Nat), MM u f N B M S lc ln op ch V o ra rd sp st hts FG (nI 0) bg vc li LC ci CA tr (nI 320) → ∀ Q, p + 1 ≤ Q → Q ≤ u_n u T → (9 * tr + (Q - p) ≤ 72 * op + 80 ∧ 7 * N + (Q - p) ≤ 84 * op + 87) → 5 * vc ≤ 95 * op + p → ∀ d K, (Q - p) + 90 * (12 - op) + 320 ≤ d → (st = u_bu u → ∀ f', MM u f' N B M S lc ln op ch V o ra rd sp st hts FG (Int32.ofInt (-9)) bg vc li LC ci CA tr (nI 320) → mF tr LC CA f f' → K f') → (st < u_bu u → ∀ f', MM u f' N B M S lc ln op ch V (o_lt (u_w u T p) (100 * T + p) o).2 ra rd sp (st + 1) hts FG (o_lt (u_w u T p) (100 * T + p) o).1 bg vc li LC ci CA tr (nI 320) → mF tr LC CA f f' → ((o_lt (u_w u T p) (100 * T + p) o).1 = nI 0 → m_renders_3 Gm (d + 1) (nI T) (nI Q) (nI (p + 1)) f' K) ∧ (¬ (o_lt (u_w u T p) (100 * T + p) o).1 = nI 0 → K f')) → m_renders_3 Gm (d + 1) (nI T) (nI Q) (nI p) f K := by
    intro f bg vc li LC ci CA tr hm Q hQ hn hb1 hb2 d K hd k1 k2
    obtain ⟨d, rfl⟩ : ∃ x, d = x + 1 := ⟨d - 1, by omega⟩
    have hT1 := MM_T hm hT
    have hW := hT1.2.1
    have hc := hW.2.1 p hpn
    have hn80 := hW.1
    refine w_m_renders_3 hM (z_bf (by rw [z_le (by omega) (by omega)]; omega) (z_bt hm.2.2.2.2.2.2.2.1 (c_letter hM hT1 (by omega) ?_)))
    rw [tx_nxi hpn]
    refine z_bf (by rw [z_eq (by omega) (by omega)]; exact h123) ?_
    refine p_pays hM hm.2.2.2.1 hm.1.2.2.2 hm.2.2.2.2.2.1 hm.2.2.2.2.1 (fun q f1 F1 e1 => ?_) (fun q f1 F1 e1 => ?_)
    · obtain ⟨m1, G1⟩ := MM_st hm h10 F1 e1 q
      have hT2 := MM_T m1 hT
      have m1' := m1
      obtain ⟨-, -, -, -, -, -, -, i8, i9, -⟩ := m1'
      have ho := i9
      -- both ways end so
      have fin : ∀ f2, MM u f2 N B M S lc ln op ch V (o_lt (u_w u T p) (100 * T + p) o).2 ra rd sp (st + 1) hts FG (o_lt (u_w u T p) (100 * T + p) o).1 bg vc li LC ci CA tr (nI 320) → mF tr LC CA f1 f2 → m_renders_3 Gm (d + 1 + 1) (nI T) (nI Q) (nI (p + 1)) f2 K := fun f2 m2 G2 => by
        obtain ⟨j1, j2⟩ := k2 q f2 m2 (mF_t G1 G2)
        by_cases h0 : (o_lt (u_w u T p) (100 * T + p) o).1 = nI 0
        · exact j1 h0
        · exact r3_x hM (by rw [m2.2.2.2.2.2.2.2.1]; exact h0) (j2 h0)
      have put : o_lt (u_w u T p) (100 * T + p) o = o_t o (oc_L (u_w u T p) (100 * T + p)) → ∀ b, decide (u_w u T p = 32) = b → m_puts Gm (d + 1) (nI (u_w u T p)) (nI (100 * T + p)) (bI b) f1 (fun f14 => m_renders_3 Gm (d + 1 + 1) (nI T) (nI Q) (nI (p + 1)) f14 K) := fun hl b hb => by
        obtain ⟨z1, z2, z3⟩ := oc_L31 (c := u_w u T p) (s := 100 * T + p) hc (by omega)
        obtain ⟨y1, y2, y3⟩ := oc_Lc (c := u_w u T p) (s := 100 * T + p) (by omega)
        refine p_put hM ho i8 (by omega) z1 hc y1 y2 (y3.trans hb) (gz_L (by omega)) (fun f2 F2 o2 e2 => ?_)
        obtain ⟨m2, G2⟩ := MM_o m1 h10 F2 (fun i q => q.elim) o2 e2
        rw [← hl] at m2
        exact fin f2 m2 G2
      refine c_letter hM hT2 (by omega) ?_
      rw [tx_nxi hpn, z_eq (by omega) (by omega)]
      refine z_br (fun q32 => ?_) (fun q32 => ?_)
      · refine w_m_renders_49 hM (z_bf (by decide) ?_)
        rw [ho.2.2.1]
        by_cases hw : o_w o = true
        · have hl : o_lt (u_w u T p) (100 * T + p) o = (nI 0, o) := if_pos ⟨hw, q32⟩
          refine z_bf (by rw [hw]; decide) ?_
          rw [z_add]
          refine fin f1 ?_ mF_r
          rw [hl]
          exact m1
        · have hl : o_lt (u_w u T p) (100 * T + p) o = o_t o (oc_L (u_w u T p) (100 * T + p)) := if_neg (fun q => hw q.1)
          refine z_bt (by rw [Bool.eq_false_iff.mpr hw]; rfl) (c_letter hM hT2 (by omega) ?_)
          rw [tx_nxi hpn, z_mul, z_add, z_add]
          exact put hl true (decide_eq_true q32)
      · have hl : o_lt (u_w u T p) (100 * T + p) o = o_t o (oc_L (u_w u T p) (100 * T + p)) := if_neg (fun q => q32 q.2)
        refine w_m_renders_49 hM (z_bt rfl (c_letter hM hT2 (by omega) ?_))
        rw [tx_nxi hpn, z_mul, z_add, z_add]
        exact put hl false (decide_eq_false q32)
    · obtain ⟨m1, G1⟩ := MM_e hm h10 F1 e1 (by decide)
      have hT2 := MM_T m1 hT
      have h70 : ¬ f1 1714 70 = nI 0 := by rw [e1]; decide
      have fin : ∀ x, m_renders_3 Gm (d + 1 + 1) (nI T) (nI Q) x f1 K := fun x => r3_x hM h70 (k1 q f1 m1 G1)
      refine c_letter hM hT2 (by omega) ?_
      rw [tx_nxi hpn, z_eq (by omega) (by omega)]
      refine z_br (fun q32 => ?_) (fun q32 => ?_)
      · exact w_m_renders_49 hM (z_bf (by decide) (z_br (fun _ => c_letter hM hT2 (by omega) (p_puts0 hM (by omega) h70 (fin _))) (fun _ => fin _)))
      · exact w_m_renders_49 hM (z_bt rfl (c_letter hM hT2 (by omega) (p_puts0 hM (by omega) h70 (fin _))))
  refine ⟨fun hs => ?_, fun hs => ?_⟩
  · intro f bg vc li LC ci CA tr hm Q hQ hn hb1 hb2 d K hd hk
    exact key f bg vc li LC ci CA tr hm Q hQ hn hb1 hb2 d K hd (fun _ f' a1 a2 => (hk f' vc a1 a2 (by omega)).2 (by decide)) (fun q => absurd q (by omega))
  · intro f bg vc li LC ci CA tr hm Q hQ hn hb1 hb2 d K hd hk
    exact key f bg vc li LC ci CA tr hm Q hQ hn hb1 hb2 d K hd (fun q => absurd q (by omega)) (fun _ f' a1 a2 => hk f' vc a1 a2 (by omega))
/-- where a tag goes on, by the model, behind its letter -/
theorem c_behind2 {A : Nat → Prop} {G : mj_G} {hm : Int32} {w : Nat → Nat} {n t : Nat} {b : Int32} {L1 : List (Nat × Nat)} {K : Int32 → mm_F → Prop} (hM : mm_S Gm) (hT : mt_T f t w n) (hd : 18 ≤ d) (ht : tb_t k A G hm b r w p m L1) (h : K (nI m) f) :
    mm_br (qb (q_13070 (nI (w (p + 1)))) = true) (m_closeOf Gm d (nI t) (nI p) f (fun v13 f12 => K (v13 + (nI 3)) f12)) (m_endOf Gm d (nI t) (nI p) f (fun v11 f10 => K (v11 + (nI 1)) f10)) := by
  obtain ⟨h1, h2, h3, h4, h5, h6, h7, e, h8, h9, h10, h11⟩ := ht
  have hn := hT.2.1.1
  have hw := tx_le hT.2.1 (p + 1)
  have hp1 : p + 1 < n := tx_in hT.2.1 (by unfold tx_T at h6; omega)
  rw [z_13070 (by omega)]
  rcases h11 with ⟨a1, rfl, -⟩ | ⟨a1, a0, -, q1, a2, a3, a4, a5, rfl⟩ | ⟨a1, q1, q2, La, Lb, a2, a3, a4, a5, a6, a7, a8, a9, rfl, -⟩
  · refine z_bf a1 (c_tagEnd hM hT (by omega) h9 h5 h10 ?_)
    rw [z_add]
    exact h
  · refine z_bt a1 (c_closeOf hM hT hd h9 h5 h10 a2 a3 (Or.inr a4) (fun _ => ?_) (fun q => absurd q (by omega)))
    rw [z_add]
    exact h
  · refine z_bt (by unfold tx_B; omega) (c_closeOf hM hT hd h9 h5 h10 a2 a3 (Or.inl a4) (fun q => absurd q (by omega)) (fun _ => ⟨q2, k, _, _, Lb, a6, a7, a8, ?_⟩))
    rw [z_add]
    exact h
/-- which of the three a tag's kind comes to -/
def tgD (Gm : mj_G) (d c T p : Nat) (f : mm_F) (KK : mm_F → Prop) : Prop := ((c = 63 ∨ c = 42 ∨ c = 43) → m_rendersBodies Gm d (nI c) (nI T) (nI p) f KK) ∧ ((c = 35 ∨ c = 94 ∨ c = 64 ∨ c = 33 ∨ c = 38 ∨ c = 126 ∨ c = 107) → m_rendersOther Gm d (nI c) (nI T) (nI p) f KK) ∧ ((c = 61 ∨ c = 37 ∨ c = 45 ∨ c = 116) → m_rendersPlain Gm d (nI c) (nI T) (nI p) f KK)
/-- a tag is met -/
theorem p_tag {A : Nat → Prop} {G : mj_G} {hm : Int32} {b : Int32} {L1 : List (Nat × Nat)} {Q D : Nat} (hM : mm_S Gm) (hT : T < 10) (h10 : ∀ x, x ∈ ch → en_n x ≤ 10) (h : MM u f N B M S lc ln op ch V o ra rd sp st hts FG (nI 0) bg vc li LC ci CA tr (nI 320)) (ht : tb_t k A G hm b r (u_w u T) p m L1) (hmQ : m ≤ Q) (hQn : Q ≤ u_n u T) (hpm : p < m) (hD : 30 ≤ D) (h36 : ¬ u_w u T (p + 1) = 36)
    (h1 : st = u_bu u → ∀ f', MM u f' N B M S lc ln op ch V o ra rd sp st hts FG (Int32.ofInt (-9)) bg vc li LC ci CA tr (nI 320) → mF tr LC CA f f' → K f')
    (h2 : st < u_bu u → ∀ f1, MM u f1 N B M S lc ln op ch V o ra rd sp (st + 1) hts FG (nI 0) bg vc li LC ci CA tr (nI 320) → mF tr LC CA f f1 → tgD Gm D (u_w u T (p + 1)) T p f1 (fun f9 => m_renders_3 Gm (D + 2) (nI T) (nI Q) (nI m) (mj_u2 f9 1714 21 (nI 320)) K)) : m_renders_3 Gm (D + 2) (nI T) (nI Q) (nI p) f K := by
  have ht0 := ht
  obtain ⟨t1, t2, t3, t4, t5, t6, t7, -⟩ := ht
  have hT1 := MM_T h hT
  have hW := hT1.2.1
  have hn80 := hW.1
  have hw := tx_le hW (p + 1)
  have hp1 : p + 1 < u_n u T := tx_in hW (by unfold tx_T at t6; omega)
  refine w_m_renders_3 hM (z_bf (by rw [z_le (by omega) (by omega)]; omega) (z_bt h.2.2.2.2.2.2.2.1 (c_letter hM hT1 (by omega) ?_)))
  rw [tx_nxi (by omega), t5]
  refine z_bt rfl (w_m_rendersTag hM (by omega) ?_)
  rw [z_add]
  refine c_letter hM hT1 (by omega) ?_
  rw [tx_nxi hp1]
  refine c_behind2 (K := fun v f => m_rendersTag_35 Gm (D + 1) (nI T) (nI p) (nI (u_w u T (p + 1))) v f (fun v4 f3 => m_renders_3 Gm (D + 1 + 1) (nI T) (nI Q) v4 f3 K)) hM hT1 (by omega) ht0 ?_
  have ne : ∀ c : Nat, c < 200 → ¬ u_w u T (p + 1) = c → ¬ nI (u_w u T (p + 1)) = nI c := fun c hc hn => by rw [z_eq (by omega) (by omega)]; exact hn
  have h60 : ¬ u_w u T (p + 1) = 60 := by unfold tx_T at t6; omega
  refine w_m_rendersTag_35 hM (z_bf (ne 36 (by decide) h36) (z_bf (ne 60 (by decide) h60) ?_))
  refine p_pays hM h.2.2.2.1 h.1.2.2.2 h.2.2.2.2.2.1 h.2.2.2.2.1 (fun q f1 F1 e1 => ?_) (fun q f1 F1 e1 => ?_)
  · obtain ⟨m1, G1⟩ := MM_st h h10 F1 e1 q
    have h21 : f1 1714 21 = nI 320 := m1.2.1.2.2.1
    have h70 : f1 1714 70 = nI 0 := m1.2.2.2.2.2.2.2.1
    obtain ⟨d1, d2, d3⟩ := h2 q f1 m1 G1
    refine z_bt h70 ?_
    rw [h21]
    by_cases c1 : u_w u T (p + 1) = 63
    · rw [c1] at d1 ⊢
      exact z_bt rfl (d1 (by omega))
    refine z_bf (ne 63 (by decide) c1) ?_
    by_cases c2 : u_w u T (p + 1) = 42
    · rw [c2] at d1 ⊢
      exact z_bt rfl (d1 (by omega))
    refine z_bf (ne 42 (by decide) c2) ?_
    by_cases c3 : u_w u T (p + 1) = 43
    · rw [c3] at d1 ⊢
      exact z_bt rfl (d1 (by omega))
    refine z_bf (ne 43 (by decide) c3) ?_
    by_cases c4 : u_w u T (p + 1) = 35
    · rw [c4] at d2 ⊢
      exact z_bt rfl (d2 (by omega))
    refine z_bf (ne 35 (by decide) c4) ?_
    by_cases c5 : u_w u T (p + 1) = 94
    · rw [c5] at d2 ⊢
      exact z_bt rfl (d2 (by omega))
    refine z_bf (ne 94 (by decide) c5) ?_
    by_cases c6 : u_w u T (p + 1) = 64
    · rw [c6] at d2 ⊢
      exact z_bt rfl (d2 (by omega))
    refine z_bf (ne 64 (by decide) c6) ?_
    by_cases c7 : u_w u T (p + 1) = 33
    · rw [c7] at d2 ⊢
      exact z_bt rfl (d2 (by omega))
    refine z_bf (ne 33 (by decide) c7) ?_
    by_cases c8 : u_w u T (p + 1) = 38
    · rw [c8] at d2 ⊢
      exact z_bt rfl (d2 (by omega))
    refine z_bf (ne 38 (by decide) c8) ?_
    by_cases c9 : u_w u T (p + 1) = 126
    · rw [c9] at d2 ⊢
      exact z_bt rfl (d2 (by omega))
    refine z_bf (ne 126 (by decide) c9) ?_
    by_cases c0 : u_w u T (p + 1) = 107
    · rw [c0] at d2 ⊢
      exact z_bt rfl (d2 (by omega))
    refine z_bf (ne 107 (by decide) c0) ?_
    exact d3 (by unfold tx_T at t6; omega)
  · obtain ⟨m1, G1⟩ := MM_e h h10 F1 e1 (by decide)
    refine z_bf (by rw [e1]; decide) ?_
    have h21 : f1 1714 21 = nI 320 := m1.2.1.2.2.1
    have e21 : mj_u2 f1 1714 21 (f1 1714 21) = f1 := by
      funext a i
      unfold mj_u2
      by_cases hq : a = 1714 ∧ i = 21
      · rw [if_pos hq, hq.1, hq.2]
      · rw [if_neg hq]
    rw [e21]
    exact r3_x hM (by rw [e1]; decide) (h1 q f1 m1 G1)
end AA
