/-! THE CALLS, by the one side that the law knows: fault, template, render, where it may end, checks -/
section G03
variable {s : lst} {ρ ρ' : Nat → Nat} {G G1 G' Gm : mj_G} {t d : Nat} {x : Int32}
theorem ow_A (h : LC s ρ G) : ∀ a, u_A (ls_u s) a → mj_k G a = mj_k (u_G (ls_u s)) a ∧ (∀ j, mj_r G a j = mj_r (u_G (ls_u s)) a j) ∧ ∀ j, mj_i G a j = mj_i (u_G (ls_u s)) a j := fun a ha => by
  obtain ⟨-, -, -, a1, -, a2, a3⟩ := h.2.1.1.2.2.2.1 a ha
  exact ⟨a1, a2, a3⟩
theorem ow_fault (hs : LQ s) (h : LC s ρ G) : ∃ v : Int32, ∀ d (K : Int32 ⊕ Nat → mj_G → Prop), 1200 ≤ d → (∀ ρ' G', LC s ρ' G' → yF G G' → K (.inl v) G') → Tq_fault d G (fun v G' => K (.inl v) G') := by
  have hG := hh_n h.1
  have hn := hs.2.1.1
  obtain ⟨res, hc, -⟩ := rw_all hs.2.1
  refine ⟨fa_v res, fun d K hd hK => ?_⟩
  obtain ⟨d, rfl⟩ : ∃ y, d = y + 1 := ⟨d - 1, by omega⟩
  refine iv_cE (iv_hb h.1.2.2.1) ?_
  show Tq_fault (d + 1) G (fun v G' => iv_J (mj_u G) G' → K (.inl v) G')
  refine w_Tq_fault h.1.1 ?_
  rintro _ rfl
  rw [show mj_i (mj_al G 8 6 (fun _ => 0)) 3 1 = nI (ls_n s) from (z_iAn (by omega)).trans h.2.2.2.2.2.1.1]
  refine c_Rd_init h.1.1 (by omega) ⟨rk_k.1, hc d G (nI 0) _ (by omega) h.1.1 hs.2.1 h.2.2.2.2.2.1.2 (fun r G' s1 F1 rx n1 u1 X => ⟨rx.1.2.1, fun hJ => ?_⟩)⟩
  have hk := hK ρ G' (LC_ext h F1 s1 (iv_end hJ (by omega)) ro_r) (yR_F (yR_ext (c := 167) (e := 1949) h F1 (by omega) (by omega)) (by decide) (by decide))
  cases res with
  | inl q => rw [show mj_i G' (mj_n G) 5 = Int32.ofInt (-1) from X.2.1]; exact hk
  | inr e => rw [show mj_i G' (mj_n G) 5 = nI e from X.2]; exact hk
theorem ow_may (hs : LQ s) (hx : LXq s) (h : LC s ρ G) (ht : t < 10) : ∃ v, s8 v ∧ ne8 v ∧ (u_pa (ls_u s) t = 0 → ∀ (FG : Nat → kfr) (o : ost) (FG1 : Nat → kfr), SF (ls_u s) FG → RR (ls_u s) t FG (nI 0) o FG1 → bt v (cx o)) ∧ ∀ d (K : Int32 ⊕ Nat → mj_G → Prop), 450 ≤ d → K (.inl v) G → Tq_mayEnd d (nI t) G K := by
  obtain ⟨v, v1, v2, v3, v4⟩ := ME_of (G := G) (ch := mj_i G (mj_r G 7 t) 3) hs.1 hx.1 (LX_tm hx) h.1.1 ht (ow_A h) (h.2.1.2.1 t ht).1
  refine ⟨v, v1, v2, v4, fun d K hd hK => ?_⟩
  obtain ⟨d, rfl⟩ : ∃ y, d = y + 2 := ⟨d - 2, by omega⟩
  refine w_Tq_mayEnd h.1.1 (by omega) ?_
  rw [z_lt (by omega) (by decide), z_lt (by omega) (by decide)]
  obtain ⟨g1, g2, g3, g4, g5, g6, g7⟩ := h.2.1.1.1 t ht
  refine z_bf (by omega) (z_bt ht (z_ixi ht (by decide) ⟨g4, ?_⟩))
  rw [g6]
  exact v3 (d + 1) _ (by omega) hK
theorem ow_chk (hM : mm_S Gm) (hs : LQ s) (h : LC s ρ G) (ht : t < 10) : ∃ v, rg v ∧ ∀ d (K : Int32 ⊕ Nat → mj_G → Prop), 1200 ≤ d → (∀ ρ' G', LC s ρ' G' → yF G G' → fn_F G G' → K (.inl v) G') → Tq_check d (nI t) G K := by
  obtain ⟨s0, k, hP, hB⟩ := tb_now hs h ht
  have hG := hh_n h.1
  have hW := (hs.1.2.2.2 t ht).1
  have hn := hW.1
  have hnow : ∀ i, (fun i => if i < 26 then ls_k s i else 0) i < 16 := fun i => by
    show (if i < 26 then ls_k s i else 0) < 16
    by_cases q : i < 26
    · rw [if_pos q]; exact hs.2.2.1 i q
    · rw [if_neg q]; decide
  have en : ∀ i, i < 26 → (fun i => if i < 26 then ls_k s i else 0) i = ls_k s i := fun i hi => if_pos hi
  generalize (fun i => if i < 26 then ls_k s i else 0) = now at hnow en
  have hA : ∀ a, u_A (ls_u s) a → a < mj_n G := fun a ha => (h.2.1.1.2.2.2.1 a ha).2.1
  obtain ⟨v, b1, b2, b3⟩ := cw_all (t := t) hM hW hA (by omega) hnow hB (Nat.le_refl _)
  have hs0 : s0 ≤ u_n (ls_u s) t := tb_le hB
  refine ⟨v, b3.2, fun d K hd hK => ?_⟩
  obtain ⟨d, rfl⟩ : ∃ y, d = y + 2 := ⟨d - 2, by omega⟩
  refine iv_cI (iv_hb h.1.2.2.1) ?_
  show Tq_check (d + 2) (nI t) G (fun r G' => iv_J (mj_u G) G' → K r G')
  refine w_Tq_check h.1.1 (by omega) ?_
  rw [z_lt (by omega) (by decide), z_lt (by omega) (by decide)]
  obtain ⟨g1, g2, g3, g4, g5, g6, g7⟩ := h.2.1.1.1 t ht
  refine z_bf (by omega) (z_bt ht (z_ixi ht (by decide) ⟨g4, ?_⟩))
  rw [g6]
  refine cb_ff (A := u_A (ls_u s)) (G := G) (now := now) hA b1 b3.1 ⟨h.1.1, fun _ _ => ⟨rfl, rfl, fun _ => rfl, fun _ => rfl⟩, cs_k h.1.1 rfl, cs_l h.1.1 rfl, fun i hi => (h.2.2.2.2.2.2 i hi).trans (by rw [en i hi])⟩ (Nat.le_refl _) (by decide) (Nat.zero_le _) (by omega) (by omega) (fun H' s1 F1 n1 u1 hJ => ?_)
  exact hK ρ H' (LC_ext h F1 s1 (iv_end hJ (by omega)) ro_r) (yR_F (yR_ext (c := 81) (e := 2106) h F1 (by omega) (by omega)) (by decide) (by decide)) F1
/-- no such template -/
theorem ow_chkX (h : LC s ρ G) (hx : x < nI 0 ∨ (¬ x < nI 0 ∧ ¬ x < nI 10)) {K : Int32 ⊕ Nat → mj_G → Prop} (hd : 1200 ≤ d) (hK : ∀ ρ' G', LC s ρ' G' → yR 1 6 G G' → K (.inr 17) G') : Tq_check d x G K := by
  obtain ⟨a1, a2⟩ := LC_al (kd := 18) (len := 6) h (by decide)
  have hk := hK ρ _ a1 a2
  obtain ⟨d, rfl⟩ : ∃ y, d = y + 1 := ⟨d - 1, by omega⟩
  refine w_Tq_check h.1.1 (by omega) ?_
  rcases hx with hx | ⟨hx, hx'⟩
  · exact z_bt hx hk
  · exact z_bf hx (z_bf hx' hk)
theorem ow_renX (h : LC s ρ G) (hx : x < nI 0 ∨ (¬ x < nI 0 ∧ ¬ x < nI 10)) {K : Int32 ⊕ Nat → mj_G → Prop} (hd : 1200 ≤ d) (hK : ∀ ρ' G', LC s ρ' G' → yR 1 6 G G' → K (.inr 17) G') : Tq_render d x G K := by
  obtain ⟨a1, a2⟩ := LC_al (kd := 18) (len := 6) h (by decide)
  have hk := hK ρ _ a1 a2
  obtain ⟨d, rfl⟩ : ∃ y, d = y + 1 := ⟨d - 1, by omega⟩
  refine w_Tq_render h.1.1 (by omega) ?_
  rcases hx with hx | ⟨hx, hx'⟩
  · exact z_bt hx hk
  · exact z_bf hx (z_bf hx' hk)
theorem ow_tplX (h : LC s ρ G) (hx : x < nI 0 ∨ (¬ x < nI 0 ∧ ¬ x < nI 10)) {K : Int32 ⊕ Nat → mj_G → Prop} (hd : 1200 ≤ d) (hK : ∀ ρ' G', LC s ρ' G' → yR 1 6 G G' → K (.inr 17) G') : Tq_template d x G K := by
  obtain ⟨a1, a2⟩ := LC_al (kd := 18) (len := 6) h (by decide)
  have hk := hK ρ _ a1 a2
  obtain ⟨d, rfl⟩ : ∃ y, d = y + 1 := ⟨d - 1, by omega⟩
  refine w_Tq_template h.1.1 (by omega) ?_
  rcases hx with hx | ⟨hx, hx'⟩
  · exact z_bt hx hk
  · exact z_bf hx (z_bf hx' hk)
/-- the state behind a rendering -/
def ls_rr (s : lst) (x1 : Nat) (e : Int32) (o' : ost) (st hts : Nat) (FG : Nat → kfr) : lst := (wo_r (ls_u s) x1 (o_n (ls_o s)) (o_c (ls_o s)), FG, (if e = nI 0 then o' else o_z (ls_o s)), (o_n (ls_o s), o_c (ls_o s)), (st, hts), (ls_n s, ls_w s), ls_k s)
theorem OS_z {o : ost} : OS (o_z o) := fun i hi => absurd hi (Nat.not_lt_zero i)
theorem ow_ren (hM : mm_S Gm) (hs : LQ s) (hx : LXq s) (h : LC s ρ G) (ht : t < 10) : ∃ x1 e o' st hts FG, LQ (ls_rr s x1 e o' st hts FG) ∧ LXq (ls_rr s x1 e o' st hts FG) ∧ st ≤ u_bu (ls_u s) ∧ er e ∧ RR (ls_u (ls_rr s x1 e o' st hts FG)) t (ls_F s) e o' FG ∧ ∀ d (K : Int32 ⊕ Nat → mj_G → Prop), 1200 ≤ d → (∀ ρ' G', LC (ls_rr s x1 e o' st hts FG) ρ' G' → yR 0 0 G G' → K (.inl (if e = nI 0 then nI (o_n o') else e)) G') → Tq_render d (nI t) G K := by
  have hG := hh_n h.1
  have ho := hs.2.2.2.1
  obtain ⟨e, o', st', hts', FG', r1, r2, r3⟩ := run_S (u := wo_r (ls_u s) (mj_r G 1589 0) (o_n (ls_o s)) (o_c (ls_o s))) (oP := ls_o s) (FG := ls_F s) hM hs.1 ht
  have run : ∀ d K, 303 ≤ d → (∀ ρ' G' o1, rE (wo_r (ls_u s) (mj_r G 1589 0) (o_n (ls_o s)) (o_c (ls_o s))) ρ G (if e = nI 0 then o' else o_z o1) st' hts' FG' ρ' G' → K (if e = nI 0 then nI (o_n o') else e) G') → Rn_run (d + 1) (nI t) G K := fun d K hd hK => r2 ρ G d K h.1 h.2.1.1 h.2.2.1 h.2.2.2.1.1 h.2.2.2.2.1.1 h.2.2.2.1.2.1 h.2.2.2.1.2.2.1 rfl rfl rfl hd hK
  have hok : e = nI 0 → o_ok o' := by
    have hr := run 400 (fun _ _ => e = nI 0 → o_ok o') (by decide) (fun ρ' G' o1 hE he => by
      have := hE.2.2.2.2.2.1.1.1
      rw [if_pos he] at this
      exact this)
    obtain ⟨o2, G2, ⟨v, -, -, hk⟩, -⟩ := mj_X_det hr
    exact hk
  have hbu : u_bu (ls_u s) ≤ 2000 := hs.1.2.1
  have hst : st' ≤ u_bu (ls_u s) := r1
  obtain ⟨g1, g2, g3⟩ := RR_g (u := wo_r (ls_u s) (mj_r G 1589 0) (o_n (ls_o s)) (o_c (ls_o s))) hs.1 hx.2.2.2.1 r3
  obtain ⟨b, hNW, -⟩ := NW_of (u := wo_r (ls_u s) (mj_r G 1589 0) (o_n (ls_o s)) (o_c (ls_o s))) hs.1 hx.1
  refine ⟨mj_r G 1589 0, e, o', st', hts', FG', ⟨hs.1, hs.2.1, hs.2.2.1, ?_, ho.1, fun i hi => ⟨(ho.2.2 i hi).1, (ho.2.2 i hi).2.1, (ho.2.2 i hi).2.2.1⟩, (by show st' ≤ 2000; omega)⟩, ⟨hx.1, hx.2.1, RR_sound hNW ht hx.2.2.1 r3, g1, ?_, hx.2.2.2.2.2⟩, hst, g2, r3, fun d K hd hK => ?_⟩
  · show o_ok (if e = nI 0 then o' else o_z (ls_o s))
    by_cases he : e = nI 0
    · rw [if_pos he]; exact hok he
    · rw [if_neg he]; exact o_zk ho
  · show OS (if e = nI 0 then o' else o_z (ls_o s))
    by_cases he : e = nI 0
    · rw [if_pos he]; exact (g3 he).1
    · rw [if_neg he]; exact OS_z
  · obtain ⟨d, rfl⟩ : ∃ y, d = y + 2 := ⟨d - 2, by omega⟩
    refine w_Tq_render h.1.1 (by omega) ?_
    rw [z_lt (by omega) (by decide), z_lt (by omega) (by decide)]
    refine z_bf (by omega) (z_bt ht (run d _ (by omega) (fun ρ' G' o1 hE => ?_)))
    obtain ⟨e1, e2, e3, e4, e5, e6, e7⟩ := hE
    have nb : ∀ a, bW a → a = 6 ∨ a = 11 ∨ (67 ≤ a ∧ a ≤ 1593) ∨ (1594 ≤ a ∧ a ≤ 1673) ∨ 2000 ≤ a := fun a q => by
      have := q.1
      unfold gW at this
      omega
    have F0 := f0_fw e3
    refine hK ρ' G' ⟨e1, ⟨e4, (wY_f0 h.1 h.2.1 F0 e2 (fun o q => bW_im q)).2⟩, e7, ⟨?_, ?_, ?_, e6.2.2.2.2.1, ?_⟩, ⟨e5.1, e5.2.1, e5.2.2.1⟩, yT_f hG h.2.2.2.2.2.1 F0 ⟨fun q => by have := nb _ q; omega, fun q => by have := nb _ q; omega⟩, yS_f hG h.2.2.2.2.2.2 F0 (fun q => by have := nb _ q; omega)⟩ (yR_fw hG e3 (fun a q1 q2 q => by have := nb _ q; omega))
    · show oC G' (if e = nI 0 then o' else o_z (ls_o s))
      have h6 := e6.1
      by_cases he : e = nI 0
      · rw [if_pos he] at h6 ⊢; exact h6
      · rw [if_neg he] at h6 ⊢; exact oC_z h6 ho
    · rw [e6.2.1]; exact e6.2.2.2.1
    · rw [e6.2.1]; exact fun q => e6.2.2.1 q.symm
    · intro i hi
      rw [e6.2.1]
      exact e6.2.2.2.2.2 i hi
/-- a template told anew -/
theorem LX_p {p r : Nat} {L : List (Nat × Nat)} {A : Nat → Prop} {H : mj_G} (hx : LXq s) (hI : ∀ j, ls_w s j = 123 → tx_T (ls_w s (j + 1)) → inst (ls_w s) j) : LXq (ls_p s t p r L A H) := by
  obtain ⟨h1, h2, h3, h4, h5, h6⟩ := hx
  refine ⟨fun T hT j => ?_, h2, fun i hi hk => absurd hk (by show ¬ false = true; decide), fun i hi hk => absurd hk (by show ¬ false = true; decide), h5, h6⟩
  show g_u (u_w (ls_u s)) t (ls_w s) T j = 123 → tx_T (g_u (u_w (ls_u s)) t (ls_w s) T (j + 1)) → inst (g_u (u_w (ls_u s)) t (ls_w s) T) j
  by_cases q : T = t
  · rw [q, g_us]
    exact hI j
  · rw [g_un q]
    exact h1 T hT j
theorem ow_tpl0 (hs : LQ s) (hx : LXq s) (h : LC s ρ G) (ht : t < 10) (hI : ∀ j, ls_w s j = 123 → tx_T (ls_w s (j + 1)) → inst (ls_w s) j) {q : Nat} (hc : rw_C (ls_w s) (ls_n s) (.inl q)) (hd : 1200 ≤ d) : ∃ p r L A H, LQ (ls_p s t p r L A H) ∧ LXq (ls_p s t p r L A H) ∧ pa_t (ls_w s) p ∧ ∀ (K : Int32 ⊕ Nat → mj_G → Prop), (∀ ρ' G', LC (ls_p s t p r L A H) ρ' G' → yF G G' → K (.inl (nI (ct (ls_w s) (ls_n s)))) G') → Tq_template d (nI t) G K := by
  have h0 : Tq_template d (nI t) G (fun r H => ∃ p r' L A, LC (ls_p s t p r' L A H) (ro_0 ρ (mj_n G)) H ∧ LQ (ls_p s t p r' L A H) ∧ yF G H ∧ pa_t (ls_w s) p ∧ r = .inl (nI (ct (ls_w s) (ls_n s)))) := c_tpl h hs hc ht (by omega) (fun p r L A H a1 a2 a3 a4 a5 => ⟨p, r, L, A, a1, a2, a3, a4, rfl⟩)
  obtain ⟨o, H, ⟨hSH, hQ⟩, -, -, hX⟩ := mj_X_det h0
  rcases hQ with ⟨v, ev, p, r', L, A, c1, c2, c3, c4, c6⟩ | ⟨k, -, -, -, -, -, -, -, -, -, c6⟩
  case inr => exact nomatch c6
  have ev' : v = nI (ct (ls_w s) (ls_n s)) := Sum.inl.inj c6
  subst ev'
  refine ⟨p, r', L, A, H, c2, LX_p hx hI, c4, fun K hK => ?_⟩
  refine mj_X_mono hX (fun a b hab => ?_)
  obtain ⟨e1, e2⟩ := hab
  rw [e1, e2]
  exact ⟨hSH, Or.inl ⟨_, ev, hK _ _ c1 c3⟩⟩
/-- a text that is none -/
theorem ow_tplE (hs : LQ s) (h : LC s ρ G) (ht : t < 10) {e : Nat} (hc : rw_C (ls_w s) (ls_n s) (.inr e)) : ∀ d (K : Int32 ⊕ Nat → mj_G → Prop), 1200 ≤ d → (∀ ρ' G', LC s ρ' G' → yF G G' → K (.inr 15) G') → Tq_template d (nI t) G K := fun d K hd hK => by
  have hG := hh_n h.1
  have hn := hs.2.1.1
  have he80 : ∀ {r G'}, rw_X (ls_w s) (ls_n s) (nI t) G (.inr e) r G' → e ≤ ls_n s ∧ mj_i G' (mj_n G) 5 = nI e := fun X => X
  obtain ⟨d, rfl⟩ : ∃ y, d = y + 1 := ⟨d - 1, by omega⟩
  refine iv_cI (iv_hb h.1.2.2.1) ?_
  show Tq_template (d + 1) (nI t) G (fun r G' => iv_J (mj_u G) G' → K r G')
  refine w_Tq_template h.1.1 (by omega) ?_
  rw [z_lt (by omega) (by decide), z_lt (by omega) (by decide)]
  refine z_bf (by omega) (z_bt ht ?_)
  rintro _ rfl
  rw [show mj_i (mj_al G 8 6 (fun _ => 0)) 3 1 = nI (ls_n s) from (z_iAn (by omega)).trans h.2.2.2.2.2.1.1]
  refine c_Rd_init h.1.1 (by omega) ⟨rk_k.1, hc d G (nI t) _ (by omega) h.1.1 hs.2.1 h.2.2.2.2.2.1.2 (fun r G' s1 F1 rx n1 u1 X => ⟨rx.1.2.1, ?_⟩)⟩
  rw [(he80 X).2]
  have := (he80 X).1
  refine z_bf (z_n1 (by omega)) (fun hJ => ?_)
  have F2 : fn_F G (mj_al G' 16 6 (fun _ => 0)) := fn_A F1
  have n2 : mj_n (mj_al G' 16 6 (fun _ => 0)) = mj_n G' + 1 := rfl
  have u2 : mj_u (mj_al G' 16 6 (fun _ => 0)) = mj_u G' + 6 := rfl
  exact hK ρ _ (LC_ext h F2 (cs_al s1) (iv_end hJ (by omega)) ro_r) (yR_F (yR_ext (c := 168) (e := 1955) h F2 (by omega) (by omega)) (by decide) (by decide))
/-- where the fault of a text is -/
theorem ow_end {G : mj_G} {w : Nat → Nat} {n e : Nat} (hS : cs_S G) (hW : tx_W w n) (h4 : ∀ k, k < n → mj_i G 4 k = nI (w k)) (hc : rw_C w n (.inr e)) : e ≤ n := by
  have h0 : Rd_readBody (8 * n + 100) (mj_n G) (nI 0) (Int32.ofInt (-1)) (nI 0) (rk_G G (nI n) (nI 0)) (fun _ _ => e ≤ n) := hc _ G (nI 0) _ (Nat.le_refl _) hS hW h4 (fun r G' _ _ _ _ _ X => X.1)
  obtain ⟨o, G', hQ, -⟩ := mj_X_det h0
  obtain ⟨v, -, -, hk⟩ := hQ
  exact hk
end G03
