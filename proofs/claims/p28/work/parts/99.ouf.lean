/-! RENDERING: forms of messages put out; blanks at the end trimmed -/
/-- a form with a number in it -/
def o_fm (s : Nat) (c : Nat → Nat) (x : Int32) : Nat → Nat → ost → Int32 × ost
  | 0, _, o => (nI 0, o)
  | m + 1, i, o => if c i = 35 then (if (o_sf s (dg_c x) (dg_l x) 0 o).1 = nI 0 then o_fm s c x m (i + 1) (o_sf s (dg_c x) (dg_l x) 0 o).2 else o_sf s (dg_c x) (dg_l x) 0 o) else (if o_n o = 300 then (Int32.ofInt (-10), o) else o_fm s c x m (i + 1) (o_p o (oc_S (c i) s)))
section OF
variable {ρ : Nat → Nat} {D : Nat → rv} {I : Nat → Nat → rv} {G Gm : mj_G} {f : mm_F} {d s k : Nat} {v : rv} {o : ost} {x : Int32}
theorem c_form14 {a : Nat} {K : Int32 → mj_G → Prop} (hd : 16 ≤ d) (hs : s < 8000) (tv : rv_t v = 2) : ∀ {m i : Nat} {G : mj_G} {o : ost}, i + m = rv_l v → hh ρ D I G → o_cv ρ G a v → o_rw ρ G 1593 (dg_l x) (dg_c x) → oC G o → jO ρ D I G (o_fm s (rv_c v) x m i o) K → Ou_putForm_14 (d + 3) a (nI s) (nI (dg_l x)) (nI i) G K
  | 0, i, G, o, hi, h, ha, hr, ho, hK => by
    obtain ⟨hn, hc⟩ := ha.2.2.2.2.2.2.1 tv
    obtain ⟨b1, -⟩ := ha.2.2.1.2.2.2.2.1 tv
    refine w_Ou_putForm_14 h.1 (by omega) ⟨ha.2.2.1.1, ?_⟩
    rw [b1, z_le (by omega) (by omega)]
    exact z_bt (by omega) (hK G h fw_r oX_r (fun _ => rfl) ho)
  | m + 1, i, G, o, hi, h, ha, hr, ho, hK => by
    obtain ⟨hn, hc⟩ := ha.2.2.2.2.2.2.1 tv
    obtain ⟨b1, b2, b3, b4, b5, b6, b7, b8⟩ := ha.2.2.1.2.2.2.2.1 tv
    have hci := hc i (by omega)
    have hdl := dg_ll x
    refine w_Ou_putForm_14 h.1 (by omega) ⟨ha.2.2.1.1, ?_⟩
    rw [b1, z_le (by omega) (by omega)]
    refine z_bf (by omega) ⟨b6, z_ixg (by omega) (by omega) ?_⟩
    rw [b8 i (by omega), z_eq (by omega) (by decide)]
    refine z_br (fun q => ?_) (fun q => ?_)
    · refine c_putSafe (d := d) hd hs (by omega) (fun j _ => dg_cb _ _) h hr ho (fun G1 g1 F1 x1 y1 o1 => z_br (fun q1 => ?_) (fun q1 => ?_))
      · have e : o_fm s (rv_c v) x (m + 1) i o = o_fm s (rv_c v) x m (i + 1) (o_sf s (dg_c x) (dg_l x) 0 o).2 := by
          show (if _ then (if _ then _ else _) else _) = _
          rw [if_pos q, if_pos q1]
        rw [e] at hK
        rw [z_add]
        exact c_form14 hd hs tv (m := m) (i := i + 1) (by omega) g1 (o_cvf h F1 ha) (o_rwf hr F1 y1) o1 (jO_t hK F1 x1 y1)
      · have e : o_fm s (rv_c v) x (m + 1) i o = o_sf s (dg_c x) (dg_l x) 0 o := by
          show (if _ then (if _ then _ else _) else _) = _
          rw [if_pos q, if_neg q1]
        rw [e] at hK
        exact hK G1 g1 F1 x1 y1 o1
    · obtain ⟨e1, e2⟩ := oc_S31 hci hs
      rw [q_38 (by omega) hs]
      refine c_put (d := d + 1) h ho (by omega) e1 e2 (gz_S (by omega)) (fun G1 g1 F1 x1 y1 o1 => ?_)
      by_cases q1 : o_n o = 300
      · have e : o_t o (oc_S (rv_c v i) s) = (Int32.ofInt (-10), o) := by unfold o_t; rw [if_pos q1]
        have e3 : o_fm s (rv_c v) x (m + 1) i o = (Int32.ofInt (-10), o) := by
          show (if _ then _ else (if _ then _ else _)) = _
          rw [if_neg q, if_pos q1]
        rw [e] at o1 ⊢
        rw [e3] at hK
        exact z_bf (show ¬ Int32.ofInt (-10) = nI 0 by decide) (hK G1 g1 F1 x1 y1 o1)
      · have e : o_t o (oc_S (rv_c v i) s) = (nI 0, o_p o (oc_S (rv_c v i) s)) := by unfold o_t; rw [if_neg q1]
        have e3 : o_fm s (rv_c v) x (m + 1) i o = o_fm s (rv_c v) x m (i + 1) (o_p o (oc_S (rv_c v i) s)) := by
          show (if _ then _ else (if _ then _ else _)) = _
          rw [if_neg q, if_neg q1]
        rw [e] at o1 ⊢
        rw [e3] at hK
        rw [z_add]
        exact z_bt rfl (c_form14 hd hs tv (m := m) (i := i + 1) (by omega) g1 (o_cvf h F1 ha) (o_rwf hr F1 y1) o1 (jO_t hK F1 x1 y1))
theorem c_putForm {a : Nat} {K : Int32 → mj_G → Prop} (hd : 18 ≤ d) (hs : s < 8000) (tv : rv_t v = 2) (h : hh ρ D I G) (ha : o_cv ρ G a v) (ho : oC G o) (hK : ∀ G', hh ρ D I G' → fw ρ oW G G' → oX G G' → oC G' (o_fm s (rv_c v) x (rv_l v) 0 o).2 → K (o_fm s (rv_c v) x (rv_l v) 0 o).1 G') : Ou_putForm (d + 3) a x (nI s) G K := by
  have hdl := dg_ll x
  refine w_Ou_putForm h.1 (c_writeDigits h (by decide) (by unfold imm; rw [ow_s (by decide)]; unfold im_o; omega) (cs_k h.1 rfl) (by rw [cs_l (N := 12) h.1 rfl]; omega) (by rw [cs_l (N := 12) h.1 rfl]; decide) (fun G1 h1 F1 i1 j1 => ?_))
  have F1' : fw ρ oW G G1 := fw_m F1 (fun a q => by rw [q, ow_s (by decide)]; unfold oW; decide)
  have hne : ∀ a, a < 1768 → a ≠ 1593 → (∀ j, mj_r G1 a j = mj_r G a j) ∧ ∀ j, mj_i G1 a j = mj_i G a j := fun a h1 h2 => (F1.2.2.2 a (by have := hh_n h; omega)).2.2 (fun q => h2 (by rw [ow_s h1, ow_s (by decide)] at q; exact q))
  have x1 : oX G G1 := ⟨fun j => (hne 1589 (by decide) (by decide)).1 j, (hne 1589 (by decide) (by decide)).2 3, fun a j q _ => (hne a (by omega) (by omega)).2 j⟩
  obtain ⟨k1, k2, k3, k4, k5, k6⟩ := ho
  have o1 : oC G1 o := by
    refine ⟨k1, by rw [x1.1 0]; exact k2, ((hne 1589 (by decide) (by decide)).2 1).trans k3, ((hne 1589 (by decide) (by decide)).2 5).trans k4, fun i hi => ?_, fun i hi => ((hne 1592 (by decide) (by decide)).2 i).trans (k6 i hi)⟩
    rw [x1.1 0]
    exact ((hne _ (by omega) (by omega)).2 i).trans (k5 i hi)
  rw [Nat.zero_add]
  exact c_form14 (by omega) hs tv (m := rv_l v) (i := 0) (by omega) h1 (o_cvf h F1' ha) ⟨by have := hh_n h1; omega, Or.inl rfl, cs_k h1.1 rfl, by rw [cs_l (N := 12) h1.1 rfl]; omega, fun j hj => (by have := j1 j hj; rw [Nat.zero_add] at this; exact this)⟩ o1 (fun G2 h2 F2 x2 _ o2 => hK G2 h2 (fw_t F1' ro_r F2) (oX_t x1 x2) o2)
/-- the model's forms -/
def mfo (f : mm_F) (F : Nat → rv) : Prop := ∀ j, j < 20 → rv_ok (F j) ∧ rv_t (F j) = 2 ∧ rv_l (F j) ≤ 80 ∧ f 1719 j = nI (rv_l (F j)) ∧ ∀ i, i < rv_l (F j) → f 1718 (80 * j + i) = nI (rv_c (F j) i)
theorem mfo_f {P S R : Nat → Prop} {F : Nat → rv} {f' : mm_F} (h : mfo f F) (hF : mw P S R f f') (hR : ¬ R 1718 ∧ ¬ R 1719) : mfo f' F := fun j hj => by
  obtain ⟨h1, h2, h3, h4, h5⟩ := h j hj
  exact ⟨h1, h2, h3, (hF.1 1719 j (by decide) (by decide) hR.2).trans h4, fun i hi => (hF.1 1718 _ (by decide) (by decide) hR.1).trans (h5 i hi)⟩
theorem p_msg60 {F : Nat → rv} {j : Nat} {K : mm_F → Prop} (hM : mm_S Gm) (hk : k < 380) (hd : 15 ≤ d) (hs : s < 8000) (hj : j < 20) : ∀ {m i : Nat} {f : mm_F} {o : ost}, i + m = rv_l (F j) → mfo f F → mv f k (rv_T (dg_l x) (dg_c x) true) → oM f o → f 1714 70 = nI 0 → jQ no_R f (o_fm s (rv_c (F j)) x m i o) K → m_putsMessage_60 Gm (d + 5) (nI s) (nI j) (nI k) (nI i) f K
  | 0, i, f, o, hi, hF, hv, ho, h70, hK => by
    obtain ⟨h1, h2, h3, h4, h5⟩ := hF j hj
    refine w_m_putsMessage_60 hM (z_ixi hj (by decide) ?_)
    rw [h4, z_le (by omega) (by omega)]
    exact z_bt (by omega) (hK f mw_r ho h70)
  | m + 1, i, f, o, hi, hF, hv, ho, h70, hK => by
    obtain ⟨h1, h2, h3, h4, h5⟩ := hF j hj
    have hdl := dg_ll x
    have hci := (h1.2.2.2.1 h2).2 i (by omega)
    have n10 : ¬ Int32.ofInt (-10) = nI 0 := by decide
    have okT : rv_ok (rv_T (dg_l x) (dg_c x) true) := rv_okT (by omega) (fun j _ => dg_cb _ _)
    have bad : ∀ f1 e, f1 1714 70 = e → ¬ e = nI 0 → K f1 → m_putsMessage_60 Gm (d + 5) (nI s) (nI j) (nI k) (nI i + nI 1) f1 K := fun f1 e y1 h0 hk1 => by
      refine w_m_putsMessage_60 hM (z_ixi hj (by decide) (z_br (fun _ => hk1) (fun _ => ?_)))
      rw [y1]
      exact z_bf h0 hk1
    refine w_m_putsMessage_60 hM (z_ixi hj (by decide) ?_)
    rw [h4, z_le (by omega) (by omega)]
    refine z_bf (by omega) (z_bt h70 ?_)
    rw [z_mul, z_add]
    refine z_ixi (by omega) (by decide) ?_
    rw [h5 i (by omega), z_eq (by omega) (by decide)]
    refine z_br (fun q => ?_) (fun q => z_ixi (by omega) (by decide) ?_)
    · have eo : o_v s (rv_T (dg_l x) (dg_c x) true) o = o_sf s (dg_c x) (dg_l x) 0 o := by
        unfold o_v
        rw [if_neg (by show ¬ 2 = 0; omega), if_neg (by show ¬ 2 = 3; omega), if_neg (by show ¬ 2 = 1; omega)]
        exact if_pos rfl
      refine p_putsText (v := rv_T (dg_l x) (dg_c x) true) hM hk hd hs okT rfl hv ho h70 (fun f1 F1 o1 y1 => ?_)
      rw [eo] at o1 y1
      by_cases q1 : (o_sf s (dg_c x) (dg_l x) 0 o).1 = nI 0
      · have e : o_fm s (rv_c (F j)) x (m + 1) i o = o_fm s (rv_c (F j)) x m (i + 1) (o_sf s (dg_c x) (dg_l x) 0 o).2 := by
          show (if _ then (if _ then _ else _) else _) = _
          rw [if_pos q, if_pos q1]
        rw [e] at hK
        rw [z_add]
        exact p_msg60 hM hk hd hs hj (m := m) (i := i + 1) (by omega) (mfo_f hF F1 (by unfold oR; decide)) (mq_st hv F1 (fun q => q) okT) o1 (y1.trans q1) (jQ_t hK F1)
      · have e : o_fm s (rv_c (F j)) x (m + 1) i o = o_sf s (dg_c x) (dg_l x) 0 o := by
          show (if _ then (if _ then _ else _) else _) = _
          rw [if_pos q, if_neg q1]
        rw [e] at hK
        exact bad f1 _ y1 q1 (hK f1 F1 o1 y1)
    · rw [h5 i (by omega)]
      obtain ⟨e1, e2⟩ := oc_S31 hci hs
      obtain ⟨e3, e4, e5⟩ := oc_Sc (c := rv_c (F j) i) (s := s) (by omega)
      refine p_pute (z := oc_S (rv_c (F j) i) s) (d := d + 3) hM ho h70 (by omega) e1 hci e3 e4 e5 (gz_S (by omega)) (fun q1 f1 F1 o1 y1 => ?_) (fun q1 f1 F1 o1 y1 => ?_)
      · have e6 : o_fm s (rv_c (F j)) x (m + 1) i o = (Int32.ofInt (-10), o) := by
          show (if _ then _ else (if _ then _ else _)) = _
          rw [if_neg q, if_pos q1]
        rw [e6] at hK
        exact bad f1 _ y1 n10 (hK f1 F1 o1 y1)
      · have e6 : o_fm s (rv_c (F j)) x (m + 1) i o = o_fm s (rv_c (F j)) x m (i + 1) (o_p o (oc_S (rv_c (F j) i) s)) := by
          show (if _ then _ else (if _ then _ else _)) = _
          rw [if_neg q, if_neg q1]
        rw [e6] at hK
        rw [z_add]
        exact p_msg60 hM hk hd hs hj (m := m) (i := i + 1) (by omega) (mfo_f hF F1 (by unfold oR; decide)) (mq_st hv F1 (fun q => q) okT) o1 y1 (jQ_t hK F1)
/-- a message put out -/
def o_mg (F : Nat → rv) (s g : Nat) (v : rv) (o : ost) : Int32 × ost := if rv_t v = 1 then o_fm s (rv_c (F (2 * g + (if rv_n v = nI 1 then 0 else 1)))) (rv_n v) (rv_l (F (2 * g + (if rv_n v = nI 1 then 0 else 1)))) 0 o else (Int32.ofInt (-3), o)
def oS1 (j : Nat) : Prop := oS j ∨ j = 21
theorem p_putsMessage {F : Nat → rv} {fr g : Nat} {K : mm_F → Prop} (hM : mm_S Gm) (hk : k < 380) (hfr : fr < 380) (hne : k ≠ fr) (hd : 15 ≤ d) (hs : s < 8000) (hg : g < 10) (hF : mfo f F) (ov : rv_ok v) (hv : mv f k v) (h21 : f 1714 21 = nI fr) (ho : oM f o) (h70 : f 1714 70 = nI 0)
    (hK : ∀ f', mw (fun j => j = fr) oS1 oR f f' → oM f' (o_mg F s g v o).2 → f' 1714 70 = (o_mg F s g v o).1 → K f') : m_putsMessage Gm (d + 5) (nI g) (nI k) (nI s) f K := by
  have tv := ov.1
  refine w_m_putsMessage hM (z_ixi hk (by decide) ?_)
  rw [hv.1, z_eq (by omega) (by decide)]
  refine z_br (fun q => z_ixi hk (by decide) ?_) (fun q => ?_)
  · have hvn : f 1729 k = rv_n v := hv.2.2.2.1 q
    rw [hvn]
    have mo : ∀ {P S : Nat → Prop} {f1 f2 : mm_F}, mw P S no_R f1 f2 → ¬ S 61 → ¬ S 62 → oM f1 o → oM f2 o := fun F a b h => ⟨h.1, (F.2.1 61 a).trans h.2.1, (F.2.1 62 b).trans h.2.2.1, fun i hi => (F.1 1759 i (by decide) (by decide) (fun q => q)).trans (h.2.2.2.1 i hi), fun i hi => (F.1 1760 i (by decide) (by decide) (fun q => q)).trans (h.2.2.2.2 i hi)⟩
    have go : ∀ u j, u ≤ 1 → j = 2 * g + u → u = (if rv_n v = nI 1 then 0 else 1) → m_takesPlace Gm (d + 4) (nI 2) f (fun v8 f7 => mm_ix (nI k) 380 (fun n9 => m_addsDigits Gm (d + 4) v8 (f7 1729 n9) f7 (fun f10 => m_putsMessage_60 Gm (d + 5) (nI s) ((nI 2 * nI g) + (nI u)) v8 (nI 0) f10 K))) := fun u j hu hj hu2 => by
      have e : o_mg F s g v o = o_fm s (rv_c (F j)) (rv_n v) (rv_l (F j)) 0 o := by unfold o_mg; rw [if_pos q, ← hu2, ← hj]
      rw [e] at hK
      have hdl := dg_ll (rv_n v)
      refine p_takesPlace hM h21 hfr (fun f1 F1 e21 e1 e2 e3 e4 => z_ixi hk (by decide) ?_)
      rw [(F1.2.2.1 1729 k (by decide) (by decide) hne).trans hvn]
      have w1 : mv f1 fr (rv_T 0 (fun _ => 0) true) := ⟨e1, e3, e4, fun r => absurd r (by show ¬ 2 = 1; omega), fun r => absurd r (by show ¬ 2 = 3; omega), fun r j hj => absurd hj (Nat.not_lt_zero j)⟩
      refine p_addsDigits (d := d + 3) hM hfr (Nat.zero_le _) w1 ((F1.2.1 70 (by decide)).trans h70) (fun b f2 F2 w2 => ?_) (fun b => absurd b (by omega))
      have w2' : mv f2 fr (rv_T (dg_l (rv_n v)) (dg_c (rv_n v)) true) := by
        rw [Nat.zero_add] at w2
        exact mq_cg w2 (fun j hj => by
          unfold rv_ap
          rw [if_neg (Nat.not_lt_zero j), Nat.sub_zero])
      rw [z_mul, z_add, ← hj]
      refine p_msg60 hM hfr hd hs (by omega) (m := rv_l (F j)) (i := 0) (Nat.zero_add _) (mfo_f (mfo_f hF F1 (by unfold no_R; decide)) F2 (by unfold no_R; decide)) w2' (mo F2 (fun q => q) (fun q => q) (mo F1 (by decide) (by decide) ho)) ((F2.2.1 70 (fun q => q)).trans ((F1.2.1 70 (by decide)).trans h70)) (fun f3 F3 o3 y3 => hK f3 ?_ o3 y3)
      exact mw_t (mw_m F1 (fun _ q => q) (fun _ q => Or.inr q) (fun _ q => q.elim)) (mw_t (mw_m F2 (fun _ q => q) (fun _ q => q.elim) (fun _ q => q.elim)) (mw_m F3 (fun _ q => q.elim) (fun _ q => Or.inl q) (fun _ q => q)))
    exact z_br (fun q1 => go 0 _ (by decide) rfl (by rw [if_pos q1])) (fun q1 => go 1 _ (by decide) rfl (by rw [if_neg q1]))
  · have e : o_mg F s g v o = (Int32.ofInt (-3), o) := by unfold o_mg; rw [if_neg q]
    rw [e] at hK
    exact hK _ (mw_S (Or.inl (Or.inr (Or.inr rfl)))) ⟨ho.1, (z_u2m (by decide)).trans ho.2.1, (z_u2m (by decide)).trans ho.2.2.1, fun i hi => (z_u2n (by decide)).trans (ho.2.2.2.1 i hi), fun i hi => (z_u2n (by decide)).trans (ho.2.2.2.2 i hi)⟩ z_u2s
end OF
