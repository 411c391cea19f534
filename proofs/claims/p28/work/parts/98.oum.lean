/-! RENDERING: values put out by the model; forms by both -/
section OM
variable {Gm : mj_G} {f : mm_F} {d s k : Nat} {v : rv} {o : ost}
theorem p_puts0 {a b c : Int32} {K : mm_F → Prop} (hM : mm_S Gm) (hd : 15 ≤ d) (h : ¬ f 1714 70 = nI 0) (hK : K f) : m_puts Gm (d + 1) a b c f K := w_m_puts hM (by omega) (z_bf h hK)
/-- one character, in the one case and the other -/
theorem p_pute {c z : Nat} {K : mm_F → Prop} (hM : mm_S Gm) (ho : oM f o) (h70 : f 1714 70 = nI 0) (hd : 15 ≤ d) (hz : z < 2 ^ 31) (h1 : 32 ≤ c ∧ c ≤ 126) (e1 : z % 128 = c) (e2 : z / 262144 = s) (e3 : oc_b z = false) (hg : gz (o_x o (o_n o)) z) (hA : o_n o = 300 → ∀ f', mw no_R oS oR f f' → oM f' o → f' 1714 70 = Int32.ofInt (-10) → K f') (hB : ¬ o_n o = 300 → ∀ f', mw no_R oS oR f f' → oM f' (o_p o z) → f' 1714 70 = nI 0 → K f') : m_puts Gm (d + 1) (nI c) (nI s) (nI 0) f K := by
  refine p_put (b := false) (z := z) hM ho h70 hd hz h1 e1 e2 e3 hg (fun f1 F1 o1 y1 => ?_)
  unfold o_t at o1 y1
  by_cases q : o_n o = 300
  · rw [if_pos q] at o1 y1
    exact hA q f1 F1 o1 y1
  · rw [if_neg q] at o1 y1
    exact hB q f1 F1 o1 y1
/-- what follows -/
def jQ (P : Nat → Prop) (f : mm_F) (r : Int32 × ost) (K : mm_F → Prop) : Prop := ∀ f', mw P oS oR f f' → oM f' r.2 → f' 1714 70 = r.1 → K f'
theorem jQ_t {P : Nat → Prop} {f1 : mm_F} {r : Int32 × ost} {K : mm_F → Prop} (h : jQ P f r K) (F : mw P oS oR f f1) : jQ P f1 r K := fun f' F' o' e' => h f' (mw_t F F') o' e'
theorem oS_mw {P : Nat → Prop} {f' : mm_F} (F : mw no_R oS oR f f') : mw P oS oR f f' := mw_m F (fun _ q => q.elim) (fun _ q => q) (fun _ q => q)
/-- a character escaped -/
theorem p_e1 {c x z m j : Nat} {K KK : mm_F → Prop} (hM : mm_S Gm) (ho : oM f o) (h70 : f 1714 70 = nI 0) (hd : 15 ≤ d) (hs : s < 8000) (hc : 32 ≤ c ∧ c ≤ 126) (hj : j < 4) (hz : z = es_h x c j) (hx0 : o_x o (o_n o) = x) (hA : o_n o = 300 → ∀ f', mw no_R oS oR f f' → oM f' o → f' 1714 70 = Int32.ofInt (-10) → KK f') (hB : ∀ f', mw no_R oS oR f f' → oM f' (o_p o (oc_E (es_h x c j) c j s)) → f' 1714 70 = nI 0 → jQ no_R f' (o_e1 s c x m (j + 1) (o_p o (oc_E (es_h x c j) c j s))) K → KK f') (hK : jQ no_R f (o_e1 s c x (m + 1) j o) K) : m_puts Gm (d + 1) (nI z) (nI s) (nI 0) f KK := by
  have hb := es_hb (x := x) (j := j) hc
  obtain ⟨e1, e2⟩ := oc_E31 (o := c) (p := j) hb (by omega) hj hs
  obtain ⟨e3, e4, e5⟩ := oc_Ec (s := s) (c := es_h x c j) (o := c) (p := j) (by omega) (by omega) hj
  subst hz
  refine p_pute (z := oc_E (es_h x c j) c j s) hM ho h70 hd e1 hb e3 e4 e5 (by rw [hx0]; exact gz_E (by omega) (by omega) hj) hA (fun q f1 F1 o1 y1 => hB f1 F1 o1 y1 ?_)
  have e : o_e1 s c x (m + 1) j o = o_e1 s c x m (j + 1) (o_p o (oc_E (es_h x c j) c j s)) := by show (if o_n o = 300 then _ else _) = _; rw [if_neg q]
  rw [e] at hK
  exact jQ_t hK F1
theorem o_e1F {c x m j : Nat} (h : o_n o = 300) : o_e1 s c x (m + 1) j o = (Int32.ofInt (-10), o) := by show (if o_n o = 300 then _ else _) = _; rw [if_pos h]
theorem p_three {c x : Nat} {K : mm_F → Prop} (hM : mm_S Gm) (ho : oM f o) (h70 : f 1714 70 = nI 0) (hd : 15 ≤ d) (hs : s < 8000) (hc : 32 ≤ c ∧ c ≤ 126) (hx : x = 0 ∨ x = 3 ∨ x = 5) (ht : es_t c ≠ 0) (hx0 : o_x o (o_n o) = x) (hK : jQ no_R f (o_e1 s c x 3 0 o) K) : m_putsThree Gm (d + 2) (nI (es_t c)) (nI s) f K := by
  have n10 : ¬ Int32.ofInt (-10) = nI 0 := by decide
  have e0 : es_h x c 0 = 38 := by unfold es_h; rw [if_neg (by omega), if_pos ⟨hx, ht⟩, if_pos rfl]
  have e1 : es_h x c 1 = es_t c := by unfold es_h; rw [if_neg (by omega), if_pos ⟨hx, ht⟩, if_neg (by decide), if_pos rfl]
  have e2 : es_h x c 2 = 59 := by unfold es_h; rw [if_neg (by omega), if_pos ⟨hx, ht⟩, if_neg (by decide), if_neg (by decide)]
  refine w_m_putsThree hM (p_e1 (c := c) (x := x) (m := 2) (j := 0) (K := K) hM ho h70 hd hs hc (by decide) e0.symm hx0 (fun q f1 F1 o1 y1 => ?_) (fun f1 F1 o1 y1 k1 => ?_) hK)
  · rw [o_e1F q] at hK
    exact p_puts0 hM hd (by rw [y1]; exact n10) (p_puts0 hM hd (by rw [y1]; exact n10) (hK f1 F1 o1 y1))
  · refine p_e1 (c := c) (x := x) (m := 1) (j := 1) (K := K) hM o1 y1 hd hs hc (by decide) e1.symm (es_px hx0 hx ht hc (by decide)) (fun q f2 F2 o2 y2 => ?_) (fun f2 F2 o2 y2 k2 => ?_) k1
    · have k1' := k1
      rw [show (0 + 1) = 1 from rfl, o_e1F (m := 1) (j := 1) q] at k1'
      exact p_puts0 hM hd (by rw [y2]; exact n10) (k1' f2 F2 o2 y2)
    · refine p_e1 (c := c) (x := x) (m := 0) (j := 2) (K := K) hM o2 y2 hd hs hc (by decide) e2.symm (es_px (es_px hx0 hx ht hc (by decide)) hx ht hc (by decide)) (fun q f3 F3 o3 y3 => ?_) (fun f3 F3 o3 y3 k3 => k3 f3 mw_r o3 y3) k2
      have k2' := k2
      rw [show (1 + 1) = 2 from rfl, o_e1F (m := 0) (j := 2) q] at k2'
      exact k2' f3 F3 o3 y3
theorem p_escapes {c : Nat} {K : mm_F → Prop} (hM : mm_S Gm) (ho : oM f o) (h70 : f 1714 70 = nI 0) (hd : 15 ≤ d) (hs : s < 8000) (hc : 32 ≤ c ∧ c ≤ 126) (hK : jQ no_R f (o_e1 s c (o_x o (o_n o)) (es_k (o_x o (o_n o)) c) 0 o) K) : m_escapes Gm (d + 3) (nI c) (nI s) f K := by
  have k1 := ho.1
  have hno := k1.1
  have x8 := o_x8 k1 (Nat.le_refl _)
  have ex := ho.2.2.2.2 _ (Nat.le_refl _)
  have tt := (es_f x8 (show c < 128 by omega)).2.2
  generalize hx0 : o_x o (o_n o) = x at x8 ex hK tt
  have one : es_k x c = 1 → ∀ z d, 15 ≤ d → z = es_h x c 0 → m_puts Gm (d + 1) (nI z) (nI s) (nI 0) f (fun f5 => K f5) := fun e z d hd hz => by
    rw [e] at hK
    refine p_e1 (c := c) (x := x) (m := 0) (j := 0) (K := K) hM ho h70 hd hs hc (by decide) hz hx0 (fun q f1 F1 o1 y1 => ?_) (fun f1 F1 o1 y1 k1 => k1 f1 mw_r o1 y1) hK
    rw [o_e1F q] at hK
    exact hK f1 F1 o1 y1
  have none : es_k x c = 0 → K f := fun e => by
    rw [e] at hK
    exact hK f mw_r ho h70
  have e24 : x = 0 ∨ x = 3 ∨ x = 5 → m_escapes_24 Gm (d + 3) (nI c) (nI s) f K := fun hx => by
    have ek : es_k x c = if es_t c = 0 then 1 else 3 := by unfold es_k; rw [if_pos hx]
    have thr : es_t c ≠ 0 → ∀ t, t = es_t c → m_putsThree Gm (d + 2) (nI t) (nI s) f (fun f23 => K f23) := fun ht t e => by
      rw [e]
      rw [ek, if_neg ht] at hK
      exact p_three hM ho h70 hd hs hc hx ht hx0 hK
    refine w_m_escapes_24 hM ?_
    rw [z_eq (by omega) (by decide), z_eq (by omega) (by decide), z_eq (by omega) (by decide), z_eq (by omega) (by decide)]
    refine z_br (fun q => ?_) (fun q => z_br (fun q1 => ?_) (fun q1 => z_br (fun q2 => ?_) (fun q2 => z_br (fun q3 => ?_) (fun q3 => ?_))))
    · have e : es_t c = 108 := by rw [q]; rfl
      exact thr (by omega) 108 e.symm
    · have e : es_t c = 103 := by rw [q1]; rfl
      exact thr (by omega) 103 e.symm
    · have e : es_t c = 97 := by rw [q2]; rfl
      exact thr (by omega) 97 e.symm
    · have e : es_t c = 113 := by rw [q3]; rfl
      exact thr (by omega) 113 e.symm
    · have e : es_t c = 0 := by unfold es_t; rw [if_neg q3, if_neg q2, if_neg q, if_neg q1]
      refine one (by rw [ek, if_pos e]) c (d + 1) (by omega) ?_
      unfold es_h
      rw [if_neg (by omega), if_neg (fun r => r.2 e)]
  refine w_m_escapes hM (by omega) ?_
  rw [ho.2.1]
  refine z_ixi (by omega) (by decide) ?_
  rw [ex, z_eq (by omega) (by decide), z_eq (by omega) (by decide), z_eq (by omega) (by decide), z_eq (by omega) (by decide), z_eq (by omega) (by decide), z_eq (by omega) (by decide), z_eq (by omega) (by decide), z_eq (by omega) (by decide), tt]
  refine z_br (fun q => e24 (Or.inl q)) (fun q => z_br (fun q1 => e24 (Or.inr (Or.inl q1))) (fun q1 => z_br (fun q2 => e24 (Or.inr (Or.inr q2))) (fun q2 => z_br (fun q7 => ?_) (fun q7 => z_br (fun q8 => none ?_) (fun q8 => z_br (fun q9 => one ?_ c (d + 1) (by omega) ?_) (fun q9 => none ?_))))))
  · have ek : es_k x c = 1 := by unfold es_k; rw [if_neg (by omega), if_pos q7]
    have eh : es_h x c 0 = if c = 39 ∨ c = 92 ∨ c = 60 then 95 else c := by unfold es_h; rw [if_pos q7]
    refine z_br (fun r => one ek 95 (d + 1) (by omega) (by rw [eh, if_pos (by omega)])) (fun r => z_br (fun r1 => one ek 95 (d + 1) (by omega) (by rw [eh, if_pos (by omega)])) (fun r1 => z_br (fun r2 => one ek 95 (d + 1) (by omega) (by rw [eh, if_pos (by omega)])) (fun r2 => one ek c (d + 1) (by omega) (by rw [eh, if_neg (by omega)]))))
  · unfold es_k; rw [if_neg (by omega), if_neg q7, if_pos q8]
  · unfold es_k; rw [if_neg (by omega), if_neg q7, if_neg q8, if_pos q9]
  · unfold es_h; rw [if_neg q7, if_neg (by omega)]
  · unfold es_k; rw [if_neg (by omega), if_neg q7, if_neg q8, if_neg q9]
/-- a text put out, from the i-th character on -/
theorem p_txt86 {K : mm_F → Prop} (hM : mm_S Gm) (hk : k < 380) (hd : 15 ≤ d) (hs : s < 8000) (ov : rv_ok v) (tv : rv_t v = 2) : ∀ {m i : Nat} {f : mm_F} {o : ost}, i + m = rv_l v → mv f k v → oM f o → f 1714 70 = nI 0 → jQ no_R f (if rv_s v = true then o_sf s (rv_c v) m i o else o_es s (rv_c v) m i o) K → m_putsValue_86 Gm (d + 4) (nI k) (nI s) (nI i) f K
  | 0, i, f, o, hi, hv, ho, h70, hK => by
    obtain ⟨hn, hc⟩ := ov.2.2.2.1 tv
    refine w_m_putsValue_86 hM (z_ixi hk (by decide) ?_)
    rw [hv.2.1, z_le (by omega) (by omega)]
    refine z_bt (by omega) ?_
    by_cases q : rv_s v = true
    · rw [if_pos q] at hK
      exact hK f mw_r ho h70
    · rw [if_neg q] at hK
      exact hK f mw_r ho h70
  | m + 1, i, f, o, hi, hv, ho, h70, hK => by
    obtain ⟨hn, hc⟩ := ov.2.2.2.1 tv
    have hci := hc i (by omega)
    have n10 : ¬ Int32.ofInt (-10) = nI 0 := by decide
    -- the end where nothing has room any more
    have bad : ∀ f1 e, mv f1 k v → f1 1714 70 = e → ¬ e = nI 0 → K f1 → m_putsValue_86 Gm (d + 4) (nI k) (nI s) (nI i + nI 1) f1 K := fun f1 e w1 y1 h0 hk1 => by
      refine w_m_putsValue_86 hM (z_ixi hk (by decide) (z_br (fun _ => hk1) (fun _ => ?_)))
      rw [y1]
      exact z_bf h0 hk1
    have st : ∀ f1, mw no_R oS oR f f1 → mv f1 k v := fun f1 F1 => mq_st hv F1 (fun q => q) ov
    refine w_m_putsValue_86 hM (z_ixi hk (by decide) ?_)
    rw [hv.2.1, z_le (by omega) (by omega)]
    refine z_bf (by omega) (z_bt h70 ?_)
    rw [z_mul, z_add]
    refine z_ixi (by omega) (by decide) (z_ixi hk (by decide) ?_)
    rw [hv.2.2.1, hv.2.2.2.2.2 tv i (by omega)]
    cases hsv : rv_s v with
    | false =>
      rw [if_neg (by rw [hsv]; decide)] at hK
      refine z_bt rfl (p_escapes hM ho h70 (by omega) hs hci (fun f1 F1 o1 y1 => ?_))
      by_cases q : (o_e1 s (rv_c v i) (o_x o (o_n o)) (es_k (o_x o (o_n o)) (rv_c v i)) 0 o).1 = nI 0
      · have e : o_es s (rv_c v) (m + 1) i o = o_es s (rv_c v) m (i + 1) (o_e1 s (rv_c v i) (o_x o (o_n o)) (es_k (o_x o (o_n o)) (rv_c v i)) 0 o).2 := by
          show (if _ then _ else _) = _
          rw [if_pos q]
        rw [e] at hK
        rw [z_add]
        exact p_txt86 hM hk hd hs ov tv (m := m) (i := i + 1) (by omega) (st f1 F1) o1 (y1.trans q) (by rw [if_neg (by rw [hsv]; decide)]; exact jQ_t hK F1)
      · have e : o_es s (rv_c v) (m + 1) i o = o_e1 s (rv_c v i) (o_x o (o_n o)) (es_k (o_x o (o_n o)) (rv_c v i)) 0 o := by
          show (if _ then _ else _) = _
          rw [if_neg q]
        rw [e] at hK
        exact bad f1 _ (st f1 F1) y1 q (hK f1 F1 o1 y1)
    | true =>
      rw [if_pos hsv] at hK
      obtain ⟨e1, e2⟩ := oc_S31 hci hs
      obtain ⟨e3, e4, e5⟩ := oc_Sc (c := rv_c v i) (s := s) (by omega)
      refine z_bf (by decide) (p_pute (z := oc_S (rv_c v i) s) (d := d + 2) hM ho h70 (by omega) e1 hci e3 e4 e5 (gz_S (by omega)) (fun q f1 F1 o1 y1 => ?_) (fun q f1 F1 o1 y1 => ?_))
      · have e6 : o_sf s (rv_c v) (m + 1) i o = (Int32.ofInt (-10), o) := by show (if o_n o = 300 then _ else _) = _; rw [if_pos q]
        rw [e6] at hK
        exact bad f1 _ (st f1 F1) y1 n10 (hK f1 F1 o1 y1)
      · have e6 : o_sf s (rv_c v) (m + 1) i o = o_sf s (rv_c v) m (i + 1) (o_p o (oc_S (rv_c v i) s)) := by show (if o_n o = 300 then _ else _) = _; rw [if_neg q]
        rw [e6] at hK
        rw [z_add]
        exact p_txt86 hM hk hd hs ov tv (m := m) (i := i + 1) (by omega) (st f1 F1) o1 y1 (by rw [if_pos hsv]; exact jQ_t hK F1)
/-- a text put out -/
theorem p_putsText {K : mm_F → Prop} (hM : mm_S Gm) (hk : k < 380) (hd : 15 ≤ d) (hs : s < 8000) (ov : rv_ok v) (tv : rv_t v = 2) (hv : mv f k v) (ho : oM f o) (h70 : f 1714 70 = nI 0) (hK : jQ no_R f (o_v s v o) K) : m_putsValue Gm (d + 4) (nI k) (nI s) f K := by
  have e : o_v s v o = if rv_s v = true then o_sf s (rv_c v) (rv_l v) 0 o else o_es s (rv_c v) (rv_l v) 0 o := by unfold o_v; rw [if_neg (by omega), if_neg (by omega), if_neg (by omega)]
  rw [e] at hK
  refine w_m_putsValue hM (z_ixi hk (by decide) ?_)
  rw [hv.1, z_eq (by omega) (by decide)]
  refine z_bf (by omega) (z_ixi hk (by decide) ?_)
  rw [hv.1, z_eq (by omega) (by decide)]
  refine z_bf (by omega) (z_ixi hk (by decide) ?_)
  rw [hv.1, z_eq (by omega) (by decide)]
  exact z_bf (by omega) (p_txt86 hM hk hd hs ov tv (m := rv_l v) (i := 0) (by omega) hv ho h70 hK)
/-- any value put out -/
theorem p_putsValue {K : mm_F → Prop} (hM : mm_S Gm) (hk : k < 380) (hd : 15 ≤ d) (hs : s < 8000) (ov : rv_ok v) (hv : mv f k v) (ho : oM f o) (h70 : f 1714 70 = nI 0) (hK : jQ (fun j => j = k) f (o_v s v o) K) : m_putsValue Gm (d + 4) (nI k) (nI s) f K := by
  have tv := ov.1
  have bad : ∀ y, o_v s v o = (y, o) → K (mj_u2 f 1714 70 y) := fun y e => by
    rw [e] at hK
    exact hK _ (mw_S (Or.inr (Or.inr rfl))) ⟨ho.1, (z_u2m (by decide)).trans ho.2.1, (z_u2m (by decide)).trans ho.2.2.1, fun i hi => (z_u2n (by decide)).trans (ho.2.2.2.1 i hi), fun i hi => (z_u2n (by decide)).trans (ho.2.2.2.2 i hi)⟩ z_u2s
  by_cases t2 : rv_t v = 2
  · exact p_putsText hM hk hd hs ov t2 hv ho h70 (fun f1 F1 o1 y1 => hK f1 (oS_mw F1) o1 y1)
  refine w_m_putsValue hM (z_ixi hk (by decide) ?_)
  rw [hv.1, z_eq (by omega) (by decide)]
  refine z_br (fun q => z_ixi hk (by decide) ?_) (fun q => z_ixi hk (by decide) ?_)
  · rw [hv.1, z_eq (by omega) (by decide)]
    refine z_bt q (bad _ ?_)
    unfold o_v; rw [if_pos q]
  · rw [hv.1, z_eq (by omega) (by decide)]
    refine z_br (fun q1 => z_ixi hk (by decide) ?_) (fun q1 => z_ixi hk (by decide) ?_)
    · rw [hv.1, z_eq (by omega) (by decide)]
      refine z_bf q (bad _ ?_)
      unfold o_v; rw [if_neg q, if_pos q1]
    · rw [hv.1, z_eq (by omega) (by decide)]
      have t1 : rv_t v = 1 := by omega
      have hdl := dg_ll (rv_n v)
      refine z_bt t1 (z_ixi hk (by decide) (z_ixi hk (by decide) (z_ixi hk (by decide) (z_ixi hk (by decide) ?_))))
      rw [hv.2.2.2.1 t1]
      have F0 : mw (fun j => j = k) no_R no_R f (mj_u2 (mj_u2 (mj_u2 f 1728 k (nI 2)) 1731 k (nI 1)) 1730 k (nI 0)) := mw_t (mw_P (by decide) rfl) (mw_t (mw_P (by decide) rfl) (mw_P (by decide) rfl))
      have w0 : mv (mj_u2 (mj_u2 (mj_u2 f 1728 k (nI 2)) 1731 k (nI 1)) 1730 k (nI 0)) k (rv_T 0 (fun _ => 0) true) := ⟨(z_u2n (by decide)).trans ((z_u2n (by decide)).trans z_u2s), z_u2s, (z_u2n (by decide)).trans z_u2s, fun r => absurd r (by show ¬ 2 = 1; omega), fun r => absurd r (by show ¬ 2 = 3; omega), fun r j hj => absurd hj (Nat.not_lt_zero j)⟩
      generalize mj_u2 (mj_u2 (mj_u2 f 1728 k (nI 2)) 1731 k (nI 1)) 1730 k (nI 0) = f0 at F0 w0 ⊢
      have mo : ∀ {P S : Nat → Prop} {f1 f2 : mm_F}, mw P S no_R f1 f2 → ¬ S 61 → ¬ S 62 → oM f1 o → oM f2 o := fun F a b h => ⟨h.1, (F.2.1 61 a).trans h.2.1, (F.2.1 62 b).trans h.2.2.1, fun i hi => (F.1 1759 i (by decide) (by decide) (fun q => q)).trans (h.2.2.2.1 i hi), fun i hi => (F.1 1760 i (by decide) (by decide) (fun q => q)).trans (h.2.2.2.2 i hi)⟩
      refine p_addsDigits (d := d + 2) hM hk (Nat.zero_le _) w0 ((F0.2.1 70 (fun q => q)).trans h70) (fun b f1 F1 w1 => ?_) (fun b => absurd b (by omega))
      have w1' : mv f1 k (rv_T (dg_l (rv_n v)) (dg_c (rv_n v)) true) := by
        rw [Nat.zero_add] at w1
        exact mq_cg w1 (fun j hj => by
          unfold rv_ap
          rw [if_neg (Nat.not_lt_zero j), Nat.sub_zero])
      have e : o_v s v o = o_sf s (dg_c (rv_n v)) (dg_l (rv_n v)) 0 o := by unfold o_v; rw [if_neg q, if_neg q1, if_pos t1]
      rw [e] at hK
      have F01 := mw_t F0 F1
      refine p_txt86 (v := rv_T (dg_l (rv_n v)) (dg_c (rv_n v)) true) hM hk hd hs (rv_okT (by omega) (fun j _ => dg_cb _ _)) rfl (m := dg_l (rv_n v)) (i := 0) (Nat.zero_add _) w1' (mo F01 (fun q => q) (fun q => q) ho) ((F01.2.1 70 (fun q => q)).trans h70) (fun f2 F2 o2 y2 => hK f2 (mw_t (mw_m F01 (fun _ q => q) (fun _ q => q.elim) (fun _ q => q.elim)) (oS_mw F2)) o2 y2)
end OM
