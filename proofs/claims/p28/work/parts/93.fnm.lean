/-! RENDERING: expressions found: what they may be, and the model's leaves -/
/-- the data, as such -/
def da (D : Nat → rv) (I : Nat → Nat → rv) : Prop := ∀ l, l < 26 → rv_ok (D l) ∧ (rv_t (D l) = 3 → rv_d (D l) = l ∧ ∀ k, k < rv_l (D l) → rv_ok (I l k) ∧ (rv_t (I l k) = 1 ∨ (rv_t (I l k) = 2 ∧ rv_s (I l k) = false ∧ rv_l (I l k) ≤ 40)))
theorem da_md {f : mm_F} {D : Nat → rv} {I : Nat → Nat → rv} (h : md f D I) : da D I := fun l hl => by
  obtain ⟨h0, -, -, -, -, h5⟩ := h l hl
  exact ⟨h0, fun q => ⟨(h5 q).1, fun k hk => ⟨((h5 q).2 k hk).1, ((h5 q).2 k hk).2.2.1⟩⟩⟩
section DA
variable {D : Nat → rv} {I : Nat → Nat → rv} {v w : rv} {c k : Nat}
theorem jn_cb {l : Nat} : ∀ {k : Nat}, (∀ i, i < k → rv_ok (I l i) ∧ (rv_t (I l i) = 1 ∨ rv_t (I l i) = 2)) → ∀ j, j < (jn I l k).1 → 32 ≤ (jn I l k).2.1 j ∧ (jn I l k).2.1 j ≤ 126
  | 0, _, j, hj => absurd hj (Nat.not_lt_zero j)
  | k + 1, h, j, hj => by
    have ih := jn_cb (k := k) (fun i hi => h i (by omega))
    have e : jn I l (k + 1) = jn_i (jn_c k (jn I l k)) (I l k) := rfl
    have hc : ∀ j, j < (jn_c k (jn I l k)).1 → 32 ≤ (jn_c k (jn I l k)).2.1 j ∧ (jn_c k (jn I l k)).2.1 j ≤ 126 := fun j hj => by
      unfold jn_c at hj ⊢
      by_cases q : k = 0
      · rw [if_pos q] at hj ⊢
        exact ih j hj
      · rw [if_neg q] at hj ⊢
        show 32 ≤ rv_ap (jn I l k).1 (jn I l k).2.1 (fun _ => 44) j ∧ rv_ap (jn I l k).1 (jn I l k).2.1 (fun _ => 44) j ≤ 126
        by_cases q2 : j < (jn I l k).1
        · rw [rv_ap1 q2]; exact ih j q2
        · unfold rv_ap; rw [if_neg q2]; show 32 ≤ 44 ∧ 44 ≤ 126; decide
    rw [e] at hj ⊢
    unfold jn_i at hj ⊢
    obtain ⟨ho, ht⟩ := h k (by omega)
    by_cases q : rv_t (I l k) = 1
    · rw [if_pos q] at hj ⊢
      show 32 ≤ rv_ap (jn_c k (jn I l k)).1 (jn_c k (jn I l k)).2.1 (dg_c (rv_n (I l k))) j ∧ rv_ap (jn_c k (jn I l k)).1 (jn_c k (jn I l k)).2.1 (dg_c (rv_n (I l k))) j ≤ 126
      by_cases q2 : j < (jn_c k (jn I l k)).1
      · rw [rv_ap1 q2]; exact hc j q2
      · unfold rv_ap; rw [if_neg q2]; exact dg_cb _ _
    · rw [if_neg q] at hj ⊢
      have hj' : j < (jn_c k (jn I l k)).1 + rv_l (I l k) := hj
      show 32 ≤ rv_ap (jn_c k (jn I l k)).1 (jn_c k (jn I l k)).2.1 (rv_c (I l k)) j ∧ rv_ap (jn_c k (jn I l k)).1 (jn_c k (jn I l k)).2.1 (rv_c (I l k)) j ≤ 126
      by_cases q2 : j < (jn_c k (jn I l k)).1
      · rw [rv_ap1 q2]; exact hc j q2
      · unfold rv_ap; rw [if_neg q2]; exact (ho.2.2.2.1 (by omega)).2 _ (by omega)
theorem rv_fi_in (hD : da D I) (hv : rv_in D v) (h0 : (rv_fi I c v).1 = nI 0) : rv_in D (rv_fi I c v).2 := by
  have n3 : ¬ Int32.ofInt (-3) = nI 0 := by decide
  have n10 : ¬ Int32.ofInt (-10) = nI 0 := by decide
  unfold rv_fi at h0 ⊢
  by_cases c1 : c = 106
  · rw [if_pos c1] at h0 ⊢
    by_cases t3 : rv_t v = 3
    · rw [if_pos t3] at h0 ⊢
      by_cases b : (jn I (rv_d v) (rv_l v)).1 ≤ 300
      · rw [if_pos b]
        obtain ⟨e1, e2⟩ := hv.2 t3
        refine rv_inT b (jn_cb (fun i hi => ?_))
        obtain ⟨g1, g2⟩ := ((hD _ (hv.1.2.2.2.2 t3).2).2 e1).2 i (by omega)
        exact ⟨g1, by omega⟩
      · rw [if_neg b] at h0
        exact absurd h0 n10
    · rw [if_neg t3] at h0
      exact absurd h0 n3
  · rw [if_neg c1] at h0 ⊢
    by_cases c2 : c = 108
    · rw [if_pos c2] at h0 ⊢
      by_cases t : 2 ≤ rv_t v
      · rw [if_pos t]; exact rv_inN
      · rw [if_neg t] at h0
        exact absurd h0 n3
    · rw [if_neg c2] at h0 ⊢
      by_cases t2 : rv_t v = 2
      · obtain ⟨b1, b2⟩ := hv.1.2.2.2.1 t2
        rw [if_pos t2] at h0 ⊢
        by_cases c3 : c = 117
        · rw [if_pos c3]
          refine rv_inT b1 (fun j hj => ?_)
          have := b2 j hj
          unfold rv_u
          by_cases q : 97 ≤ rv_c v j ∧ rv_c v j ≤ 122
          · rw [if_pos q]; omega
          · rw [if_neg q]; omega
        · rw [if_neg c3] at h0 ⊢
          by_cases c4 : c = 114
          · rw [if_pos c4]; exact rv_inT b1 b2
          · rw [if_neg c4]
            unfold rv_rd
            by_cases q : (rv_rn v).1 = true
            · rw [if_pos q]; exact rv_inN
            · rw [if_neg q]; exact rv_in0
      · rw [if_neg t2] at h0
        exact absurd h0 n3
theorem rv_op_in (hv : rv_in D v) (hw : rv_in D w) (h0 : (rv_op I c v w).1 = nI 0) : rv_in D (rv_op I c v w).2 := by
  have n3 : ¬ Int32.ofInt (-3) = nI 0 := by decide
  have n5 : ¬ Int32.ofInt (-5) = nI 0 := by decide
  have n10 : ¬ Int32.ofInt (-10) = nI 0 := by decide
  unfold rv_op at h0 ⊢
  by_cases c1 : c = 38
  · rw [if_pos c1]; exact rv_inN
  rw [if_neg c1] at h0 ⊢
  by_cases c2 : c = 61
  · rw [if_pos c2]; exact rv_inN
  rw [if_neg c2] at h0 ⊢
  by_cases t1 : rv_t v = 1 ∧ rv_t w = 1
  · rw [if_pos t1] at h0 ⊢
    by_cases c3 : c = 60
    · rw [if_pos c3]; exact rv_inN
    · rw [if_neg c3] at h0 ⊢
      by_cases q : lg_cmp (rv_ar c (rv_n v) (rv_n w)) (rv_ar c (rv_n v) (rv_n w)).toInt32.toInt64 = nI 0
      · rw [if_pos q]; exact rv_inN
      · rw [if_neg q] at h0
        exact absurd h0 n5
  · rw [if_neg t1] at h0 ⊢
    by_cases t2 : rv_t v = 2 ∧ rv_t w = 2
    · rw [if_pos t2] at h0 ⊢
      by_cases c3 : c = 43
      · rw [if_pos c3] at h0 ⊢
        by_cases q : rv_l v + rv_l w ≤ 300
        · rw [if_pos q]
          refine rv_inT q (fun j hj => ?_)
          unfold rv_ap
          by_cases q2 : j < rv_l v
          · rw [if_pos q2]; exact (hv.1.2.2.2.1 t2.1).2 j q2
          · rw [if_neg q2]; exact (hw.1.2.2.2.1 t2.2).2 _ (by omega)
        · rw [if_neg q] at h0
          exact absurd h0 n10
      · rw [if_neg c3] at h0 ⊢
        by_cases c4 : c = 60
        · rw [if_pos c4]; exact rv_inN
        · rw [if_neg c4] at h0
          exact absurd h0 n3
    · rw [if_neg t2] at h0
      exact absurd h0 n3
theorem rv_it_in (hD : da D I) (hv : rv_in D v) (h0 : (rv_it I v k).1 = nI 0) : rv_in D (rv_it I v k).2 := by
  have n3 : ¬ Int32.ofInt (-3) = nI 0 := by decide
  have n4 : ¬ Int32.ofInt (-4) = nI 0 := by decide
  unfold rv_it at h0 ⊢
  by_cases t3 : rv_t v = 3
  · rw [if_pos t3] at h0 ⊢
    by_cases q : k < rv_l v
    · rw [if_pos q]
      obtain ⟨e1, e2⟩ := hv.2 t3
      obtain ⟨g1, g2⟩ := ((hD _ (hv.1.2.2.2.2 t3).2).2 e1).2 k (by omega)
      exact ⟨g1, fun r => by
        have r' : rv_t (I (rv_d v) k) = 3 := r
        omega⟩
    · rw [if_neg q] at h0
      exact absurd h0 n4
  · rw [if_neg t3] at h0
    exact absurd h0 n3
end DA
/-! the model while it finds -/
def zS (j : Nat) : Prop := j = 21 ∨ j = 23 ∨ j = 70
def mz (fr : Nat) (f f' : mm_F) : Prop := mw (fun k => fr ≤ k) zS R_n f f'
def fm (t : Nat) (w : Nat → Nat) (n : Nat) (D : Nat → rv) (I : Nat → Nat → rv) (N : Nat) (B : Nat → Nat) (V : Nat → Nat → Option rv) (M : Nat) (S : Nat → Nat) (x : Nat) (ra rd : Nat → Int32) (fr p : Nat) (f : mm_F) : Prop := mr_T f t w n ∧ md f D I ∧ me f D N B V ∧ mn f N M S ra rd ∧ f 1714 27 = sh x ∧ f 1714 70 = nI 0 ∧ f 1714 21 = nI fr ∧ f 1714 23 = nI p
/-- what follows: a value at a place, or why it fails -/
def jM (t : Nat) (w : Nat → Nat) (n : Nat) (D : Nat → rv) (I : Nat → Nat → rv) (N : Nat) (B : Nat → Nat) (V : Nat → Nat → Option rv) (M : Nat) (S : Nat → Nat) (x fr q : Nat) (e : Int32) (v : rv) (ra rd : Nat → Int32) (f : mm_F) (K : Int32 → mm_F → Prop) : Prop := (e = nI 0 → ∀ f', mz fr f f' → fm t w n D I N B V M S x ra rd (fr + 1) q f' → mv f' fr v → K (nI fr) f') ∧
  (¬ e = nI 0 → ∀ f' k m pp, mz fr f f' → fr ≤ k → k < 380 → m ≤ 300 → f' 1730 k = nI m → mj_b (f' 1731 k) → pp ≤ q → f' 1714 23 = nI pp → mn f' N M S ra rd → f' 1714 70 = e → K (nI k) f')
section FM
variable {Gm : mj_G} {t n N M x fr p q d : Nat} {w : Nat → Nat} {D : Nat → rv} {I : Nat → Nat → rv} {B S : Nat → Nat} {V : Nat → Nat → Option rv} {ra rd ra' rd' : Nat → Int32} {f f' : mm_F} {e : Int32} {v : rv}
theorem mz_r : mz fr f f := mw_r
theorem mz_t {f1 : mm_F} (h1 : mz fr f f1) (h2 : mz fr f1 f') : mz fr f f' := mw_t h1 h2
theorem mz_u {a : Nat} (h : mz a f f') (ha : fr ≤ a) : mz fr f f' := mw_m h (fun k q => Nat.le_trans ha q) (fun _ q => q) (fun _ q => q)
theorem mz_o {P S R : Nat → Prop} (h : mw P S R f f') (hP : ∀ k, P k → fr ≤ k) (hS : ∀ j, S j → zS j) (hR : ∀ a, R a → R_n a) : mz fr f f' := mw_m h hP hS hR
theorem mz_k {k : Nat} (h : mw (fun j => j = k) no_R no_R f f') (hk : fr ≤ k) : mz fr f f' := mz_o h (fun j q => by rw [q]; exact hk) (fun _ q => q.elim) (fun _ q => q.elim)
theorem mz_S {j : Nat} {y : Int32} (h : zS j) : mz fr f (mj_u2 f 1714 j y) := mw_S h
/-- the state after a step -/
theorem fm_z (h : fm t w n D I N B V M S x ra rd fr p f) {a : Nat} (hF : mz a f f') (ha : 320 ≤ a) (hn : mn f' N M S ra' rd') (h70 : f' 1714 70 = nI 0) {fr' q : Nat} (h21 : f' 1714 21 = nI fr') (h23 : f' 1714 23 = nI q) : fm t w n D I N B V M S x ra' rd' fr' q f' := by
  obtain ⟨h1, h2, h3, h4, h5, h6, h7, h8⟩ := h
  have nz : ∀ j, j ≠ 21 → j ≠ 23 → j ≠ 70 → ¬ zS j := fun j a b c q => by unfold zS at q; omega
  have nr : ∀ a, a ≠ 1746 → a ≠ 1747 → ¬ R_n a := fun a b c q => by unfold R_n at q; omega
  refine ⟨⟨mt_o h1.1 (fun k => hF.1 _ k (by decide) (by decide) (nr _ (by decide) (by decide))) (fun k => hF.1 _ k (by decide) (by decide) (nr _ (by decide) (by decide))), (hF.2.1 22 (nz _ (by decide) (by decide) (by decide))).trans h1.2⟩, mq_md h2 hF (fun a q => by unfold R_n at q; omega), me_f h3 hF (fun i q => Nat.le_trans ha q) (nz _ (by decide) (by decide) (by decide)) (fun a q => by unfold R_n at q; omega), hn, (hF.2.1 27 (nz _ (by decide) (by decide) (by decide))).trans h5, h70, h21, h23⟩
/-- notes stay where they are not written -/
theorem mn_o {P S' : Nat → Prop} (h : mn f N M S ra rd) (hF : mw P S' no_R f f') (h44 : ¬ S' 44) : mn f' N M S ra rd := by
  obtain ⟨h1, h2, h3⟩ := h
  have e : ∀ a i, a = 1745 ∨ a = 1746 ∨ a = 1747 → f' a i = f a i := fun a i q => hF.1 a i (by omega) (by omega) (fun q => q)
  refine ⟨h1, (hF.2.1 44 h44).trans h2, fun k hk => ?_⟩
  obtain ⟨g1, g2, g3, g4⟩ := h3 k hk
  exact ⟨g1, (e _ _ (by decide)).trans g2, (e _ _ (by decide)).trans g3, (e _ _ (by decide)).trans g4⟩
/-- a step within a place -/
theorem fm_k {k : Nat} (h : fm t w n D I N B V M S x ra rd fr p f) (hF : mw (fun j => j = k) no_R no_R f f') (hk : 320 ≤ k) : fm t w n D I N B V M S x ra rd fr p f' := by
  refine fm_z (a := k) h (mz_k hF (Nat.le_refl _)) hk (mn_o h.2.2.2.1 hF (fun q => q)) ((hF.2.1 70 (fun q => q)).trans h.2.2.2.2.2.1) ((hF.2.1 21 (fun q => q)).trans h.2.2.2.2.2.2.1) ((hF.2.1 23 (fun q => q)).trans h.2.2.2.2.2.2.2)
/-- another place in the text -/
theorem fm_p {q : Nat} (h : fm t w n D I N B V M S x ra rd fr p f) : fm t w n D I N B V M S x ra rd fr q (mj_u2 f 1714 23 (nI q)) :=
  fm_z (a := 320) h (mz_S (Or.inr (Or.inl rfl))) (Nat.le_refl _) (mn_o (P := no_R) (S' := fun j => j = 23) h.2.2.2.1 (mw_S rfl) (by decide)) ((z_u2m (by decide)).trans h.2.2.2.2.2.1) ((z_u2m (by decide)).trans h.2.2.2.2.2.2.1) z_u2s
/-- another place that is free -/
theorem fm_r {fr' : Nat} (h : fm t w n D I N B V M S x ra rd fr p f) : fm t w n D I N B V M S x ra rd fr' p (mj_u2 f 1714 21 (nI fr')) :=
  fm_z (a := 320) h (mz_S (Or.inl rfl)) (Nat.le_refl _) (mn_o (P := no_R) (S' := fun j => j = 21) h.2.2.2.1 (mw_S rfl) (by decide)) ((z_u2m (by decide)).trans h.2.2.2.2.2.1) z_u2s ((z_u2m (by decide)).trans h.2.2.2.2.2.2.2)
theorem p_here {K : Int32 → mm_F → Prop} (hM : mm_S Gm) (h : fm t w n D I N B V M S x ra rd fr p f) (hd : 1 ≤ d) (hp : p ≤ 400) (hK : K (tx_nx w n p) f) : m_here Gm d f K := by
  have h1 := c_here (f := f) (p := p) (d := d) (K := K) hM h.1 hd hp
  rw [sp_i h.2.2.2.2.2.2.2] at h1
  exact h1 hK
/-- a place is taken -/
theorem p_place {k : Nat} {K : Int32 → mm_F → Prop} (hM : mm_S Gm) (h : fm t w n D I N B V M S x ra rd fr p f) (hfr : fr < 380) (hf3 : 320 ≤ fr) (hK : ∀ f', mz fr f f' → fm t w n D I N B V M S x ra rd (fr + 1) p f' → f' 1728 fr = nI k → f' 1729 fr = nI 0 → f' 1730 fr = nI 0 → f' 1731 fr = nI 1 → K (nI fr) f') : m_takesPlace Gm d (nI k) f K := by
  refine p_takesPlace hM h.2.2.2.2.2.2.1 hfr (fun f1 F1 e1 e2 e3 e4 e5 => hK f1 ?_ ?_ e2 e3 e4 e5)
  · exact mz_o F1 (fun k q => by rw [q]; exact Nat.le_refl _) (fun j q => Or.inl q) (fun _ q => q.elim)
  · exact fm_z (a := fr) h (mz_o F1 (fun k q => by rw [q]; exact Nat.le_refl _) (fun j q => Or.inl q) (fun _ q => q.elim)) hf3 (mn_o h.2.2.2.1 F1 (by decide)) ((F1.2.1 70 (by decide)).trans h.2.2.2.2.2.1) e1 ((F1.2.1 23 (by decide)).trans h.2.2.2.2.2.2.2)
/-- a numeral -/
theorem p_num8 {m0 : Nat} {K : Int32 → mm_F → Prop} (hM : mm_S Gm) (hW : tx_W w n) (hd : 16 ≤ d) (hfr : fr < 380) (hf3 : 320 ≤ fr) (hq : p + m0 ≤ n) (hm4 : m0 ≤ 4) (hD : ∀ j, p ≤ j → j < p + m0 → tx_D (w j)) (hx : m0 < 4 → ¬ tx_D (w (p + m0)))
    (hK : ∀ f', mz fr f f' → fm t w n D I N B V M S x ra rd (fr + 1) (p + m0) f' → mv f' fr (rv_N (nI (tx_num w p m0))) → K (nI fr) f') :
    ∀ {m i : Nat} {f1 : mm_F}, i + m = m0 → mz fr f f1 → fm t w n D I N B V M S x ra rd (fr + 1) (p + i) f1 → mv f1 fr (rv_N (nI (tx_num w p i))) → m_findsNumber_8 Gm (d + 1) (nI fr) (nI i) f1 K
  | 0, i, f1, hi, F1, h1, v1 => by
    have e : i = m0 := hi
    subst e
    have hn := hW.1
    refine w_m_findsNumber_8 hM (by omega) ?_
    rw [z_le (by decide) (by omega)]
    refine z_br (fun _ => hK f1 F1 h1 v1) (fun q => p_here hM h1 (by omega) (by omega) ?_)
    rw [tx_nxD hW]
    exact z_bf (hx (by omega)) (hK f1 F1 h1 v1)
  | m + 1, i, f1, hi, F1, h1, v1 => by
    have hn := hW.1
    have hc := hD (p + i) (by omega) (by omega)
    have hc' := hc
    unfold tx_D at hc'
    refine w_m_findsNumber_8 hM (by omega) ?_
    rw [z_le (by decide) (by omega)]
    refine z_bf (by omega) (p_here hM h1 (by omega) (by omega) ?_)
    rw [tx_nxD hW]
    refine z_bt hc (z_ixi hfr (by decide) (p_here hM h1 (by omega) (by omega) (z_ixi hfr (by decide) ?_)))
    rw [tx_nxi (by omega), v1.2.2.2.1 rfl, show rv_n (rv_N (nI (tx_num w p i))) = nI (tx_num w p i) from rfl, z_mul, z_add (10 * tx_num w p i), z_sub (by omega), show (mj_u2 f1 1729 fr (nI (10 * tx_num w p i + w (p + i) - 48))) 1714 23 = nI (p + i) from (z_u2n (by decide)).trans h1.2.2.2.2.2.2.2, z_add, z_add]
    have Fk : mw (fun j => j = fr) no_R no_R f1 (mj_u2 f1 1729 fr (nI (10 * tx_num w p i + w (p + i) - 48))) := mw_P (by decide) rfl
    have h2 := fm_p (q := p + (i + 1)) (fm_k h1 Fk hf3)
    refine p_num8 hM hW hd hfr hf3 hq hm4 hD hx hK (m := m) (i := i + 1) (by omega) (mz_t F1 (mz_t (mz_k Fk (Nat.le_refl _)) (mz_S (Or.inr (Or.inl rfl))))) h2 ?_
    refine ⟨(z_u2n (by decide)).trans ((z_u2n (by decide)).trans v1.1), (z_u2n (by decide)).trans ((z_u2n (by decide)).trans v1.2.1), (z_u2n (by decide)).trans ((z_u2n (by decide)).trans v1.2.2.1), fun _ => (z_u2n (by decide)).trans (z_u2s.trans ?_), fun r => absurd r (by show ¬ 1 = 3; omega), fun r => absurd r (by show ¬ 1 = 2; omega)⟩
    show _ = nI (10 * tx_num w p i + (w (p + i) - 48))
    congr 1
    omega
theorem p_findsNumber {m0 : Nat} {K : Int32 → mm_F → Prop} (hM : mm_S Gm) (hW : tx_W w n) (h : fm t w n D I N B V M S x ra rd fr p f) (hd : 16 ≤ d) (hfr : fr < 380) (hf3 : 320 ≤ fr) (hq : p + m0 ≤ n) (hm4 : m0 ≤ 4) (hD : ∀ j, p ≤ j → j < p + m0 → tx_D (w j)) (hx : m0 < 4 → ¬ tx_D (w (p + m0)))
    (hK : ∀ f', mz fr f f' → fm t w n D I N B V M S x ra rd (fr + 1) (p + m0) f' → mv f' fr (rv_N (nI (tx_num w p m0))) → K (nI fr) f') : m_findsNumber Gm (d + 1) f K := by
  refine w_m_findsNumber hM (p_place hM h hfr hf3 (fun f1 F1 h1 e1 e2 e3 e4 => ?_))
  exact p_num8 (f := f) hM hW hd hfr hf3 hq hm4 hD hx hK (m := m0) (i := 0) (by omega) F1 h1 ⟨e1, e3, e4, fun _ => e2, fun r => absurd r (by show ¬ 1 = 3; omega), fun r => absurd r (by show ¬ 1 = 2; omega)⟩
/-- a text between quotes -/
theorem p_txt16 {K : Int32 → mm_F → Prop} (hM : mm_S Gm) (hW : tx_W w n) (hd : 1 ≤ d) (hfr : fr < 380) (hf3 : 320 ≤ fr) (hq : q ≤ n) (hpq : p + 2 ≤ q) (he : w (q - 1) = 39) (hQ : ∀ j, p < j → j < q - 1 → tx_Q (w j))
    (hK : ∀ f', mz fr f f' → fm t w n D I N B V M S x ra rd (fr + 1) q f' → mv f' fr (rv_T (q - p - 2) (fun j => w (p + 1 + j)) true) → K (nI fr) f') :
    ∀ {m i : Nat} {f1 : mm_F}, i + m = q - p - 2 → mz fr f f1 → fm t w n D I N B V M S x ra rd (fr + 1) (p + 1 + i) f1 → mv f1 fr (rv_T i (fun j => w (p + 1 + j)) true) → m_findsText_16 Gm (d + 1) (nI fr) f1 K
  | 0, i, f1, hi, F1, h1, v1 => by
    have e : i = q - p - 2 := hi
    have hn := hW.1
    refine w_m_findsText_16 hM (p_here hM h1 (by omega) (by omega) ?_)
    rw [tx_nxe hW (by decide), h1.2.2.2.2.2.2.2, z_add]
    refine z_bt (by rw [show p + 1 + i = q - 1 by omega]; exact he) (hK _ (mz_t F1 (mz_S (Or.inr (Or.inl rfl)))) ?_ ?_)
    · rw [show p + 1 + i + 1 = q by omega]
      exact fm_p h1
    · rw [← e]
      exact ⟨(z_u2n (by decide)).trans v1.1, (z_u2n (by decide)).trans v1.2.1, (z_u2n (by decide)).trans v1.2.2.1, fun r => absurd r (by show ¬ 2 = 1; omega), fun r => absurd r (by show ¬ 2 = 3; omega), fun r j hj => (z_u2n (by decide)).trans (v1.2.2.2.2.2 r j hj)⟩
  | m + 1, i, f1, hi, F1, h1, v1 => by
    have hn := hW.1
    have hc := hQ (p + 1 + i) (by omega) (by omega)
    refine w_m_findsText_16 hM (p_here hM h1 (by omega) (by omega) ?_)
    rw [tx_nxe hW (by decide)]
    refine z_bf hc.1 (p_here hM h1 (by omega) (by omega) ?_)
    rw [tx_nxi (by omega)]
    refine p_adds hM hfr v1 (by omega) (fun q1 f2 F2 v2 => ?_) (fun q1 => absurd q1 (by omega))
    rw [(F2.2.1 23 (fun q => q)).trans h1.2.2.2.2.2.2.2, z_add]
    have h2 := fm_k h1 F2 hf3
    refine p_txt16 hM hW hd hfr hf3 hq hpq he hQ hK (m := m) (i := i + 1) (by omega) (mz_t F1 (mz_t (mz_k F2 (Nat.le_refl _)) (mz_S (Or.inr (Or.inl rfl))))) (by rw [show p + 1 + (i + 1) = p + 1 + i + 1 by omega]; exact fm_p h2) ?_
    have v3 := mq_cg v2 (e := fun j => w (p + 1 + j)) (fun j hj => by
      unfold rv_ap
      by_cases r : j < i
      · rw [if_pos r]
      · rw [if_neg r, show j = i by omega])
    exact ⟨(z_u2n (by decide)).trans v3.1, (z_u2n (by decide)).trans v3.2.1, (z_u2n (by decide)).trans v3.2.2.1, fun r => absurd r (by show ¬ 2 = 1; omega), fun r => absurd r (by show ¬ 2 = 3; omega), fun r j hj => (z_u2n (by decide)).trans (v3.2.2.2.2.2 r j hj)⟩
theorem p_findsText {K : Int32 → mm_F → Prop} (hM : mm_S Gm) (hW : tx_W w n) (h : fm t w n D I N B V M S x ra rd fr p f) (hd : 1 ≤ d) (hfr : fr < 380) (hf3 : 320 ≤ fr) (hq : q ≤ n) (hpq : p + 2 ≤ q) (he : w (q - 1) = 39) (hQ : ∀ j, p < j → j < q - 1 → tx_Q (w j))
    (hK : ∀ f', mz fr f f' → fm t w n D I N B V M S x ra rd (fr + 1) q f' → mv f' fr (rv_T (q - p - 2) (fun j => w (p + 1 + j)) true) → K (nI fr) f') : m_findsText Gm (d + 1) f K := by
  refine w_m_findsText hM (p_place hM h hfr hf3 (fun f1 F1 h1 e1 e2 e3 e4 => ?_))
  rw [h1.2.2.2.2.2.2.2, z_add]
  exact p_txt16 (f := f) hM hW hd hfr hf3 hq hpq he hQ hK (m := q - p - 2) (i := 0) (by omega) (mz_t F1 (mz_S (Or.inr (Or.inl rfl)))) (fm_p h1) ⟨(z_u2n (by decide)).trans e1, (z_u2n (by decide)).trans e3, (z_u2n (by decide)).trans e4, fun r => absurd r (by show ¬ 2 = 1; omega), fun r => absurd r (by show ¬ 2 = 3; omega), fun r j hj => absurd hj (Nat.not_lt_zero j)⟩
/-- a variable's place is known -/
theorem fm_e (h : fm t w n D I N B V M S x ra rd fr p f) {l k : Nat} (hB : ∀ s, B s ≤ s) (hx : x ≤ N) (hk : e_ok f D B V l x k) : e_fd B V l x x ≠ 0 ∧ e_fd B V l x x ≤ N ∧ ∃ k', k' < 320 ∧ nI k = nI k' ∧ f 1735 k' = nI (e_fd B V l x x - 1) := by
  have := e_fd_le (V := V) (l := l) hB (n := x) (x := x)
  exact ⟨hk.2.1, by omega, k, hk.1, rfl, hk.2.2.1⟩
/-- a variable, or an item of one -/
theorem p_findsVar {l : Nat} {K : Int32 → mm_F → Prop} (hM : mm_S Gm) (hW : tx_W w n) (h : fm t w n D I N B V M S x ra rd fr p f) (hB : ∀ s, B s ≤ s) (hx : x ≤ N) (hd : 16 ≤ d) (hfr : fr < 380) (hf3 : 320 ≤ fr) (hpn : p < n) (hL : tx_L (w p)) (hl : l = w p - 97)
    (h1 : ∀ f', mz fr f f' → fm t w n D I N B V M S x (e_na B M S l x (e_fd B V l x x) ra) (e_nd B M S l x (e_fd B V l x x) rd) (fr + 1) (p + 1) f' → mv f' fr (e_vl D B V l x) → rv_in D (e_vl D B V l x) →
      mm_br (w (p + 1) = 46) (∀ k, w (p + 2) = 48 + k → k ≤ 9 → jM t w n D I N B V M S x fr (p + 3) (rv_it I (e_vl D B V l x) k).1 (rv_it I (e_vl D B V l x) k).2 (e_na B M S l x (e_fd B V l x x) ra) (e_nd B M S l x (e_fd B V l x x) rd) f K ∧ tx_D (w (p + 2))) (K (nI fr) f')) (hD2 : w (p + 1) = 46 → tx_D (w (p + 2))) : m_findsVariable Gm (d + 1) f K := by
  have hn := hW.1
  have h97 := hL.1
  have h122 := hL.2
  have hl26 : l < 26 := by omega
  obtain ⟨d, rfl⟩ : ∃ e, d = e + 2 := ⟨d - 2, by omega⟩
  refine w_m_findsVariable hM (p_place hM h hfr hf3 (fun f1 F1 g1 e1 e2 e3 e4 => p_here hM g1 (by omega) (by omega) ?_))
  rw [tx_nxi hpn, z_sub h97, ← hl, g1.2.2.2.2.1]
  -- what is told, and the value
  have tail : ∀ c, ((e_fd B V l x x = 0 ∧ c = Int32.ofInt (-1)) ∨ (e_fd B V l x x ≠ 0 ∧ e_fd B V l x x ≤ N ∧ ∃ k, k < 320 ∧ c = nI k ∧ f1 1735 k = nI (e_fd B V l x x - 1))) → rv_in D (e_vl D B V l x) → m_notes Gm (d + 2) (sh x) (nI l) c f1 (fun f7 => m_takesFrom Gm (d + 2) (f7 1714 27) (nI l) (nI fr) f7 (fun f8 => m_here Gm (d + 2) (mj_u2 f8 1714 23 ((f8 1714 23) + (nI 1))) (fun v10 f9 => mm_br (v10 = (nI 46)) (m_letter Gm (d + 2) (f9 1714 22) ((f9 1714 23) + (nI 1)) f9 (fun v12 f11 => mm_ix (nI fr) 380 (fun n13 => mm_br (((mj_u2 f11 1714 23 ((f11 1714 23) + (nI 2))) 1728 n13) = (nI 3)) (mm_ix (nI fr) 380 (fun n14 => mm_br ((v12 - (nI 48)) < ((mj_u2 f11 1714 23 ((f11 1714 23) + (nI 2))) 1730 n14)) (mm_br (((mj_u2 (mj_u2 f11 1714 23 ((f11 1714 23) + (nI 2))) 1714 70 (nI 0)) 1714 70) = (nI 0)) (mm_ix (nI fr) 380 (fun n15 => m_takesItem Gm (d + 2) (((nI 8) * ((mj_u2 (mj_u2 f11 1714 23 ((f11 1714 23) + (nI 2))) 1714 70 (nI 0)) 1729 n15)) + (v12 - (nI 48))) (nI fr) (mj_u2 (mj_u2 f11 1714 23 ((f11 1714 23) + (nI 2))) 1714 70 (nI 0)) (fun f16 => K (nI fr) f16))) (K (nI fr) (mj_u2 (mj_u2 f11 1714 23 ((f11 1714 23) + (nI 2))) 1714 70 (nI 0)))) (mm_br (((mj_u2 (mj_u2 f11 1714 23 ((f11 1714 23) + (nI 2))) 1714 70 ((Int32.ofInt (-4)))) 1714 70) = (nI 0)) (mm_ix (nI fr) 380 (fun n18 => m_takesItem Gm (d + 2) (((nI 8) * ((mj_u2 (mj_u2 f11 1714 23 ((f11 1714 23) + (nI 2))) 1714 70 ((Int32.ofInt (-4)))) 1729 n18)) + (v12 - (nI 48))) (nI fr) (mj_u2 (mj_u2 f11 1714 23 ((f11 1714 23) + (nI 2))) 1714 70 ((Int32.ofInt (-4)))) (fun f19 => K (nI fr) f19))) (K (nI fr) (mj_u2 (mj_u2 f11 1714 23 ((f11 1714 23) + (nI 2))) 1714 70 ((Int32.ofInt (-4)))))))) (mm_br (((mj_u2 (mj_u2 f11 1714 23 ((f11 1714 23) + (nI 2))) 1714 70 ((Int32.ofInt (-3)))) 1714 70) = (nI 0)) (mm_ix (nI fr) 380 (fun n22 => m_takesItem Gm (d + 2) (((nI 8) * ((mj_u2 (mj_u2 f11 1714 23 ((f11 1714 23) + (nI 2))) 1714 70 ((Int32.ofInt (-3)))) 1729 n22)) + (v12 - (nI 48))) (nI fr) (mj_u2 (mj_u2 f11 1714 23 ((f11 1714 23) + (nI 2))) 1714 70 ((Int32.ofInt (-3)))) (fun f23 => K (nI fr) f23))) (K (nI fr) (mj_u2 (mj_u2 f11 1714 23 ((f11 1714 23) + (nI 2))) 1714 70 ((Int32.ofInt (-3))))))))) (K (nI fr) f9)))) := fun c hc hvin => by
    refine p_notes hM g1.2.2.1 g1.2.2.2.1 hB hl26 hx hc (fun f2 F2 n2 => ?_)
    have F2z : mz fr f1 f2 := mz_o F2 (fun _ q => q.elim) (fun _ q => q.elim) (fun _ q => q)
    have g2 := fm_z (a := fr) g1 F2z hf3 n2 ((F2.2.1 70 (fun q => q)).trans g1.2.2.2.2.2.1) ((F2.2.1 21 (fun q => q)).trans g1.2.2.2.2.2.2.1) ((F2.2.1 23 (fun q => q)).trans g1.2.2.2.2.2.2.2)
    rw [g2.2.2.2.2.1]
    refine p_takesFrom hM g2.2.1 g2.2.2.1 hB hl26 hx hf3 hfr (fun f3 F3 v3 => ?_)
    have g3 := fm_k g2 F3 hf3
    rw [g3.2.2.2.2.2.2.2, z_add]
    have g4 := fm_p (q := p + 1) g3
    have F4 : mz fr f (mj_u2 f3 1714 23 (nI (p + 1))) := mz_t F1 (mz_t F2z (mz_t (mz_k F3 (Nat.le_refl _)) (mz_S (Or.inr (Or.inl rfl)))))
    have v4 : mv (mj_u2 f3 1714 23 (nI (p + 1))) fr (e_vl D B V l x) := mq_st v3 (P := no_R) (S := fun j => j = 23) (R := no_R) (mw_S rfl) (fun q => q) hvin.1
    generalize mj_u2 f3 1714 23 (nI (p + 1)) = f4 at g4 F4 v4 ⊢
    refine p_here hM g4 (by omega) (by omega) ?_
    rw [tx_nxe hW (by decide)]
    have hh1 := h1 f4 F4 g4 v4 hvin
    refine z_br (fun q46 => ?_) (fun q46 => hh1.2 q46)
    have hD := hD2 q46
    have hD' := hD
    unfold tx_D at hD'
    obtain ⟨hj, -⟩ := hh1.1 q46 (w (p + 2) - 48) (by omega) (by omega)
    rw [g4.1.2, g4.2.2.2.2.2.2.2, z_add]
    have hp2 := tx_in hW (k := p + 2) (by omega)
    refine c_letter hM g4.1.1 (by omega) ?_
    rw [show p + 1 + 1 = p + 2 by omega, tx_nxi hp2, z_sub (by omega)]
    refine z_ixi hfr (by decide) ?_
    have tv := hvin.1.1
    have lb := rv_lb hvin.1
    rw [g4.2.2.2.2.2.2.2, z_add, show p + 1 + 2 = p + 3 by omega]
    have g5 := fm_p (q := p + 3) g4
    have F5 : mz fr f (mj_u2 f4 1714 23 (nI (p + 3))) := mz_t F4 (mz_S (Or.inr (Or.inl rfl)))
    have v5 : mv (mj_u2 f4 1714 23 (nI (p + 3))) fr (e_vl D B V l x) := mq_st v4 (P := no_R) (S := fun j => j = 23) (R := no_R) (mw_S rfl) (fun q => q) hvin.1
    generalize mj_u2 f4 1714 23 (nI (p + 3)) = f5 at g5 F5 v5 ⊢
    have e70 : ∀ y : Int32, mj_u2 f5 1714 70 y 1714 70 = y := fun y => z_u2s
    have g6 : ∀ y, mz fr f (mj_u2 f5 1714 70 y) := fun y => mz_t F5 (mz_S (Or.inr (Or.inr rfl)))
    have bad : ∀ y, (rv_it I (e_vl D B V l x) (w (p + 2) - 48)).1 = y → ¬ y = nI 0 → K (nI fr) (mj_u2 f5 1714 70 y) := fun y hy hy0 => by
      refine hj.2 (by rw [hy]; exact hy0) _ fr (rv_l (e_vl D B V l x)) (p + 3) (g6 y) (Nat.le_refl _) hfr lb ((z_u2n (by decide)).trans v5.2.1) (by rw [show mj_u2 f5 1714 70 y 1731 fr = f5 1731 fr from z_u2n (by decide), v5.2.2.1]; exact bI_b _) (Nat.le_refl _) ((z_u2m (by decide)).trans g5.2.2.2.2.2.2.2) (mn_o (P := no_R) (S' := fun j => j = 70) g5.2.2.2.1 (mw_S rfl) (by decide)) (by rw [hy]; exact e70 y)
    rw [v5.1, e70, e70, e70, z_eq (by omega) (by decide)]
    refine z_br (fun t3 => z_ixi hfr (by decide) ?_) (fun t3 => z_bf (by decide) (bad _ ?_ (by decide)))
    · rw [v5.2.1, z_lt (by omega) (by omega)]
      refine z_br (fun q => z_bt rfl (z_ixi hfr (by decide) ?_)) (fun q => z_bf (by decide) (bad _ ?_ (by decide)))
      · have e : rv_it I (e_vl D B V l x) (w (p + 2) - 48) = (nI 0, I (rv_d (e_vl D B V l x)) (w (p + 2) - 48)) := by unfold rv_it; rw [if_pos t3, if_pos q]
        rw [e] at hj
        obtain ⟨d1, d2⟩ := hvin.2 t3
        have d3 := (hvin.1.2.2.2.2 t3).2
        have g7 : fm t w n D I N B V M S x (e_na B M S l x (e_fd B V l x x) ra) (e_nd B M S l x (e_fd B V l x x) rd) (fr + 1) (p + 3) (mj_u2 f5 1714 70 (nI 0)) := fm_z (a := fr) g5 (mz_S (Or.inr (Or.inr rfl))) hf3 (mn_o (P := no_R) (S' := fun j => j = 70) g5.2.2.2.1 (mw_S rfl) (by decide)) (e70 _) ((z_u2m (by decide)).trans g5.2.2.2.2.2.2.1) ((z_u2m (by decide)).trans g5.2.2.2.2.2.2.2)
        rw [show (mj_u2 f5 1714 70 (nI 0)) 1729 fr = nI (rv_d (e_vl D B V l x)) from (z_u2n (by decide)).trans (v5.2.2.2.2.1 t3), z_mul, z_add]
        refine p_takesItem hM hfr g7.2.1 d3 d1 (by omega) (fun f6 F6 v6 => hj.1 rfl f6 (mz_t (g6 _) (mz_k F6 (Nat.le_refl _))) (fm_k g7 F6 hf3) v6)
      · unfold rv_it; rw [if_pos t3, if_neg q]
    · unfold rv_it; rw [if_neg t3]
  have hvd : e_fd B V l x x = 0 → rv_in D (e_vl D B V l x) := fun q => by
    unfold e_vl
    rw [if_pos q]
    obtain ⟨a1, a2⟩ := da_md g1.2.1 l hl26
    exact ⟨a1, fun r => by
      rw [(a2 r).1]
      exact ⟨r, rfl⟩⟩
  exact p_variableFrom hM g1.2.2.1 hB hl26 hx (fun q => tail _ (Or.inl ⟨q, rfl⟩) (hvd q)) (fun k hk => tail _ (Or.inr (fm_e g1 hB hx hk)) hk.2.2.2.2)
end FM
