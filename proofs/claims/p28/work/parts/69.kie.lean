/-! WHICH KINDS AN EXPRESSION MAY HAVE: all expressions -/
/-- a heap H that has the trees of G, with the kinds of the variables in a row; the model's are the same -/
def kq_C (A : Nat → Prop) (G H : mj_G) (row : Nat) (now : Nat → Nat) : Prop := cs_S H ∧ (∀ a, A a → mj_k H a = mj_k G a ∧ mj_l H a = mj_l G a ∧ (∀ j, mj_r H a j = mj_r G a j) ∧ ∀ j, mj_i H a j = mj_i G a j) ∧ mj_k H row = 20 ∧ mj_l H row = 26 ∧ ∀ i, i < 26 → mj_i H row i = nI (now i)
def km_C (now : Nat → Nat) (f : mm_F) (t : Nat) (w : Nat → Nat) (n : Nat) : Prop := mr_T f t w n ∧ ∀ i, i < 26 → f 1764 i = nI (now i)
section KE
variable {G Gm : mj_G} {f : mm_F} {w : Nat → Nat} {n t : Nat} {A : Nat → Prop}
theorem c_hereK {d p : Nat} {x : Bool} {K : Int32 → mm_F → Prop} (hM : mm_S Gm) (hT : mr_T f t w n) (hd : 1 ≤ d) (hp : p ≤ 400) (h : K (tx_nx w n p) (kf f p x)) : m_here Gm d (kf f p x) K := by
  have h1 := c_here (f := kf f p x) (p := p) (d := d) (K := K) hM (kf_T hT) hd hp (by rw [kf_s]; exact h)
  rw [kf_s] at h1
  exact h1
theorem kv_0 {k : Nat} : nI k = kv k false := rfl
theorem kd_all {now : Nat → Nat} (hM : mm_S Gm) (hW : tx_W w n) (hnow : ∀ i, now i < 16) : ∀ {l r p q pr dep}, tx_E l A G r w p q pr → q ≤ n → dep + (q - p) ≤ 80 → ∃ (kc km : Nat) (b : Bool), kc < 16 ∧ km < 16 ∧ (b = false → kc = km) ∧
    (∀ H row, kq_C A G H row now → ∀ d K, q - p + 20 ≤ d → K (kv kc b) H → Fo_kindsOf d r row (nI dep) H K) ∧
    (∀ f, km_C now f t w n → ∀ d (x : Bool) K, 3 * (q - p) + 30 ≤ d → m_kindsHere_5 Gm (d + 1) (nI km) (kf f q (x || b)) K → m_kindsHere Gm (d + 1) (kf f p x) K) ∧
    (pr = true → ∀ f, km_C now f t w n → ∀ d (x : Bool) K, 3 * (q - p) + 29 ≤ d → K (nI km) (kf f q (x || b)) → m_kindsOfPrimary Gm d (kf f p x) K)
  | 0, _, _, _, _, _, h, _, _ => h.elim
  | l + 1, r, p, q, pr, dep, h, hq, hdep => by
    have hE := h
    have hn := hW.1
    obtain ⟨hlt, -⟩ := tx_E_ch h
    obtain ⟨hA, hr0, hk, h⟩ := h
    have hw := tx_le hW p
    have fH : ∀ H row, kq_C A G H row now → mj_k H r = 1 ∧ (∀ j, mj_r H r j = mj_r G r j) ∧ ∀ j, mj_i H r j = mj_i G r j := fun H row h => by
      obtain ⟨a1, a2, a3, a4⟩ := h.2.1 r hA
      exact ⟨a1.trans hk, a3, a4⟩
    -- the class up to its cases
    have cls : ∀ H row, kq_C A G H row now → ∀ c d K, 18 ≤ d → mj_i G r 0 = nI c → c ≤ 126 → (c = 1 → K (nI 2) H) → (c = 2 → K (nI 4) H) → (c = 3 → ∃ i, i < 26 ∧ mj_i G r 1 = nI i ∧ K (nI (now i)) H) → (c = 4 → ∃ i, i < 26 ∧ mj_i G r 1 = nI i ∧ K (q_2011 (nI 4) (nI (now i))) H) →
        (5 ≤ c → Fo_kindsOf d (mj_r G r 4) row (nI (dep + 1)) H (fun v9 G8 => (mj_k G8 r = 1) ∧ mm_br ((mj_r G8 r 5) = 0) (K ((v9 &&& (nI 16)) ||| (q_2011 (mj_i G8 r 0) (v9 &&& (nI 15)))) G8) (Fo_kindsOf d (mj_r G8 r 5) row (nI (dep + 1)) G8 (fun v12 G11 => (mj_k G11 r = 1) ∧ K (((v9 ||| v12) &&& (nI 16)) ||| (q_2013 (mj_i G11 r 0) (v9 &&& (nI 15)) (v12 &&& (nI 15)))) G11)))) → 1 ≤ c → Fo_kindsOf (d + 1) r row (nI dep) H K := fun H row hH c d K hd h0 hc h1 h2 h3 h4 h5 hc1 => by
      obtain ⟨f1, f2, f3⟩ := fH H row hH
      obtain ⟨s1, -, s3, s4, s5⟩ := hH
      refine w_Fo_kindsOf s1 (by omega) (z_bf hr0 ?_)
      rw [z_lt (by omega) (by omega), z_add, f2 4]
      refine z_bt (by omega) ⟨f1, ?_⟩
      have e : ∀ {x : Nat}, x ≤ 126 → (mj_i H r 0 = nI x) = (c = x) := fun hx => by rw [f3 0, h0, z_eq (by omega) (by omega)]
      rw [e (by decide), e (by decide), e (by decide), e (by decide), f3 1, s4]
      refine z_br h1 (fun _ => z_br h2 (fun _ => z_br (fun q => ⟨s3, ?_⟩) (fun _ => z_br (fun q => ⟨s3, ?_⟩) (fun _ => h5 (by omega)))))
      · obtain ⟨i, i1, i2, i3⟩ := h3 q
        rw [i2]
        refine z_ixi i1 (by decide) ?_
        rw [s5 i i1]
        exact i3
      · obtain ⟨i, i1, i2, i3⟩ := h4 q
        rw [i2]
        refine z_ixi i1 (by decide) ?_
        rw [s5 i i1]
        exact i3
    -- the model up to its cases
    have way : ∀ f, km_C now f t w n → ∀ d (x : Bool) K, 18 ≤ d → (tx_D (w p) ∨ w p = 39 → m_skipsPrimary Gm d (kf f p x) (fun f3 => mm_br (w p = 39) (K (nI 4) f3) (K (nI 2) f3))) → (w p = 33 → m_kindsHere Gm d (kf f (p + 1) x) (fun v22 f21 => mm_br (v22 = (nI 0)) (K (nI 0) f21) (K (nI 2) f21))) →
        (w p = 40 → m_kindsHere Gm d (kf f (p + 1) x) (fun v13 f12 => m_here Gm d f12 (fun v15 f14 => m_kindsHere Gm d (mj_u2 f14 1714 23 ((f14 1714 23) + (nI 1))) (fun v17 f16 => m_kindsOfBoth Gm d v15 v13 v17 (mj_u2 f16 1714 23 ((f16 1714 23) + (nI 1))) (fun v19 f18 => K v19 f18))))) →
        (tx_L (w p) → mm_br (w (p + 1) = 46) (m_only Gm d (f 1764 (w p - 97)) (nI 8) (kf f (p + 3) x) (fun v9 f8 => mm_br ((f 1764 (w p - 97)) = (nI 0)) (K (nI 0) f8) (K (nI 6) f8))) (K (f 1764 (w p - 97)) (kf f (p + 1) x))) → p < n → (tx_D (w p) ∨ w p = 39 ∨ w p = 33 ∨ w p = 40 ∨ tx_L (w p)) → m_kindsOfPrimary Gm (d + 1) (kf f p x) K := fun f hf d x K hd h1 h2 h3 h4 hpn hcase => by
      refine w_m_kindsOfPrimary hM (by omega) (c_hereK hM hf.1 (by omega) (by omega) ?_)
      rw [tx_nxD hW, tx_nxe hW (by decide), tx_nxe hW (by decide), tx_nxe hW (by decide), kf_23, z_add, kf_p]
      refine z_br (fun q => h1 (Or.inl q)) (fun c1 => z_br (fun q => h1 (Or.inr q)) (fun c2 => z_br h2 (fun c3 => z_br h3 (fun c4 => ?_))))
      have hL : tx_L (w p) := by
        rcases hcase with q | q | q | q | q
        · exact absurd q c1
        · exact absurd q c2
        · exact absurd q c3
        · exact absurd q c4
        · exact q
      have h97 := hL.1
      have h122 := hL.2
      rw [tx_nxi hpn, z_sub h97]
      refine z_ixi (by omega) (by decide) (c_hereK hM hf.1 (by omega) (by omega) ?_)
      rw [tx_nxe hW (by decide), kf_n (by decide), kf_23, z_add, kf_p]
      exact h4 hL
    -- a primary one
    have prim : ∀ (kc km : Nat) (b : Bool), kc < 16 → km < 16 → (b = false → kc = km) → (∀ H row, kq_C A G H row now → ∀ d K, q - p + 20 ≤ d → K (kv kc b) H → Fo_kindsOf d r row (nI dep) H K) → (∀ f, km_C now f t w n → ∀ d (x : Bool) K, 3 * (q - p) + 29 ≤ d → K (nI km) (kf f q (x || b)) → m_kindsOfPrimary Gm d (kf f p x) K) → ∃ (kc km : Nat) (b : Bool), kc < 16 ∧ km < 16 ∧ (b = false → kc = km) ∧
        (∀ H row, kq_C A G H row now → ∀ d K, q - p + 20 ≤ d → K (kv kc b) H → Fo_kindsOf d r row (nI dep) H K) ∧
        (∀ f, km_C now f t w n → ∀ d (x : Bool) K, 3 * (q - p) + 30 ≤ d → m_kindsHere_5 Gm (d + 1) (nI km) (kf f q (x || b)) K → m_kindsHere Gm (d + 1) (kf f p x) K) ∧
        (pr = true → ∀ f, km_C now f t w n → ∀ d (x : Bool) K, 3 * (q - p) + 29 ≤ d → K (nI km) (kf f q (x || b)) → m_kindsOfPrimary Gm d (kf f p x) K) := fun kc km b a1 a2 a3 a4 a5 => ⟨kc, km, b, a1, a2, a3, a4, fun f hf d x K hd h => w_m_kindsHere hM (a5 f hf d x _ (by omega) h), fun _ => a5⟩
    -- the end of an expression
    have fin : ∀ f, km_C now f t w n → ∀ d m v (y : Bool) K, 18 ≤ d → m ≤ n → ¬ w m = 124 → K (nI v) (kf f m y) → m_kindsHere_5 Gm (d + 1) (nI v) (kf f m y) K := fun f hf d m v y K hd hm h124 h => by
      refine w_m_kindsHere_5 hM (c_hereK hM hf.1 (by omega) (by omega) ?_)
      rw [tx_nxe hW (by decide)]
      exact z_bf h124 h
    have hpn : p < n := by omega
    rcases h with ⟨m, a1, a2, a3, a4, a5, a6, a7⟩ | ⟨a1, a2, a3, a4, a5⟩ | ⟨a1, a2, a3, a4, a5, a6, a7⟩ | ⟨a1, a2, a3, a4, a5, -⟩ | ⟨a1, a2, a3, a4, a5⟩ | ⟨a1, m, a2, a3, a4, a5, a6, a7, a8⟩ | ⟨hpr, m, a1, a2, a3, a4, a5, a6, a7⟩ | ⟨hpr, m, a1, a2, a3, a4, a5, a6, a7⟩
    · -- a number
      have h0 := a4 p (Nat.le_refl _) hlt
      have hE1 : tx_E (l + 1) A G r w p q true := ⟨hA, hr0, hk, Or.inl ⟨m, a1, a2, a3, a4, a5, a6, a7⟩⟩
      refine prim 2 2 false (by decide) (by decide) (fun _ => rfl) (fun H row hH d K hd hK => ?_) (fun f hf d x K hd hK => ?_)
      · obtain ⟨d, rfl⟩ : ∃ e, d = e + 1 := ⟨d - 1, by omega⟩
        exact cls H row hH 1 d K (by omega) a6 (by decide) (fun _ => hK) (fun q => absurd q (by decide)) (fun q => absurd q (by decide)) (fun q => absurd q (by decide)) (fun q => absurd q (by decide)) (by decide)
      · obtain ⟨d, rfl⟩ : ∃ e, d = e + 1 := ⟨d - 1, by omega⟩
        rw [Bool.or_false] at hK
        refine way f hf d x K (by omega) (fun _ => ?_) (fun q => ?_) (fun q => ?_) (fun q => ?_) hpn (Or.inl h0)
        · have s := (sk_all (f := kf f p x) hM (kf_T hf.1) hE1 hq).2 rfl d (fun f3 => mm_br (w p = 39) (K (nI 4) f3) (K (nI 2) f3)) (by omega)
          rw [kf_s, kf_s] at s
          exact s (z_bf (by unfold tx_D at h0; omega) hK)
        all_goals (unfold tx_D at h0)
        · omega
        · omega
        · unfold tx_L at q; omega
    · -- a variable
      have hL := a1
      unfold tx_L at hL
      have c1 := hnow (w p - 97)
      refine prim (now (w p - 97)) (now (w p - 97)) false c1 c1 (fun _ => rfl) (fun H row hH d K hd hK => ?_) (fun f hf d x K hd hK => ?_)
      · obtain ⟨d, rfl⟩ : ∃ e, d = e + 1 := ⟨d - 1, by omega⟩
        refine cls H row hH 3 d K (by omega) a4 (by decide) (fun q => absurd q (by decide)) (fun q => absurd q (by decide)) (fun _ => ⟨w p - 97, by omega, a5, hK⟩) (fun q => absurd q (by decide)) (fun q => absurd q (by decide)) (by decide)
      · obtain ⟨d, rfl⟩ : ∃ e, d = e + 1 := ⟨d - 1, by omega⟩
        rw [Bool.or_false, a2] at hK
        refine way f hf d x K (by omega) (fun q => ?_) (fun q => ?_) (fun q => ?_) (fun _ => z_bf (by rw [← a2]; exact a3) (by rw [hf.2 _ (by omega)]; exact hK)) hpn (Or.inr (Or.inr (Or.inr (Or.inr a1))))
        · unfold tx_D at q; omega
        all_goals omega
    · -- an item
      have hL := a1
      unfold tx_L at hL
      have c1 := hnow (w p - 97)
      obtain ⟨⟨k, k1, k2, k3⟩, -⟩ := kitem c1
      refine prim k (if now (w p - 97) = 0 then 0 else 6) (kb (now (w p - 97)) 8) k1 (by by_cases h0 : now (w p - 97) = 0 <;> simp [h0]) k3 (fun H row hH d K hd hK => ?_) (fun f hf d x K hd hK => ?_)
      · obtain ⟨d, rfl⟩ : ∃ e, d = e + 1 := ⟨d - 1, by omega⟩
        refine cls H row hH 4 d K (by omega) a5 (by decide) (fun q => absurd q (by decide)) (fun q => absurd q (by decide)) (fun q => absurd q (by decide)) (fun _ => ⟨w p - 97, by omega, a6, by rw [k2]; exact hK⟩) (fun q => absurd q (by decide)) (by decide)
      · obtain ⟨d, rfl⟩ : ∃ e, d = e + 1 := ⟨d - 1, by omega⟩
        rw [a4] at hK
        refine way f hf d x K (by omega) (fun q => ?_) (fun q => ?_) (fun q => ?_) (fun _ => z_bt a2 ?_) hpn (Or.inr (Or.inr (Or.inr (Or.inr a1))))
        · unfold tx_D at q; omega
        · omega
        · omega
        · rw [hf.2 _ (by omega)]
          refine c_only hM c1 (by decide) ?_
          rw [z_eq (by omega) (by decide)]
          by_cases h0 : now (w p - 97) = 0
          · rw [if_pos h0] at hK
            exact z_bt h0 hK
          · rw [if_neg h0] at hK
            exact z_bf h0 hK
    · -- a text
      have hE1 : tx_E (l + 1) A G r w p q true := ⟨hA, hr0, hk, by
        obtain ⟨-, -, -, h⟩ := hE
        rcases h with ⟨m, -, -, -, b4, -⟩ | ⟨b1, -⟩ | ⟨b1, -⟩ | b | ⟨b1, -⟩ | ⟨b1, -⟩ | ⟨-, m, b1, -, -, b4, b5, -⟩ | ⟨-, m, b1, -, -, -, b5, -⟩
        · have := b4 p (Nat.le_refl _) hlt
          unfold tx_D at this
          omega
        · unfold tx_L at b1; omega
        · unfold tx_L at b1; omega
        · exact Or.inr (Or.inr (Or.inr (Or.inl b)))
        · omega
        · omega
        · rw [a5] at b5
          rw [z_eq (by decide) (by have := tx_le hW (m + 1); omega)] at b5
          omega
        · rw [a5] at b5
          exact absurd b5 (by decide)⟩
      refine prim 4 4 false (by decide) (by decide) (fun _ => rfl) (fun H row hH d K hd hK => ?_) (fun f hf d x K hd hK => ?_)
      · obtain ⟨d, rfl⟩ : ∃ e, d = e + 1 := ⟨d - 1, by omega⟩
        exact cls H row hH 2 d K (by omega) a5 (by decide) (fun q => absurd q (by decide)) (fun _ => hK) (fun q => absurd q (by decide)) (fun q => absurd q (by decide)) (fun q => absurd q (by decide)) (by decide)
      · obtain ⟨d, rfl⟩ : ∃ e, d = e + 1 := ⟨d - 1, by omega⟩
        rw [Bool.or_false] at hK
        refine way f hf d x K (by omega) (fun _ => ?_) (fun q => ?_) (fun q => ?_) (fun q => ?_) hpn (Or.inr (Or.inl a1))
        · have s := (sk_all (f := kf f p x) hM (kf_T hf.1) hE1 hq).2 rfl d (fun f3 => mm_br (w p = 39) (K (nI 4) f3) (K (nI 2) f3)) (by omega)
          rw [kf_s, kf_s] at s
          exact s (z_bt a1 hK)
        · omega
        · omega
        · unfold tx_L at q; omega
    · -- not
      obtain ⟨b1, -⟩ := tx_E_ch a5
      obtain ⟨kc, km, b, g1, g2, g3, g4, g5, -⟩ := kd_all (dep := dep + 1) hM hW hnow a5 hq (by omega)
      refine prim (if kc = 0 then 0 else 2) (if km = 0 then 0 else 2) b (by by_cases h0 : kc = 0 <;> simp [h0]) (by by_cases h0 : km = 0 <;> simp [h0]) (fun q => by rw [g3 q]) (fun H row hH d K hd hK => ?_) (fun f hf d x K hd hK => ?_)
      · obtain ⟨d, rfl⟩ : ∃ e, d = e + 1 := ⟨d - 1, by omega⟩
        refine cls H row hH 33 d K (by omega) a3 (by decide) (fun q => absurd q (by decide)) (fun q => absurd q (by decide)) (fun q => absurd q (by decide)) (fun q => absurd q (by decide)) (fun _ => g4 H row hH d _ (by omega) ⟨(fH H row hH).1, z_bt (((fH H row hH).2.1 5).trans a4) ?_⟩) (by decide)
        obtain ⟨v1, v2, v3⟩ := kv_f (b := b) g1
        rw [v1, v2, (fH H row hH).2.2 0, a3, (kitem g1).2]
        have v4 := (kv_f (k := if kc = 0 then 0 else 2) (b := b) (by by_cases h0 : kc = 0 <;> simp [h0])).2.2 false
        rw [v4, Bool.or_false]
        exact hK
      · obtain ⟨d, rfl⟩ : ∃ e, d = e + 2 := ⟨d - 2, by omega⟩
        refine way f hf (d + 1) x K (by omega) (fun q => ?_) (fun _ => g5 f hf d x _ (by omega) (fin f hf d q km _ _ (by omega) hq a2 ?_)) (fun q => ?_) (fun q => ?_) hpn (Or.inr (Or.inr (Or.inl a1)))
        · rcases q with q | q
          · unfold tx_D at q; omega
          · omega
        · rw [z_eq (by omega) (by decide)]
          by_cases h0 : km = 0
          · rw [if_pos h0] at hK
            exact z_bt h0 hK
          · rw [if_neg h0] at hK
            exact z_bf h0 hK
        · omega
        · unfold tx_L at q; omega
    · -- an operator
      obtain ⟨b1, -⟩ := tx_E_ch a7
      obtain ⟨b2, -⟩ := tx_E_ch a8
      have hm126 := tx_le hW m
      obtain ⟨kc, km, b, g1, g2, g3, g4, g5, -⟩ := kd_all (dep := dep + 1) hM hW hnow a7 (by omega) (by omega)
      obtain ⟨kc', km', b', g1', g2', g3', g4', g5', -⟩ := kd_all (dep := dep + 1) hM hW hnow a8 (by omega) (by omega)
      obtain ⟨o1, k, o2, o3, o4⟩ := kop (Or.inl a4) g1 g1'
      obtain ⟨u1, -⟩ := kop (Or.inl a4) g2 g2'
      have r5 : ∀ {l' p' q' pr'}, tx_E l' A G (mj_r G r 5) w p' q' pr' → mj_r G r 5 ≠ 0 := fun {l'} {p'} {q'} {pr'} h => by
        cases l' with
        | zero => exact h.elim
        | succ l' => exact h.2.1
      -- both may go wrong alike: if a part may, or the operator
      by_cases hbb : (b || b') = true
      · refine prim k (ko_v (w m) km km') true o2 u1 (fun q => by cases q) (fun H row hH d K hd hK => ?_) (fun f hf d x K hd hK => ?_)
        · obtain ⟨d, rfl⟩ : ∃ e, d = e + 1 := ⟨d - 1, by omega⟩
          refine cls H row hH (w m) d K (by omega) a6 hm126 (fun q => ?_) (fun q => ?_) (fun q => ?_) (fun q => ?_) (fun _ => g4 H row hH d _ (by omega) ⟨(fH H row hH).1, z_bf (by rw [(fH H row hH).2.1 5]; exact r5 a8) (by rw [(fH H row hH).2.1 5]; exact g4' H row hH d _ (by omega) ⟨(fH H row hH).1, by rw [kv_or g1 g1', (kv_f g1).2.1, (kv_f g1').2.1, (fH H row hH).2.2 0, a6, o3, hbb, (kv_f (b := true) o2).2.2, Bool.true_or]; exact hK⟩)⟩) (by unfold tx_O at a4; omega)
          · unfold tx_O at a4; omega
          · unfold tx_O at a4; omega
          · unfold tx_O at a4; omega
          · unfold tx_O at a4; omega
        · obtain ⟨d, rfl⟩ : ∃ e, d = e + 2 := ⟨d - 2, by omega⟩
          refine way f hf (d + 1) x K (by omega) (fun q => ?_) (fun q => ?_) (fun _ => g5 f hf d x _ (by omega) (fin f hf d m km _ _ (by omega) (by omega) (by unfold tx_O at a4; omega) (c_hereK hM hf.1 (by omega) (by omega) ?_))) (fun q => ?_) hpn (Or.inr (Or.inr (Or.inr (Or.inl a1))))
          · rcases q with q | q
            · unfold tx_D at q; omega
            · omega
          · omega
          · rw [kf_23, z_add, kf_p, tx_nxi (by omega)]
            refine g5' f hf d _ _ (by omega) (fin f hf d (q - 1) km' _ _ (by omega) (by omega) (by omega) ?_)
            rw [kf_23, z_add, kf_p, show q - 1 + 1 = q by omega]
            refine c_kindsOfBoth hM (by omega) a4 g2 g2' ?_
            rw [show (x || b || b' || ko_b (w m) km km') = (x || true) from by rw [Bool.or_assoc x b b', hbb]; simp]
            exact hK
          · unfold tx_L at q; omega
      · have hb0 : b = false ∧ b' = false := Bool.or_eq_false_iff.mp (Bool.eq_false_iff.mpr hbb)
        obtain ⟨hb1, hb2⟩ := hb0
        have e1 := g3 hb1
        have e2 := g3' hb2
        subst hb1
        subst hb2
        subst e1
        subst e2
        refine prim k (ko_v (w m) kc kc') (ko_b (w m) kc kc') o2 u1 o4 (fun H row hH d K hd hK => ?_) (fun f hf d x K hd hK => ?_)
        · obtain ⟨d, rfl⟩ : ∃ e, d = e + 1 := ⟨d - 1, by omega⟩
          refine cls H row hH (w m) d K (by omega) a6 hm126 (fun q => ?_) (fun q => ?_) (fun q => ?_) (fun q => ?_) (fun _ => g4 H row hH d _ (by omega) ⟨(fH H row hH).1, z_bf (by rw [(fH H row hH).2.1 5]; exact r5 a8) (by rw [(fH H row hH).2.1 5]; exact g4' H row hH d _ (by omega) ⟨(fH H row hH).1, by rw [kv_or g1 g1', (kv_f g1).2.1, (kv_f g1').2.1, (fH H row hH).2.2 0, a6, o3, (kv_f (b := false || false) o2).2.2]; exact hK⟩)⟩) (by unfold tx_O at a4; omega)
          · unfold tx_O at a4; omega
          · unfold tx_O at a4; omega
          · unfold tx_O at a4; omega
          · unfold tx_O at a4; omega
        · obtain ⟨d, rfl⟩ : ∃ e, d = e + 2 := ⟨d - 2, by omega⟩
          refine way f hf (d + 1) x K (by omega) (fun q => ?_) (fun q => ?_) (fun _ => g5 f hf d x _ (by omega) (fin f hf d m kc _ _ (by omega) (by omega) (by unfold tx_O at a4; omega) (c_hereK hM hf.1 (by omega) (by omega) ?_))) (fun q => ?_) hpn (Or.inr (Or.inr (Or.inr (Or.inl a1))))
          · rcases q with q | q
            · unfold tx_D at q; omega
            · omega
          · omega
          · rw [kf_23, z_add, kf_p, tx_nxi (by omega)]
            refine g5' f hf d _ _ (by omega) (fin f hf d (q - 1) kc' _ _ (by omega) (by omega) (by omega) ?_)
            rw [kf_23, z_add, kf_p, show q - 1 + 1 = q by omega]
            refine c_kindsOfBoth hM (by omega) a4 g2 g2' ?_
            rw [Bool.or_false, Bool.or_false]
            exact hK
          · unfold tx_L at q; omega
    · -- a plain filter
      obtain ⟨b1, -⟩ := tx_E_ch a7
      have hm126 := tx_le hW (m + 1)
      obtain ⟨kc, km, b, g1, g2, g3, g4, g5, -⟩ := kd_all (dep := dep + 1) hM hW hnow a7 (by omega) (by omega)
      obtain ⟨k, o1, o2, o3⟩ := kfil a4 g1
      have hV : ∀ i, (if i = 0 then 0 else kf_V (w (m + 1))) < 16 := fun i => by
        unfold kf_V
        by_cases h0 : i = 0
        · rw [if_pos h0]; decide
        · rw [if_neg h0]
          by_cases h1 : w (m + 1) = 108
          · rw [if_pos h1]; decide
          · rw [if_neg h1]
            by_cases h2 : w (m + 1) = 110
            · rw [if_pos h2]; decide
            · rw [if_neg h2]; decide
      subst a2
      -- the model's step
      have stp : ∀ f, km_C now f t w n → ∀ d y K, 18 ≤ d → m_kindsHere_5 Gm (d + 1) (nI (if km = 0 then 0 else kf_V (w (m + 1)))) (kf f (m + 2) (y || kb km (kf_R (w (m + 1))))) K → m_kindsHere_5 Gm (d + 1) (nI km) (kf f m y) K := fun f hf d y K hd hK => by
        refine w_m_kindsHere_5 hM (c_hereK hM hf.1 (by omega) (by omega) ?_)
        rw [tx_nxe hW (by decide), kf_23, (kf_T (p := m) (x := y) hf.1).2, z_add]
        refine z_bt a3 (c_letter hM (kf_T hf.1).1 (by omega) ?_)
        rw [tx_nxe hW (by decide), tx_nxe hW (by decide), tx_nxe hW (by decide), tx_nxe hW (by decide), kf_23, z_add, kf_p]
        refine z_bf (by omega) ?_
        have tail : mm_br (nI km = nI 0) (m_kindsHere_5 Gm (d + 1) (nI 0) (kf f (m + 2) (y || kb km (kf_R (w (m + 1))))) K) (mm_br (w (m + 1) = 108) (m_kindsHere_5 Gm (d + 1) (nI 2) (kf f (m + 2) (y || kb km (kf_R (w (m + 1))))) K) (mm_br (w (m + 1) = 110) (m_kindsHere_5 Gm (d + 1) (nI 3) (kf f (m + 2) (y || kb km (kf_R (w (m + 1))))) K) (m_kindsHere_5 Gm (d + 1) (nI 4) (kf f (m + 2) (y || kb km (kf_R (w (m + 1))))) K))) := by
          rw [z_eq (by omega) (by decide)]
          by_cases h0 : km = 0
          · rw [if_pos h0] at hK
            exact z_bt h0 hK
          · rw [if_neg h0] at hK
            unfold kf_V at hK
            refine z_bf h0 ?_
            by_cases h1 : w (m + 1) = 108
            · rw [if_pos h1] at hK
              exact z_bt h1 hK
            · rw [if_neg h1] at hK
              refine z_bf h1 ?_
              by_cases h2 : w (m + 1) = 110
              · rw [if_pos h2] at hK
                exact z_bt h2 hK
              · rw [if_neg h2] at hK
                exact z_bf h2 hK
        refine z_br (fun h1 => ?_) (fun h1 => z_br (fun h2 => ?_) (fun h2 => ?_))
        · have e : kf_R (w (m + 1)) = 12 := if_pos h1
          rw [e] at tail
          exact c_only hM g2 (by decide) tail
        · have e : kf_R (w (m + 1)) = 8 := (if_neg h1).trans (if_pos h2)
          rw [e] at tail
          exact c_only hM g2 (by decide) tail
        · have e : kf_R (w (m + 1)) = 4 := (if_neg h1).trans (if_neg h2)
          rw [e] at tail
          exact c_only hM g2 (by decide) tail
      refine ⟨k, (if km = 0 then 0 else kf_V (w (m + 1))), (b || kb kc (kf_R (w (m + 1)))), o1, hV km, fun q => ?_, fun H row hH d K hd hK => ?_, fun f hf d x K hd hK => ?_, fun q => by rw [hpr] at q; cases q⟩
      · obtain ⟨q1, q2⟩ := Bool.or_eq_false_iff.mp q
        rw [o3 q2, g3 q1]
      · obtain ⟨d, rfl⟩ : ∃ e, d = e + 1 := ⟨d - 1, by omega⟩
        refine cls H row hH (w (m + 1)) d K (by omega) a5 hm126 (fun q => absurd q (by omega)) (fun q => absurd q (by omega)) (fun q => absurd q (by omega)) (fun q => absurd q (by omega)) (fun _ => g4 H row hH d _ (by omega) ⟨(fH H row hH).1, z_bt (((fH H row hH).2.1 5).trans a6) ?_⟩) (by omega)
        rw [(kv_f g1).1, (kv_f g1).2.1, (fH H row hH).2.2 0, a5, o2, (kv_f (b := b) o1).2.2]
        exact hK
      · refine g5 f hf d x K (by omega) (stp f hf d _ K (by omega) ?_)
        by_cases hb : b = true
        · rw [hb, Bool.or_true, Bool.true_or]
          rw [hb, Bool.true_or, Bool.or_true] at hK
          exact hK
        · have hb := Bool.eq_false_iff.mpr hb
          rw [← g3 hb, Bool.or_assoc]
          rw [← g3 hb] at hK
          exact hK
    · -- otherwise
      obtain ⟨b1, -⟩ := tx_E_ch a6
      obtain ⟨b2, -⟩ := tx_E_ch a7
      obtain ⟨kc, km, b, g1, g2, g3, g4, g5, -⟩ := kd_all (dep := dep + 1) hM hW hnow a6 (by omega) (by omega)
      obtain ⟨kc', km', b', g1', g2', g3', g4', -, g6'⟩ := kd_all (dep := dep + 1) hM hW hnow a7 hq (by omega)
      obtain ⟨o1, k, o2, o3, o4⟩ := kop (Or.inr rfl) g1 g1'
      obtain ⟨u1, -⟩ := kop (c := 100) (Or.inr rfl) g2 g2'
      have nob : ∀ i j, ko_b 100 i j = false := fun i j => by
        unfold ko_b
        cases (Nat.beq i 0 || Nat.beq j 0) <;> rfl
      have r5 : mj_r G r 5 ≠ 0 := by
        have h := a7
        cases l with
        | zero => exact h.elim
        | succ l => exact h.2.1
      rw [nob] at o3
      have o5 := o4 (nob _ _)
      refine ⟨k, ko_v 100 km km', (b || b'), o2, u1, fun q => ?_, fun H row hH d K hd hK => ?_, fun f hf d x K hd hK => ?_, fun q => by rw [hpr] at q; cases q⟩
      · obtain ⟨q1, q2⟩ := Bool.or_eq_false_iff.mp q
        rw [o5, g3 q1, g3' q2]
      · obtain ⟨d, rfl⟩ : ∃ e, d = e + 1 := ⟨d - 1, by omega⟩
        refine cls H row hH 100 d K (by omega) a5 (by decide) (fun q => absurd q (by decide)) (fun q => absurd q (by decide)) (fun q => absurd q (by decide)) (fun q => absurd q (by decide)) (fun _ => g4 H row hH d _ (by omega) ⟨(fH H row hH).1, z_bf (by rw [(fH H row hH).2.1 5]; exact r5) (by rw [(fH H row hH).2.1 5]; exact g4' H row hH d _ (by omega) ⟨(fH H row hH).1, by rw [kv_or g1 g1', (kv_f g1).2.1, (kv_f g1').2.1, (fH H row hH).2.2 0, a5, o3, (kv_f (b := b || b') o2).2.2, Bool.or_false]; exact hK⟩)⟩) (by decide)
      · refine g5 f hf d x K (by omega) (w_m_kindsHere_5 hM (c_hereK hM hf.1 (by omega) (by omega) ?_))
        rw [tx_nxe hW (by decide), kf_23, (kf_T (p := m) (x := x || b) hf.1).2, z_add]
        refine z_bt a3 (c_letter hM (kf_T hf.1).1 (by omega) ?_)
        rw [tx_nxe hW (by decide), kf_23, z_add, kf_p]
        refine z_bt a4 (g6' rfl f hf d _ _ (by omega) ?_)
        rw [z_eq (by omega) (by decide), z_eq (by omega) (by decide)]
        rw [← Bool.or_assoc] at hK
        by_cases h0 : km = 0
        · subst h0
          exact z_bt rfl hK
        · by_cases h1 : km' = 0
          · subst h1
            have e : ko_v 100 km 0 = 0 := by unfold ko_v; simp
            rw [e] at hK
            exact z_bf h0 (z_bt rfl hK)
          · have e0 : (Nat.beq km 0 || Nat.beq km' 0) = false := by
              rw [Bool.or_eq_false_iff]
              exact ⟨Bool.eq_false_iff.mpr (fun q => h0 (Nat.eq_of_beq_eq_true q)), Bool.eq_false_iff.mpr (fun q => h1 (Nat.eq_of_beq_eq_true q))⟩
            have e : ko_v 100 km km' = Nat.lor (Nat.land km 14) km' := by unfold ko_v; rw [e0]; rfl
            have hl : Nat.land km 14 < 16 := (kb_f g2 (g := 14) (by decide)).2.2.2.2.1
            refine z_bf h0 (z_bf h1 ?_)
            rw [(kb_f g2 g2').2.2.2.2.2, (kb_f hl g2').2.2.1, ← e]
            exact hK
end KE
