/-! THE FIRST TAG THAT MAY FAIL: rows of kinds, put by and back -/
def kn_u (now : Nat → Nat) (i z : Nat) : Nat → Nat := fun x => if x = i then z else now x
theorem kn_u16 {now : Nat → Nat} {i z : Nat} (h : ∀ i, now i < 16) (hz : z < 16) : ∀ x, kn_u now i z x < 16 := fun x => by
  unfold kn_u
  by_cases hx : x = i
  · rw [if_pos hx]; exact hz
  · rw [if_neg hx]; exact h x
theorem kq_fc {A : Nat → Prop} {G H H' : mj_G} {row : Nat} {now now' : Nat → Nat} (h : kq_C A G H row now) (hF : fc_F row H H') (hS : cs_S H') (hA : ∀ a, A a → a < mj_n G) (h1 : mj_n G ≤ row) (h2 : row < mj_n H) (hr : ∀ i, i < 26 → mj_i H' row i = nI (now' i)) : kq_C A G H' row now' := by
  obtain ⟨-, h4, h5, h6, -⟩ := h
  obtain ⟨r1, r2, -, -⟩ := hF.2 row h2
  refine ⟨hS, fun a ha => ?_, r1.trans h5, r2.trans h6, hr⟩
  have hlt := hA a ha
  obtain ⟨a1, a2, a3, a4⟩ := hF.2 a (by omega)
  obtain ⟨b1, b2, b3, b4⟩ := h4 a ha
  exact ⟨a1.trans b1, a2.trans b2, fun j => (a3 j).trans (b3 j), fun j => (a4 (by omega) j).trans (b4 j)⟩
theorem kq_al {A : Nat → Prop} {G H : mj_G} {row : Nat} {now : Nat → Nat} (h : kq_C A G H row now) (hA : ∀ a, A a → a < mj_n G) (hn : mj_n G ≤ mj_n H) : kq_C A G (mj_al H 20 (mj_l H row) (mj_i H row)) (mj_n H) now := by
  obtain ⟨h1, h4, h5, h6, h7⟩ := h
  refine ⟨cs_al h1, fun a ha => ?_, z_kAs, z_lAs.trans h6, fun i hi => z_iAs.trans (h7 i hi)⟩
  have hlt := hA a ha
  have hne : a ≠ mj_n H := by omega
  obtain ⟨b1, b2, b3, b4⟩ := h4 a ha
  exact ⟨(z_kAn hne).trans b1, (z_lAn hne).trans b2, fun j => (z_rAn hne).trans (b3 j), fun j => (z_iAn hne).trans (b4 j)⟩
/-- which expression is a variable alone -/
theorem tx_E_var {A : Nat → Prop} {G : mj_G} {w : Nat → Nat} {l r p q : Nat} (hW : ∀ k, w k ≤ 126) (h : tx_E l A G r w p q false) : (mj_i G r 0 = nI 3 ∧ q = p + 1 ∧ tx_L (w p) ∧ mj_i G r 1 = nI (w p - 97)) ∨ (¬ mj_i G r 0 = nI 3 ∧ ¬ (q = p + 1 ∧ tx_L (w p))) := by
  cases l with
  | zero => exact h.elim
  | succ l =>
    obtain ⟨-, -, -, h⟩ := h
    rcases h with ⟨m, a1, a2, a3, a4, a5, a6, a7⟩ | ⟨a1, a2, a3, a4, a5⟩ | ⟨a1, a2, a3, a4, a5, a6, a7⟩ | ⟨a1, a2, a3, a4, a5, -⟩ | ⟨a1, a2, a3, a4, a5⟩ | ⟨a1, m, a2, a3, a4, a5, a6, a7, a8⟩ | ⟨hpr, m, a1, a2, a3, a4, a5, a6, a7⟩ | ⟨hpr, m, a1, a2, a3, a4, a5, a6, a7⟩
    · right
      have h0 := a4 p (Nat.le_refl _) (by omega)
      refine ⟨by rw [a6]; decide, fun q => ?_⟩
      have := q.2
      unfold tx_L at this
      unfold tx_D at h0
      omega
    · exact Or.inl ⟨a4, a2, a1, a5⟩
    · exact Or.inr ⟨by rw [a5]; decide, fun q => by omega⟩
    · refine Or.inr ⟨by rw [a5]; decide, fun q => ?_⟩
      have := q.2
      unfold tx_L at this
      omega
    · refine Or.inr ⟨by rw [a3]; decide, fun q => ?_⟩
      have := q.2
      unfold tx_L at this
      omega
    · have := hW m
      refine Or.inr ⟨by rw [a6, z_eq (by omega) (by decide)]; unfold tx_O at a4; omega, fun q => ?_⟩
      have := q.2
      unfold tx_L at this
      omega
    · have := hW (m + 1)
      exact Or.inr ⟨by rw [a5, z_eq (by omega) (by decide)]; omega, fun q => by omega⟩
    · exact Or.inr ⟨by rw [a5]; decide, fun q => by omega⟩
section CB
variable {Gm : mj_G} {w : Nat → Nat} {n t : Nat}
/-- kinds are put by, from the i-th one on -/
theorem cb_9 {lv : Nat} {x1 x2 x3 x4 x5 : Int32} {f : mm_F} {d : Nat} {K : Int32 → mm_F → Prop} (hM : mm_S Gm) (hlv : lv < 30) (h : ∀ f1, fk_F lv f f1 → (∀ k, f1 1764 k = f 1764 k) → (∀ k, f1 1714 k = f 1714 k) → (∀ j, j < 26 → f1 1765 (26 * lv + j) = f 1764 j) → m_checks_9 Gm (d + 1) x1 x2 x3 x4 x5 (nI lv) (nI 26) f1 K) :
    ∀ {m i : Nat} {f1 : mm_F}, i + m = 26 → fk_F lv f f1 → (∀ k, f1 1764 k = f 1764 k) → (∀ k, f1 1714 k = f 1714 k) → (∀ j, j < i → f1 1765 (26 * lv + j) = f 1764 j) → m_checks_9 Gm (d + 1) x1 x2 x3 x4 x5 (nI lv) (nI i) f1 K
  | 0, i, f1, hi, h1, h2, h3, h4 => by
    have : i = 26 := hi
    subst this
    exact h f1 h1 h2 h3 h4
  | m + 1, i, f1, hi, h1, h2, h3, h4 => by
    refine w_m_checks_9 hM (z_bf (by rw [z_le (by omega) (by omega)]; omega) (z_ixi (by omega) (by decide) ?_))
    rw [z_mul, z_add, z_add]
    refine z_ixi (by omega) (by decide) (cb_9 hM hlv h (m := m) (i := i + 1) (by omega) ⟨fun a k q1 q2 q3 => (z_u2n q3).trans (h1.1 a k q1 q2 q3), fun k q1 q2 q3 => (z_u2n (by decide)).trans (h1.2.1 k q1 q2 q3), fun k hk => (z_u2m (by omega)).trans (h1.2.2.1 k hk), fun k hk => (z_u2n (by decide)).trans (h1.2.2.2 k hk)⟩ (fun k => (z_u2n (by decide)).trans (h2 k)) (fun k => (z_u2n (by decide)).trans (h3 k)) (fun j hj => ?_))
    by_cases hj2 : j = i
    · rw [hj2, z_u2s]; exact h2 i
    · exact (z_u2m (by omega)).trans (h4 j (by omega))
theorem cb_166 {lv : Nat} {x7 : Int32} {f : mm_F} {d : Nat} {K : Int32 → mm_F → Prop} (hM : mm_S Gm) (hlv : lv < 30) (h : ∀ f1, fk_F lv f f1 → (∀ k, f1 1714 k = f 1714 k) → (∀ j, j < 26 → f1 1764 j = f 1765 (26 * lv + j)) → K x7 f1) :
    ∀ {m i : Nat} {f1 : mm_F}, i + m = 26 → fk_F lv f f1 → (∀ k, f1 1714 k = f 1714 k) → (∀ k, f1 1765 k = f 1765 k) → (∀ j, j < i → f1 1764 j = f 1765 (26 * lv + j)) → m_checks_166 Gm (d + 1) (nI lv) x7 (nI i) f1 K
  | 0, i, f1, hi, h1, h3, h5, h4 => by
    have : i = 26 := hi
    subst this
    exact w_m_checks_166 hM (z_bt (by rw [z_le (by omega) (by omega)]; exact Nat.le_refl _) (h f1 h1 h3 h4))
  | m + 1, i, f1, hi, h1, h3, h5, h4 => by
    refine w_m_checks_166 hM (z_bf (by rw [z_le (by omega) (by omega)]; omega) ?_)
    rw [z_mul, z_add, z_add]
    refine z_ixi (by omega) (by decide) (z_ixi (by omega) (by decide) (cb_166 hM hlv h (m := m) (i := i + 1) (by omega) ⟨fun a k q1 q2 q3 => (z_u2n q2).trans (h1.1 a k q1 q2 q3), fun k q1 q2 q3 => (z_u2n (by decide)).trans (h1.2.1 k q1 q2 q3), fun k hk => (z_u2n (by decide)).trans (h1.2.2.1 k hk), fun k hk => (z_u2m (by omega)).trans (h1.2.2.2 k hk)⟩ (fun k => (z_u2n (by decide)).trans (h3 k)) (fun k => (z_u2n (by decide)).trans (h5 k)) (fun j hj => ?_)))
    by_cases hj2 : j = i
    · rw [hj2, z_u2s]; exact h5 _
    · exact (z_u2m hj2).trans (h4 j (by omega))
/-- a body from p on, by the model: behind it the kinds are those that were put by -/
def cb_M (Gm : mj_G) (t : Nat) (w : Nat → Nat) (n : Nat) (now : Nat → Nat) (p q : Nat) (v : Int32) : Prop := ∀ f lv, kn_C now f t w n → f 1714 74 = nI (lv + 1) → 3 * lv ≤ p → ∀ d K, 3 * (q - p) + 560 ≤ d → (∀ f', fk_F lv (mj_u2 f 1714 74 (nI lv)) f' → (∀ j, j < 26 → f' 1764 j = f 1765 (26 * lv + j)) → K v f') → m_checks_73 Gm d (nI t) (nI q) (nI lv) (Int32.ofInt (-1)) (nI p) f K
theorem cb_chk {now now' : Nat → Nat} {s q lv d : Nat} {x4 x5 v : Int32} {f : mm_F} {K : Int32 → mm_F → Prop} (hM : mm_S Gm) (hs : s ≤ 80) (hB : cb_M Gm t w n now' s q v) (hk : kn_C now f t w n) (h74 : f 1714 74 = nI lv) (hlv : 3 * lv ≤ s) (hx : (x4 = Int32.ofInt (-1) ∧ now' = now) ∨ ∃ i z, i < 26 ∧ x4 = nI i ∧ x5 = nI z ∧ now' = kn_u now i z) (hd : 3 * (q - s) + 561 ≤ d) (hK : ∀ f', fk_F lv f f' → (∀ k, f' 1764 k = f 1764 k) → K v f') : m_checks Gm d (nI t) (nI s) (nI q) x4 x5 f K := by
  obtain ⟨d, rfl⟩ : ∃ e, d = e + 1 := ⟨d - 1, by omega⟩
  refine w_m_checks hM ?_
  rw [h74]
  have fin : ∀ f1 g, fk_F lv f f1 → (∀ k, f1 1764 k = f 1764 k) → (∀ k, f1 1714 k = f 1714 k) → (∀ j, j < 26 → f1 1765 (26 * lv + j) = f 1764 j) → (∀ a k, a ≠ 1714 → a ≠ 1764 → g a k = f1 a k) → (∀ k, k ≠ 74 → g 1714 k = f1 1714 k) → g 1714 74 = nI (lv + 1) → (∀ k, 26 ≤ k → g 1764 k = f1 1764 k) → (∀ i, i < 26 → g 1764 i = nI (now' i)) → m_checks_73 Gm (d + 1) (nI t) (nI q) (nI lv) (Int32.ofInt (-1)) (nI s) g K := by
    intro f1 g a1 a2 a3 a4 b1 b2 b3 b4 b5
    refine hB g lv ⟨mt_o hk.1 (fun k => (b1 _ k (by decide) (by decide)).trans (a1.1 _ k (by decide) (by decide) (by decide))) (fun k => (b1 _ k (by decide) (by decide)).trans (a1.1 _ k (by decide) (by decide) (by decide))), b5⟩ b3 hlv (d + 1) K (by omega) (fun f' c1 c2 => hK f' ⟨fun a k q1 q2 q3 => ?_, fun k q1 q2 q3 => ?_, fun k q => ?_, fun k q => ?_⟩ (fun k => ?_))
    · exact (c1.1 a k q1 q2 q3).trans ((z_u2n q1).trans ((b1 a k q1 q2).trans (a1.1 a k q1 q2 q3)))
    · refine (c1.2.1 k q1 q2 q3).trans ?_
      by_cases hk74 : k = 74
      · rw [hk74, z_u2s, h74]
      · exact (z_u2m hk74).trans ((b2 k hk74).trans (a3 k))
    · exact (c1.2.2.1 k q).trans ((z_u2n (by decide)).trans ((b1 _ k (by decide) (by decide)).trans (a1.2.2.1 k q)))
    · exact (c1.2.2.2 k q).trans ((z_u2n (by decide)).trans ((b4 k q).trans (a2 k)))
    · by_cases hk26 : k < 26
      · exact (c2 k hk26).trans ((b1 _ _ (by decide) (by decide)).trans (a4 k hk26))
      · exact (c1.2.2.2 k (by omega)).trans ((z_u2n (by decide)).trans ((b4 k (by omega)).trans (a2 k)))
  refine cb_9 hM (by omega) (fun f1 a1 a2 a3 a4 => ?_) (m := 26) (i := 0) rfl fk_rfl (fun _ => rfl) (fun _ => rfl) (fun j hj => absurd hj (by omega))
  refine w_m_checks_9 hM (z_bt (by rw [z_le (by omega) (by omega)]; exact Nat.le_refl _) ?_)
  rw [a3, h74, z_add]
  rcases hx with ⟨rfl, rfl⟩ | ⟨i, z, hi, rfl, rfl, rfl⟩
  · exact z_bt rfl (fin f1 _ a1 a2 a3 a4 (fun a k q _ => z_u2n q) (fun k q => z_u2m q) z_u2s (fun k _ => z_u2n (by decide)) (fun i hi => (z_u2n (by decide)).trans ((a2 i).trans (hk.2 i hi))))
  · refine z_bf (z_m1n (by omega)) (z_ixi hi (by decide) (fin f1 _ a1 a2 a3 a4 (fun a k q q2 => (z_u2n q2).trans (z_u2n q)) (fun k q => (z_u2n (by decide)).trans (z_u2m q)) ((z_u2n (by decide)).trans z_u2s) (fun k hk => (z_u2m (by omega)).trans (z_u2n (by decide))) (fun j hj => ?_)))
    unfold kn_u
    by_cases hji : j = i
    · rw [if_pos hji, hji, z_u2s]
    · rw [if_neg hji, z_u2m hji, z_u2n (by decide), a2 j, hk.2 j hj]
end CB
section CC
variable {A : Nat → Prop} {G : mj_G}
/-- a body from p on, by the class: over a row of kinds of its own -/
def cb_C (A : Nat → Prop) (G : mj_G) (now : Nat → Nat) (r p q : Nat) (v : Int32) : Prop := ∀ H row dep, kq_C A G H row now → mj_n G ≤ row → row < mj_n H → dep ≤ p → ∀ d K, 3 * (q - p) + 450 ≤ d → (∀ H', cs_S H' → fc_F row H H' → mj_n H' ≤ mj_n H + (q - p) → mj_u H' ≤ mj_u H + 26 * (q - p) → K v H') → Fo_firstFailing_23 d (nI dep) row r H K
theorem cb_ff {now : Nat → Nat} {H : mj_G} {row r s q dep d : Nat} {v : Int32} {K : Int32 → mj_G → Prop} (hA : ∀ a, A a → a < mj_n G) (hB : cb_C A G now r s q v) (hr0 : r = 0 → v = Int32.ofInt (-1)) (hq : kq_C A G H row now) (hn : mj_n G ≤ mj_n H) (h3 : 3 ≤ row) (hdep : dep ≤ s) (hs : s ≤ 80) (hd : 3 * (q - s) + 451 ≤ d) (hK : ∀ H', cs_S H' → fn_F H H' → mj_n H' ≤ mj_n H + (q - s) + 1 → mj_u H' ≤ mj_u H + 26 * (q - s) + 26 → K v H') : Fo_firstFailing d r row (nI dep) H K := by
  obtain ⟨d, rfl⟩ : ∃ e, d = e + 1 := ⟨d - 1, by omega⟩
  have hS := hq.1
  have hn0 := hS.1
  refine w_Fo_firstFailing hS (z_br (fun h => ?_) (fun h => z_bt (by rw [z_lt (by omega) (by omega)]; omega) ⟨hq.2.2.1, h3, by rw [hq.2.2.2.1]; decide, ?_⟩))
  · rw [← hr0 h]
    exact hK H hS fn_rfl (by omega) (by omega)
  · rintro _ rfl
    refine ⟨by omega, hB _ (mj_n H) dep (kq_al hq hA hn) hn (Nat.lt_succ_self _) hdep (d + 1) K (by omega) (fun H' s1 F1 n1 u1 => hK H' s1 (fc_new fn_al F1 (Nat.le_refl _)) ?_ ?_)⟩
    · rw [z_nA] at n1
      omega
    · rw [z_uA, hq.2.2.2.1] at u1
      omega
/-- a whole body, by the class, as told to its tag -/
def cb_W (A : Nat → Prop) (G : mj_G) (now : Nat → Nat) (r row dep c d : Nat) (v : Int32) : Prop := ∀ H, kq_C A G H row now → mj_n G ≤ mj_n H → ∀ K, (∀ H', cs_S H' → fn_F H H' → mj_n H' ≤ mj_n H + c → mj_u H' ≤ mj_u H + 26 * c → K v H') → Fo_firstFailing d r row (nI dep) H K
theorem cb_Wn {now : Nat → Nat} {row dep c d : Nat} (hd : 1 ≤ d) : cb_W A G now 0 row dep c d (Int32.ofInt (-1)) := fun H hq hn K hK => by
  obtain ⟨d, rfl⟩ : ∃ e, d = e + 1 := ⟨d - 1, by omega⟩
  exact w_Fo_firstFailing hq.1 (z_bt rfl (hK H hq.1 fn_rfl (by omega) (by omega)))
theorem cb_69 {now now1 : Nat → Nat} {H : mj_G} {row r dep d c1 c2 : Nat} {x3 x4 v1 v2 : Int32} {K : Int32 → mj_G → Prop} (hA : ∀ a, A a → a < mj_n G) (hr : A r) (hk : mj_k G r = 6) (hq : kq_C A G H row now) (h1 : mj_n G ≤ row) (h2 : row < mj_n H) (h3 : 3 ≤ row)
    (hx : (x3 = Int32.ofInt (-1) ∧ now1 = now) ∨ ∃ i z, i < 26 ∧ x3 = nI i ∧ x4 = nI z ∧ now1 = kn_u now i z) (hf1 : cb_W A G now1 (mj_r G r 8) row (dep + 1) c1 d v1) (hf2 : cb_W A G now (mj_r G r 9) row (dep + 1) c2 d v2)
    (hK : ∀ H', cs_S H' → fc_F row H H' → (∀ i, i < 26 → mj_i H' row i = nI (now i)) → mj_n H' ≤ mj_n H + c1 + c2 → mj_u H' ≤ mj_u H + 26 * c1 + 26 * c2 → K (if v1 = Int32.ofInt (-1) then v2 else v1) H') : Fo_failingWithin_69 (d + 1) r row (nI dep) x3 x4 H K := by
  have hr6 : ∀ H1, kq_C A G H1 row now ∨ kq_C A G H1 row now1 → mj_k H1 r = 6 ∧ ∀ j, mj_r H1 r j = mj_r G r j := fun H1 h => by
    rcases h with h | h
    · obtain ⟨a1, -, a3, -⟩ := h.2.1 r hr
      exact ⟨a1.trans hk, a3⟩
    · obtain ⟨a1, -, a3, -⟩ := h.2.1 r hr
      exact ⟨a1.trans hk, a3⟩
  have snd : ∀ H1, kq_C A G H1 row now → fc_F row H H1 → mj_n H1 ≤ mj_n H + c1 → mj_u H1 ≤ mj_u H + 26 * c1 → mm_br (v1 = Int32.ofInt (-1)) ((mj_k H1 r = 6) ∧ Fo_firstFailing d (mj_r H1 r 9) row (nI dep + nI 1) H1 (fun v11 G10 => K v11 G10)) (K v1 H1) := fun H1 q1 F1 n1 u1 => by
    obtain ⟨k6, rr⟩ := hr6 H1 (Or.inl q1)
    have hn1 := F1.1
    refine z_br (fun hv => ⟨k6, ?_⟩) (fun hv => ?_)
    · rw [rr 9, z_add]
      refine hf2 H1 q1 (by omega) _ (fun H2 s2 F2 n2 u2 => ?_)
      have hh := hK H2 s2 (fc_trans F1 (fc_of F2)) (fun i hi => ((F2.2 row (by omega)).2.2.2 i).trans (q1.2.2.2.2 i hi)) (by omega) (by omega)
      rw [if_pos hv] at hh
      exact hh
    · have hh := hK H1 q1.1 F1 q1.2.2.2.2 (by omega) (by omega)
      rw [if_neg hv] at hh
      exact hh
  refine w_Fo_failingWithin_69 hq.1 ?_
  rcases hx with ⟨rfl, rfl⟩ | ⟨i, z, hi, rfl, rfl, rfl⟩
  · obtain ⟨k6, rr⟩ := hr6 H (Or.inl hq)
    refine z_bt (by decide) ⟨k6, ?_⟩
    rw [rr 8, z_add]
    refine hf1 H hq (by omega) _ (fun H1 s1 F1 n1 u1 => ?_)
    rw [← z_add]
    exact snd H1 (kq_fc hq (fc_of F1) s1 hA h1 h2 (fun i hi => ((F1.2 row h2).2.2.2 i).trans (hq.2.2.2.2 i hi))) (fc_of F1) n1 u1
  · have l26 := hq.2.2.2.1
    refine z_bf (nI_pos (by omega)) ⟨hq.2.2.1, ?_⟩
    rw [l26]
    refine z_ixi hi (by decide) ⟨h3, z_ixi hi (by decide) ?_⟩
    rintro _ rfl
    have q1 : kq_C A G (mj_pI H row i (nI z)) row (kn_u now i z) := kq_fc hq fc_pI (cs_pI hq.1) hA h1 h2 (fun j hj => by
      unfold kn_u
      by_cases hji : j = i
      · rw [if_pos hji, hji, z_iIs]
      · rw [if_neg hji, z_iIm hji]
        exact hq.2.2.2.2 j hj)
    obtain ⟨k6, rr⟩ := hr6 _ (Or.inr q1)
    refine ⟨k6, ?_⟩
    rw [rr 8, z_add]
    refine hf1 _ q1 (by show mj_n G ≤ mj_n H; omega) _ (fun H1 s1 F1 n1 u1 => ?_)
    have hn1 : mj_n H ≤ mj_n H1 := F1.1
    have hrow1 : ∀ j, mj_i H1 row j = mj_i (mj_pI H row i (nI z)) row j := (F1.2 row h2).2.2.2
    have Fa : fc_F row H H1 := fc_trans fc_pI (fc_of F1)
    have Fb : fc_F row H (mj_pI H1 row i (mj_i H row i)) := fc_trans Fa fc_pI
    refine ⟨((F1.2 row h2).1).trans hq.2.2.1, h3, ?_⟩
    rw [((F1.2 row h2).2.1).trans (show mj_l (mj_pI H row i (nI z)) row = 26 from l26)]
    refine z_ixi hi (by decide) ?_
    rintro _ rfl
    rw [← z_add]
    refine snd _ (kq_fc hq Fb (cs_pI s1) hA h1 h2 (fun j hj => ?_)) Fb n1 u1
    by_cases hji : j = i
    · rw [hji, z_iIs]
      exact hq.2.2.2.2 i hi
    · rw [z_iIm hji, hrow1 j, z_iIm hji]
      exact hq.2.2.2.2 j hj
end CC
