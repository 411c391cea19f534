/-! THE FIRST TAG THAT MAY FAIL: the bodies of a tag, by both sides -/
section CT
variable {G Gm : mj_G} {w : Nat → Nat} {n t : Nat} {A : Nat → Prop} {hm : Int32}
/-- the kinds in a tag's first body -/
def cb_now (w : Nat → Nat) (p e : Nat) (now now1 : Nat → Nat) : Prop := (w (p + 1) = 42 ∧ tx_L (w (p + 2)) ∧ now1 = kn_u now (w (p + 2) - 97) 6) ∨ (w (p + 1) = 63 ∧ e = p + 3 ∧ tx_L (w (p + 2)) ∧ now1 = kn_u now (w (p + 2) - 97) (Nat.land (now (w (p + 2) - 97)) 14)) ∨ (w (p + 1) ≠ 42 ∧ ¬ (w (p + 1) = 63 ∧ e = p + 3 ∧ tx_L (w (p + 2))) ∧ now1 = now)
/-- how they are told -/
def cb_x (now now1 : Nat → Nat) (x3 x4 : Int32) : Prop := (x3 = Int32.ofInt (-1) ∧ now1 = now) ∨ ∃ i z, i < 26 ∧ x3 = nI i ∧ x4 = nI z ∧ now1 = kn_u now i z
theorem cb_now16 {p e : Nat} {now now1 : Nat → Nat} (h : cb_now w p e now now1) (hnow : ∀ i, now i < 16) : ∀ i, now1 i < 16 := by
  rcases h with ⟨-, -, rfl⟩ | ⟨-, -, -, rfl⟩ | ⟨-, -, rfl⟩
  · exact kn_u16 hnow (by decide)
  · exact kn_u16 hnow ((kb_f (hnow _) (g := 14) (by decide)).2.2.2.2.1)
  · exact hnow
theorem cb_cls {now now1 : Nat → Nat} {r p e d : Nat} {b dep : Int32} (hW : tx_W w n) (hnow : ∀ i, now i < 16) (hr : A r) (h2 : mj_k G r = 6) (h7 : mj_i G r 0 = nI (w (p + 1))) (h9 : tb_h A G r b w p e) (hc : cb_now w p e now now1) {H : mj_G} {row : Nat} {K : Int32 → mj_G → Prop} (hq : kq_C A G H row now)
    (h : ∀ x3 x4, cb_x now now1 x3 x4 → Fo_failingWithin_69 (d + 1) r row dep x3 x4 H K) : Fo_failingWithin (d + 1) r row dep H K := by
  have hw := tx_le hW (p + 1)
  obtain ⟨a1, -, a3, a4⟩ := hq.2.1 r hr
  refine w_Fo_failingWithin hq.1 ⟨a1.trans h2, ?_⟩
  rw [a4 0, h7, z_eq (by omega) (by decide), z_eq (by omega) (by decide), a3 6, a4 4]
  by_cases c42 : w (p + 1) = 42
  · have i4 : tx_L (w (p + 2)) ∧ mj_i G r 4 = nI (w (p + 2) - 97) := by
      rcases h9 with ⟨a, -⟩ | ⟨-, b1, -, -, b4, -⟩ | ⟨a, -⟩ | ⟨a, -⟩ | ⟨a, -⟩ | ⟨a, -⟩ | ⟨a, -⟩ | ⟨a, -⟩
      · omega
      · exact ⟨b1, b4⟩
      all_goals omega
    have hn1 : now1 = kn_u now (w (p + 2) - 97) 6 := by
      rcases hc with ⟨-, -, q⟩ | ⟨q, -⟩ | ⟨q, -⟩
      · exact q
      · omega
      · exact absurd c42 q
    have hL := i4.1
    unfold tx_L at hL
    refine z_bt c42 (h _ _ (Or.inr ⟨w (p + 2) - 97, 6, by omega, i4.2, rfl, hn1⟩))
  refine z_bf c42 ?_
  by_cases c63 : w (p + 1) = 63
  · refine z_bt c63 ?_
    obtain ⟨l, hE⟩ : ∃ l, tx_E l A G (mj_r G r 6) w (p + 2) e false := by
      rcases h9 with ⟨-, c, -⟩ | ⟨a, -⟩ | ⟨a, -⟩ | ⟨a, -⟩ | ⟨a, -⟩ | ⟨a, -⟩ | ⟨a, -⟩ | ⟨a, -⟩
      · exact c
      all_goals omega
    have hv := tx_E_var (tx_le hW) hE
    have hE' : A (mj_r G r 6) ∧ mj_r G r 6 ≠ 0 ∧ mj_k G (mj_r G r 6) = 1 := by
      cases l with
      | zero => exact hE.elim
      | succ l => exact ⟨hE.1, hE.2.1, hE.2.2.1⟩
    obtain ⟨e1, e2, e3⟩ := hE'
    obtain ⟨g1, -, -, g4⟩ := hq.2.1 _ e1
    refine z_bf e2 ⟨g1.trans e3, ?_⟩
    rw [g4 0, g4 1, hq.2.2.2.1]
    rcases hv with ⟨v1, v2, v3, v4⟩ | ⟨v1, v2⟩
    · have hn1 : now1 = kn_u now (w (p + 2) - 97) (Nat.land (now (w (p + 2) - 97)) 14) := by
        rcases hc with ⟨q, -⟩ | ⟨-, -, -, q⟩ | ⟨-, q, -⟩
        · omega
        · exact q
        · exact absurd ⟨c63, v2, v3⟩ q
      have hL := v3
      unfold tx_L at hL
      refine z_bt v1 ⟨hq.2.2.1, ?_⟩
      rw [v4]
      refine z_ixi (by omega) (by decide) ?_
      rw [hq.2.2.2.2 _ (by omega), (kb_f (hnow _) (g := 14) (by decide)).2.2.2.2.2]
      exact h _ _ (Or.inr ⟨w (p + 2) - 97, _, by omega, rfl, rfl, hn1⟩)
    · refine z_bf v1 (h _ _ (Or.inl ⟨rfl, ?_⟩))
      rcases hc with ⟨q, -⟩ | ⟨-, q1, q2, -⟩ | ⟨-, -, q⟩
      · omega
      · exact absurd ⟨q1, q2⟩ v2
      · exact q
  · refine z_bf c63 (h _ _ (Or.inl ⟨rfl, ?_⟩))
    rcases hc with ⟨q, -⟩ | ⟨q, -⟩ | ⟨-, -, q⟩
    · exact absurd q c42
    · exact absurd q c63
    · exact q
theorem cb_mod {now now1 : Nat → Nat} {r p e d X6 : Nat} {b x5 : Int32} {f : mm_F} {K : Int32 → mm_F → Prop} (hM : mm_S Gm) (hW : tx_W w n) (hnow : ∀ i, now i < 16) (hd : 30 ≤ d) (h5 : w p = 123) (h6 : tx_T (w (p + 1))) (h9 : tb_h A G r b w p e) (h10 : w e = 125) (hc : cb_now w p e now now1) (hk : kn_C now f t w n)
    (mt : ∀ d K, 18 ≤ d → K x5 f → m_turnOf Gm d (nI t) (nI p) f K) (mc : ∀ d K, 18 ≤ d → K (nI X6) f → m_closeOf Gm d (nI t) (nI p) f K)
    (h : ∀ x8 s0, cb_x now now1 x8 s0 → m_checksBodies_119 Gm (d + 1) (nI t) x5 (nI X6) (nI (e + 1)) x8 s0 f K) : m_checksBodies Gm (d + 1) (nI (w (p + 1))) (nI t) (nI p) f K := by
  have hn := hW.1
  have hw := tx_le hW (p + 1)
  have hw2 := tx_le hW (p + 2)
  have hen := tx_in hW (k := e) (by omega)
  obtain ⟨e1, -⟩ := tb_h_ch h9
  refine w_m_checksBodies hM (by omega) (mt d _ (by omega) (mc d _ (by omega) (c_tagEnd hM hk.1 (by omega) h9 h5 h10 ?_)))
  rw [z_add, z_add, z_add, z_eq (by omega) (by decide), z_eq (by omega) (by omega)]
  -- behind: whether the expression is a variable alone
  have nov : now1 = now → ¬ w (p + 1) = 42 → m_checksBodies_59 Gm (d + 1) (nI (w (p + 1))) (nI t) (nI p) x5 (nI X6) (nI (e + 1)) (nI 0) f K := fun q1 q2 => by
    refine w_m_checksBodies_59 hM (z_bt rfl ?_)
    rw [z_eq (by omega) (by decide)]
    exact z_bf q2 (z_bf q2 (z_bt rfl (h _ _ (Or.inl ⟨rfl, q1⟩))))
  by_cases c63 : w (p + 1) = 63
  · refine z_bt c63 (z_br (fun q => ?_) (fun q => ?_))
    · refine c_letter hM hk.1 (by omega) ?_
      rw [tx_nxL hW]
      refine z_br (fun hL => ?_) (fun hL => ?_)
      · have hn1 : now1 = kn_u now (w (p + 2) - 97) (Nat.land (now (w (p + 2) - 97)) 14) := by
          rcases hc with ⟨q, -⟩ | ⟨-, -, -, q⟩ | ⟨-, q', -⟩
          · omega
          · exact q
          · exact absurd ⟨c63, by omega, hL⟩ q'
        have hL' := hL
        unfold tx_L at hL'
        refine w_m_checksBodies_59 hM (z_bf (by decide) ?_)
        rw [z_add]
        refine c_letter hM hk.1 (by omega) ?_
        rw [tx_nxi (by omega), z_sub (by omega), z_eq (by omega) (by decide)]
        refine z_bf (by omega) (z_bf (by decide) (z_ixi (by omega) (by decide) ?_))
        rw [hk.2 _ (by omega), (kb_f (hnow _) (g := 14) (by decide)).2.2.2.2.2]
        exact h _ _ (Or.inr ⟨w (p + 2) - 97, _, by omega, rfl, rfl, hn1⟩)
      · refine nov ?_ (by omega)
        rcases hc with ⟨q, -⟩ | ⟨-, -, q, -⟩ | ⟨-, -, q⟩
        · omega
        · exact absurd q hL
        · exact q
    · refine nov ?_ (by omega)
      rcases hc with ⟨q', -⟩ | ⟨-, q', -⟩ | ⟨-, -, q'⟩
      · omega
      · omega
      · exact q'
  · refine z_bf c63 ?_
    by_cases c42 : w (p + 1) = 42
    · have hL : tx_L (w (p + 2)) ∧ now1 = kn_u now (w (p + 2) - 97) 6 := by
        rcases hc with ⟨-, q1, q2⟩ | ⟨q, -⟩ | ⟨q, -⟩
        · exact ⟨q1, q2⟩
        · omega
        · exact absurd c42 q
      have hL' := hL.1
      unfold tx_L at hL'
      refine w_m_checksBodies_59 hM (z_bt rfl ?_)
      rw [z_eq (by omega) (by decide), z_add]
      refine z_bt c42 (c_letter hM hk.1 (by omega) ?_)
      rw [tx_nxi (by omega), z_sub (by omega)]
      exact z_bt c42 (h _ _ (Or.inr ⟨w (p + 2) - 97, 6, by omega, rfl, rfl, hL.2⟩))
    · refine nov ?_ c42
      rcases hc with ⟨q, -⟩ | ⟨q, -⟩ | ⟨-, -, q⟩
      · exact absurd q c42
      · exact absurd q c63
      · exact q
/-- a tag's bodies: what both sides find in them -/
theorem cb_tag {now : Nat → Nat} {k r p m : Nat} {b : Int32} {L1 : List (Nat × Nat)} (hM : mm_S Gm) (hW : tx_W w n) (hnow : ∀ i, now i < 16) (hA : ∀ a, A a → a < mj_n G) (hr : A r) (ht : tb_t k A G hm b r w p m L1) (hmn : m ≤ n) (h36 : w (p + 1) ≠ 36)
    (ih : ∀ {b : Int32} {r p' q : Nat} {L : List (Nat × Nat)} {now : Nat → Nat}, (∀ i, now i < 16) → tb_B k A G hm b r w p' q L → q ≤ n → ∃ v, cb_C A G now r p' q v ∧ cb_M Gm t w n now p' q v ∧ (r = 0 → v = Int32.ofInt (-1))) :
    ∃ v, (∀ H row dep, kq_C A G H row now → mj_n G ≤ row → row < mj_n H → 3 ≤ row → dep ≤ p → ∀ d K, 3 * (m - p) + 448 ≤ d → (∀ H', cs_S H' → fc_F row H H' → (∀ i, i < 26 → mj_i H' row i = nI (now i)) → mj_n H' ≤ mj_n H + (m - p) → mj_u H' ≤ mj_u H + 26 * (m - p) → K v H') → Fo_failingWithin d r row (nI dep) H K) ∧
      (tx_B (w (p + 1)) → ∀ f lv, kn_C now f t w n → f 1714 74 = nI lv → 3 * lv ≤ p + 3 → ∀ d K, 3 * (m - p) + 557 ≤ d → (∀ f', fk_F lv f f' → (∀ k, f' 1764 k = f 1764 k) → K v f') → m_checksBodies Gm d (nI (w (p + 1))) (nI t) (nI p) f K) ∧
      (¬ tx_B (w (p + 1)) → v = Int32.ofInt (-1)) := by
  have hn := hW.1
  obtain ⟨h1, h2, h3, h4, h5, h6, h7, e, h8, h9, h10, h11⟩ := ht
  have hw := tx_le hW (p + 1)
  have hen := tx_in hW (k := e) (by omega)
  -- the kinds in the first body
  obtain ⟨now1, hc⟩ : ∃ now1, cb_now w p e now now1 := by
    by_cases c42 : w (p + 1) = 42
    · have hL : tx_L (w (p + 2)) := by
        rcases h9 with ⟨a, -⟩ | ⟨-, b1, -⟩ | ⟨a, -⟩ | ⟨a, -⟩ | ⟨a, -⟩ | ⟨a, -⟩ | ⟨a, -⟩ | ⟨a, -⟩
        · omega
        · exact b1
        all_goals omega
      exact ⟨_, Or.inl ⟨c42, hL, rfl⟩⟩
    · by_cases c63 : w (p + 1) = 63 ∧ e = p + 3 ∧ tx_L (w (p + 2))
      · exact ⟨_, Or.inr (Or.inl ⟨c63.1, c63.2.1, c63.2.2, rfl⟩)⟩
      · exact ⟨_, Or.inr (Or.inr ⟨c42, c63, rfl⟩)⟩
  have hnow1 := cb_now16 hc hnow
  by_cases hB : tx_B (w (p + 1))
  case neg =>
    -- no bodies
    obtain ⟨r8, r9⟩ : mj_r G r 8 = 0 ∧ mj_r G r 9 = 0 := by
      rcases h11 with ⟨-, -, -, a, a'⟩ | ⟨a, -⟩ | ⟨a, -⟩
      · exact ⟨a, a'⟩
      · exact absurd a hB
      · exact absurd (by unfold tx_B; omega) hB
    refine ⟨Int32.ofInt (-1), fun H row dep hq g1 g2 g3 hdep d K hd hK => ?_, fun q => absurd q hB, fun _ => rfl⟩
    obtain ⟨d, rfl⟩ : ∃ e, d = e + 1 := ⟨d - 1, by omega⟩
    refine cb_cls hW hnow hr h2 h7 h9 hc hq (fun x3 x4 hx => ?_)
    refine cb_69 (c1 := 0) (c2 := 0) (v1 := Int32.ofInt (-1)) (v2 := Int32.ofInt (-1)) hA hr h2 hq g1 g2 g3 hx (by rw [r8]; exact cb_Wn (by omega)) (by rw [r9]; exact cb_Wn (by omega)) (fun H' s F i n u => ?_)
    rw [if_pos rfl]
    exact hK H' s F i (by omega) (by omega)
  -- the first body, the second one or none
  have bod : ∃ q1 X6 x5 v2 b1 La c2, tb_B k A G hm b1 (mj_r G r 8) w (e + 1) q1 La ∧ q1 ≤ n ∧ X6 + 3 = m ∧ q1 ≤ X6 ∧ q1 - e + c2 ≤ m - p ∧ ((x5 = Int32.ofInt (-1) ∧ q1 = X6 ∧ v2 = Int32.ofInt (-1)) ∨ (¬ x5 = Int32.ofInt (-1) ∧ x5 = nI q1)) ∧
      (∀ f, kn_C now f t w n → ∀ d K, 18 ≤ d → K x5 f → m_turnOf Gm d (nI t) (nI p) f K) ∧ (∀ f, kn_C now f t w n → ∀ d K, 18 ≤ d → K (nI X6) f → m_closeOf Gm d (nI t) (nI p) f K) ∧
      (∀ row dep d, 3 ≤ row → dep ≤ p → 3 * (m - p) + 447 ≤ d → cb_W A G now (mj_r G r 9) row (dep + 1) c2 d v2) ∧
      (¬ x5 = Int32.ofInt (-1) → ∀ f lv, kn_C now f t w n → f 1714 74 = nI lv → 3 * lv ≤ p + 3 → ∀ d K, 3 * (m - p) + 556 ≤ d → (∀ f', fk_F lv f f' → (∀ k, f' 1764 k = f 1764 k) → K v2 f') → m_checks Gm d (nI t) (x5 + nI 3) (nI X6) (Int32.ofInt (-1)) (nI 0) f K) := by
    rcases h11 with ⟨a, -⟩ | ⟨a0, a1, ar, q1, a2, a3, a4, a5, rfl⟩ | ⟨a0, q1, q2, La, Lb, a2, a3, a4, a5, a6, a7, a8, a9, rfl, -⟩
    · exact absurd hB a
    · have hle1 := tb_le a2
      refine ⟨q1, q1, Int32.ofInt (-1), Int32.ofInt (-1), _, _, 0, a2, Nat.le_of_lt (tx_in hW (by omega)), rfl, Nat.le_refl _, by omega, Or.inl ⟨rfl, rfl, rfl⟩, fun f hk d K hd hK => c_turnOf hM hk.1 hd h9 h5 h10 a2 a3 (Or.inr a4) (fun q => absurd q (by omega)) (fun _ => hK), fun f hk d K hd hK => c_closeOf hM hk.1 hd h9 h5 h10 a2 a3 (Or.inr a4) (fun _ => hK) (fun q => absurd q (by omega)), fun row dep d h3 hdep hd => ?_, fun q => absurd rfl q⟩
      rw [ar]
      exact cb_Wn (by omega)
    · have hq2 : q2 ≤ n := Nat.le_of_lt (tx_in hW (by omega))
      have hle1 := tb_le a2
      have hle2 := tb_le a6
      have hq1n : q1 + 2 < n := tx_in hW (by omega)
      obtain ⟨v2, t1, t2, t3⟩ := ih (now := now) hnow a6 hq2
      refine ⟨q1, q2, nI q1, v2, _, _, q2 - (q1 + 3) + 1, a2, by omega, rfl, by omega, by omega, Or.inr ⟨z_m1n (by omega), rfl⟩, fun f hk d K hd hK => c_turnOf hM hk.1 hd h9 h5 h10 a2 a3 (Or.inl a4) (fun _ => hK) (fun q => absurd q (by omega)), fun f hk d K hd hK => c_closeOf hM hk.1 hd h9 h5 h10 a2 a3 (Or.inl a4) (fun q => absurd q (by omega)) (fun _ => ⟨q2, k, _, _, Lb, a6, a7, a8, hK⟩), fun row dep d h3 hdep hd H hq hn K hK => ?_, fun _ f lv hk h74 hlv d K hd hK => ?_⟩
      · exact cb_ff (s := q1 + 3) hA t1 t3 hq hn h3 (by omega) (by omega) (by omega) (fun H' s F nn u => hK H' s F (by omega) (by omega))
      · rw [z_add]
        exact cb_chk hM (by omega) t2 hk h74 (by omega) (Or.inl ⟨rfl, rfl⟩) (by omega) hK
  obtain ⟨q1, X6, x5, v2, b1, La, c2, a2, hq1, rfl, hqX, hcc, hx, mt, mc, sc, sm⟩ := bod
  have hle := tb_le a2
  obtain ⟨v1, t1, t2, t3⟩ := ih hnow1 a2 hq1
  refine ⟨if v1 = Int32.ofInt (-1) then v2 else v1, fun H row dep hq g1 g2 g3 hdep d K hd hK => ?_, fun _ f lv hk h74 hlv d K hd hK => ?_, fun q => absurd hB q⟩
  · obtain ⟨d, rfl⟩ : ∃ e, d = e + 1 := ⟨d - 1, by omega⟩
    refine cb_cls hW hnow hr h2 h7 h9 hc hq (fun x3 x4 hx => ?_)
    refine cb_69 (now1 := now1) (c1 := q1 - e) (c2 := c2) hA hr h2 hq g1 g2 g3 hx (fun H hq hn K hK => ?_) (sc row dep d g3 hdep (by omega)) (fun H' s F i n u => hK H' s F i (by omega) (by omega))
    exact cb_ff (s := e + 1) hA t1 t3 hq hn g3 (by omega) (by omega) (by omega) (fun H' s F nn u => hK H' s F (by omega) (by omega))
  · obtain ⟨d, rfl⟩ : ∃ e, d = e + 1 := ⟨d - 1, by omega⟩
    refine cb_mod hM hW hnow (by omega) h5 h6 h9 h10 hc hk (mt f hk) (mc f hk) (fun x8 s0 hx8 => ?_)
    have fst : ∀ K, (∀ f', fk_F lv f f' → (∀ k, f' 1764 k = f 1764 k) → K v1 f') → m_checks Gm d (nI t) (nI (e + 1)) (nI q1) x8 s0 f K := fun K hK => cb_chk hM (by omega) t2 hk h74 (by omega) hx8 (by omega) hK
    rcases hx with ⟨rfl, rfl, rfl⟩ | ⟨x1, x2⟩
    · refine w_m_checksBodies_119 hM (z_bt rfl (fst _ (fun f' g1 g2 => ?_)))
      have hh := hK f' g1 g2
      refine z_br (fun hv => z_bt rfl ?_) (fun hv => ?_)
      · rw [if_pos hv, ← hv] at hh
        exact hh
      · rw [if_neg hv] at hh
        exact hh
    · subst x2
      refine w_m_checksBodies_119 hM (z_bf x1 (fst _ (fun f' g1 g2 => ?_)))
      refine z_br (fun hv => z_bf x1 ?_) (fun hv => ?_)
      · refine sm x1 f' lv (kn_fk hk g1 g2) ((g1.2.1 74 (by decide) (by decide) (by decide)).trans h74) hlv d _ (by omega) (fun f2 g3 g4 => ?_)
        have hh := hK f2 (fk_trans g1 g3) (fun k => (g4 k).trans (g2 k))
        rw [if_pos hv] at hh
        exact hh
      · have hh := hK f' g1 g2
        rw [if_neg hv] at hh
        exact hh
end CT
