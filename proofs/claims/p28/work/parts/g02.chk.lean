/-! WHERE A TAG MAY FAIL: none, or a place -/
def rg (v : Int32) : Prop := v = Int32.ofInt (-1) ∨ ∃ x, x < 80 ∧ v = nI x
theorem rg_if {v1 v2 : Int32} (h1 : rg v1) (h2 : rg v2) : rg (if v1 = Int32.ofInt (-1) then v2 else v1) := by
  by_cases q : v1 = Int32.ofInt (-1)
  · rw [if_pos q]; exact h2
  · rw [if_neg q]; exact h1
section G0C
variable {G Gm : mj_G} {w : Nat → Nat} {n t : Nat} {A : Nat → Prop} {hm : Int32}
theorem cw_tag {now : Nat → Nat} {k r p m : Nat} {b : Int32} {L1 : List (Nat × Nat)} (hM : mm_S Gm) (hW : tx_W w n) (hnow : ∀ i, now i < 16) (hA : ∀ a, A a → a < mj_n G) (hr : A r) (ht : tb_t k A G hm b r w p m L1) (hmn : m ≤ n) (h36 : w (p + 1) ≠ 36)
    (ih : ∀ {b : Int32} {r p' q : Nat} {L : List (Nat × Nat)} {now : Nat → Nat}, (∀ i, now i < 16) → tb_B k A G hm b r w p' q L → q ≤ n → ∃ v, cb_C A G now r p' q v ∧ cb_M Gm t w n now p' q v ∧ ((r = 0 → v = Int32.ofInt (-1)) ∧ rg v)) :
    ∃ v, (∀ H row dep, kq_C A G H row now → mj_n G ≤ row → row < mj_n H → 3 ≤ row → dep ≤ p → ∀ d K, 3 * (m - p) + 448 ≤ d → (∀ H', cs_S H' → fc_F row H H' → (∀ i, i < 26 → mj_i H' row i = nI (now i)) → mj_n H' ≤ mj_n H + (m - p) → mj_u H' ≤ mj_u H + 26 * (m - p) → K v H') → Fo_failingWithin d r row (nI dep) H K) ∧
      (tx_B (w (p + 1)) → ∀ f lv, kn_C now f t w n → f 1714 74 = nI lv → 3 * lv ≤ p + 3 → ∀ d K, 3 * (m - p) + 557 ≤ d → (∀ f', fk_F lv f f' → (∀ k, f' 1764 k = f 1764 k) → K v f') → m_checksBodies Gm d (nI (w (p + 1))) (nI t) (nI p) f K) ∧
      ((¬ tx_B (w (p + 1)) → v = Int32.ofInt (-1)) ∧ rg v) := by
  have hn := hW.1
  obtain ⟨h1, h2, h3, h4, h5, h6, h7, e, h8, h9, h10, h11⟩ := ht
  have hw := tx_le hW (p + 1)
  have hen := tx_in hW (k := e) (by omega)
  -- the kinds in the first body
  obtain ⟨now1, hc⟩ : ∃ now1, cb_now w p e now now1 := by
    by_cases c42 : w (p + 1) = 42
    · have hL : tx_L (w (p + 2)) := by
        rcases h9 with ⟨a, -⟩ | ⟨-, b1, -⟩ | ⟨a, -⟩ | ⟨a, -⟩ | ⟨a, -⟩ | ⟨a, -⟩ | ⟨a, -⟩ | ⟨a, -⟩
        · omega
        · exact b1
        all_goals omega
      exact ⟨_, Or.inl ⟨c42, hL, rfl⟩⟩
    · by_cases c63 : w (p + 1) = 63 ∧ e = p + 3 ∧ tx_L (w (p + 2))
      · exact ⟨_, Or.inr (Or.inl ⟨c63.1, c63.2.1, c63.2.2, rfl⟩)⟩
      · exact ⟨_, Or.inr (Or.inr ⟨c42, c63, rfl⟩)⟩
  have hnow1 := cb_now16 hc hnow
  by_cases hB : tx_B (w (p + 1))
  case neg =>
    -- no bodies
    obtain ⟨r8, r9⟩ : mj_r G r 8 = 0 ∧ mj_r G r 9 = 0 := by
      rcases h11 with ⟨-, -, -, a, a'⟩ | ⟨a, -⟩ | ⟨a, -⟩
      · exact ⟨a, a'⟩
      · exact absurd a hB
      · exact absurd (by unfold tx_B; omega) hB
    refine ⟨Int32.ofInt (-1), fun H row dep hq g1 g2 g3 hdep d K hd hK => ?_, fun q => absurd q hB, ⟨fun _ => rfl, Or.inl rfl⟩⟩
    obtain ⟨d, rfl⟩ : ∃ e, d = e + 1 := ⟨d - 1, by omega⟩
    refine cb_cls hW hnow hr h2 h7 h9 hc hq (fun x3 x4 hx => ?_)
    refine cb_69 (c1 := 0) (c2 := 0) (v1 := Int32.ofInt (-1)) (v2 := Int32.ofInt (-1)) hA hr h2 hq g1 g2 g3 hx (by rw [r8]; exact cb_Wn (by omega)) (by rw [r9]; exact cb_Wn (by omega)) (fun H' s F i n u => ?_)
    rw [if_pos rfl]
    exact hK H' s F i (by omega) (by omega)
  -- the first body, the second one or none
  have bod : ∃ q1 X6 x5 v2 b1 La c2, tb_B k A G hm b1 (mj_r G r 8) w (e + 1) q1 La ∧ q1 ≤ n ∧ X6 + 3 = m ∧ q1 ≤ X6 ∧ q1 - e + c2 ≤ m - p ∧ ((x5 = Int32.ofInt (-1) ∧ q1 = X6 ∧ v2 = Int32.ofInt (-1)) ∨ (¬ x5 = Int32.ofInt (-1) ∧ x5 = nI q1)) ∧
      (∀ f, kn_C now f t w n → ∀ d K, 18 ≤ d → K x5 f → m_turnOf Gm d (nI t) (nI p) f K) ∧ (∀ f, kn_C now f t w n → ∀ d K, 18 ≤ d → K (nI X6) f → m_closeOf Gm d (nI t) (nI p) f K) ∧
      (∀ row dep d, 3 ≤ row → dep ≤ p → 3 * (m - p) + 447 ≤ d → cb_W A G now (mj_r G r 9) row (dep + 1) c2 d v2) ∧
      (¬ x5 = Int32.ofInt (-1) → ∀ f lv, kn_C now f t w n → f 1714 74 = nI lv → 3 * lv ≤ p + 3 → ∀ d K, 3 * (m - p) + 556 ≤ d → (∀ f', fk_F lv f f' → (∀ k, f' 1764 k = f 1764 k) → K v2 f') → m_checks Gm d (nI t) (x5 + nI 3) (nI X6) (Int32.ofInt (-1)) (nI 0) f K) ∧ rg v2 := by
    rcases h11 with ⟨a, -⟩ | ⟨a0, a1, ar, q1, a2, a3, a4, a5, rfl⟩ | ⟨a0, q1, q2, La, Lb, a2, a3, a4, a5, a6, a7, a8, a9, rfl, -⟩
    · exact absurd hB a
    · have hle1 := tb_le a2
      refine ⟨q1, q1, Int32.ofInt (-1), Int32.ofInt (-1), _, _, 0, a2, Nat.le_of_lt (tx_in hW (by omega)), rfl, Nat.le_refl _, by omega, Or.inl ⟨rfl, rfl, rfl⟩, fun f hk d K hd hK => c_turnOf hM hk.1 hd h9 h5 h10 a2 a3 (Or.inr a4) (fun q => absurd q (by omega)) (fun _ => hK), fun f hk d K hd hK => c_closeOf hM hk.1 hd h9 h5 h10 a2 a3 (Or.inr a4) (fun _ => hK) (fun q => absurd q (by omega)), fun row dep d h3 hdep hd => ?_, fun q => absurd rfl q, Or.inl rfl⟩
      rw [ar]
      exact cb_Wn (by omega)
    · have hq2 : q2 ≤ n := Nat.le_of_lt (tx_in hW (by omega))
      have hle1 := tb_le a2
      have hle2 := tb_le a6
      have hq1n : q1 + 2 < n := tx_in hW (by omega)
      obtain ⟨v2, t1, t2, t3⟩ := ih (now := now) hnow a6 hq2
      refine ⟨q1, q2, nI q1, v2, _, _, q2 - (q1 + 3) + 1, a2, by omega, rfl, by omega, by omega, Or.inr ⟨z_m1n (by omega), rfl⟩, fun f hk d K hd hK => c_turnOf hM hk.1 hd h9 h5 h10 a2 a3 (Or.inl a4) (fun _ => hK) (fun q => absurd q (by omega)), fun f hk d K hd hK => c_closeOf hM hk.1 hd h9 h5 h10 a2 a3 (Or.inl a4) (fun q => absurd q (by omega)) (fun _ => ⟨q2, k, _, _, Lb, a6, a7, a8, hK⟩), fun row dep d h3 hdep hd H hq hn K hK => ?_, fun _ f lv hk h74 hlv d K hd hK => ?_, t3.2⟩
      · exact cb_ff (s := q1 + 3) hA t1 t3.1 hq hn h3 (by omega) (by omega) (by omega) (fun H' s F nn u => hK H' s F (by omega) (by omega))
      · rw [z_add]
        exact cb_chk hM (by omega) t2 hk h74 (by omega) (Or.inl ⟨rfl, rfl⟩) (by omega) hK
  obtain ⟨q1, X6, x5, v2, b1, La, c2, a2, hq1, rfl, hqX, hcc, hx, mt, mc, sc, sm, hv2⟩ := bod
  have hle := tb_le a2
  obtain ⟨v1, t1, t2, t3⟩ := ih hnow1 a2 hq1
  refine ⟨if v1 = Int32.ofInt (-1) then v2 else v1, fun H row dep hq g1 g2 g3 hdep d K hd hK => ?_, fun _ f lv hk h74 hlv d K hd hK => ?_, ⟨fun q => absurd hB q, rg_if t3.2 hv2⟩⟩
  · obtain ⟨d, rfl⟩ : ∃ e, d = e + 1 := ⟨d - 1, by omega⟩
    refine cb_cls hW hnow hr h2 h7 h9 hc hq (fun x3 x4 hx => ?_)
    refine cb_69 (now1 := now1) (c1 := q1 - e) (c2 := c2) hA hr h2 hq g1 g2 g3 hx (fun H hq hn K hK => ?_) (sc row dep d g3 hdep (by omega)) (fun H' s F i n u => hK H' s F i (by omega) (by omega))
    exact cb_ff (s := e + 1) hA t1 t3.1 hq hn g3 (by omega) (by omega) (by omega) (fun H' s F nn u => hK H' s F (by omega) (by omega))
  · obtain ⟨d, rfl⟩ : ∃ e, d = e + 1 := ⟨d - 1, by omega⟩
    refine cb_mod hM hW hnow (by omega) h5 h6 h9 h10 hc hk (mt f hk) (mc f hk) (fun x8 s0 hx8 => ?_)
    have fst : ∀ K, (∀ f', fk_F lv f f' → (∀ k, f' 1764 k = f 1764 k) → K v1 f') → m_checks Gm d (nI t) (nI (e + 1)) (nI q1) x8 s0 f K := fun K hK => cb_chk hM (by omega) t2 hk h74 (by omega) hx8 (by omega) hK
    rcases hx with ⟨rfl, rfl, rfl⟩ | ⟨x1, x2⟩
    · refine w_m_checksBodies_119 hM (z_bt rfl (fst _ (fun f' g1 g2 => ?_)))
      have hh := hK f' g1 g2
      refine z_br (fun hv => z_bt rfl ?_) (fun hv => ?_)
      · rw [if_pos hv, ← hv] at hh
        exact hh
      · rw [if_neg hv] at hh
        exact hh
    · subst x2
      refine w_m_checksBodies_119 hM (z_bf x1 (fst _ (fun f' g1 g2 => ?_)))
      refine z_br (fun hv => z_bf x1 ?_) (fun hv => ?_)
      · refine sm x1 f' lv (kn_fk hk g1 g2) ((g1.2.1 74 (by decide) (by decide) (by decide)).trans h74) hlv d _ (by omega) (fun f2 g3 g4 => ?_)
        have hh := hK f2 (fk_trans g1 g3) (fun k => (g4 k).trans (g2 k))
        rw [if_pos hv] at hh
        exact hh
      · have hh := hK f' g1 g2
        rw [if_neg hv] at hh
        exact hh
theorem cw_step {now : Nat → Nat} {k r p m q : Nat} {b : Int32} {L1 L2 : List (Nat × Nat)} (hM : mm_S Gm) (hW : tx_W w n) (hnow : ∀ i, now i < 16) (hA : ∀ a, A a → a < mj_n G) (hG : 3 ≤ mj_n G) (hr : A r) (ht : tb_t k A G hm b r w p m L1) (hmq : m ≤ q) (hq : q ≤ n) (h13 : tb_B k A G hm b (mj_r G r 10) w m q L2)
    (ih : ∀ {b : Int32} {r p' q : Nat} {L : List (Nat × Nat)} {now : Nat → Nat}, (∀ i, now i < 16) → tb_B k A G hm b r w p' q L → q ≤ n → ∃ v, cb_C A G now r p' q v ∧ cb_M Gm t w n now p' q v ∧ ((r = 0 → v = Int32.ofInt (-1)) ∧ rg v)) :
    ∃ v, cb_C A G now r p q v ∧ cb_M Gm t w n now p q v ∧ ((r = 0 → v = Int32.ofInt (-1)) ∧ rg v) := by
  have hn := hW.1
  have ht' := ht
  obtain ⟨h1, h2, h3, h4, h5, h6, h7, e, h8, h9, h10, h11⟩ := ht
  have hw := tx_le hW (p + 1)
  have hen := tx_in hW (k := e) (by omega)
  have hpm : e + 1 ≤ m := by
    rcases h11 with ⟨-, rfl, -⟩ | ⟨-, -, -, q1, a2, -, -, -, rfl⟩ | ⟨-, q1, q2, La, Lb, a2, -, -, -, a6, -, -, -, rfl, -⟩
    · omega
    · have := tb_le a2
      omega
    · have := tb_le a2
      have := tb_le a6
      omega
  have hpn : p < n := by omega
  obtain ⟨bad, v0, b1, b2, b3, b4, b5⟩ := ct_tag (Gm := Gm) (t := t) hM hW hnow hr ht'
  -- the kinds behind the tag
  obtain ⟨now2, hn2, hn16⟩ : ∃ now2, now2 = (if w (p + 1) = 37 then kn_u now (w (p + 2) - 97) v0 else now) ∧ ∀ i, now2 i < 16 := by
    refine ⟨_, rfl, ?_⟩
    by_cases c : w (p + 1) = 37
    · rw [if_pos c]; exact kn_u16 hnow b1
    · rw [if_neg c]; exact hnow
  obtain ⟨vn, n1, n2, n3⟩ := ih hn16 h13 hq
  -- the model behind the tag
  have beh : ∀ d lv f8 v9 K, 18 ≤ d → mt_T f8 t w n → m_checks_73 Gm (d + 1) (nI t) (nI q) (nI lv) v9 (nI m) f8 K → m_letter Gm d (nI t) (nI p + nI 1) f8 (fun v11 f10 => mm_br (qb (q_13070 v11) = true) (m_closeOf Gm d (nI t) (nI p) f10 (fun v15 f14 => m_checks_73 Gm (d + 1) (nI t) (nI q) (nI lv) v9 (v15 + (nI 3)) f14 K)) (m_endOf Gm d (nI t) (nI p) f10 (fun v13 f12 => m_checks_73 Gm (d + 1) (nI t) (nI q) (nI lv) v9 (v13 + (nI 1)) f12 K))) := fun d lv f8 v9 K hd hT h => by
    rw [z_add]
    exact c_behindTag (K := fun v f' => m_checks_73 Gm (d + 1) (nI t) (nI q) (nI lv) v9 v f' K) hM hT hd ht' h
  have top : ∀ f lv, kn_C now f t w n → ∀ d K, 30 ≤ d → m_checksTag Gm d (nI t) (nI p) f (fun v9 f8 => mt_T f8 t w n ∧ m_checks_73 Gm (d + 1) (nI t) (nI q) (nI lv) v9 (nI m) f8 K) → m_checks_73 Gm (d + 1) (nI t) (nI q) (nI lv) (Int32.ofInt (-1)) (nI p) f K := fun f lv hk d K hd h => by
    refine w_m_checks_73 hM (by omega) (z_bf (by rw [z_le (by omega) (by omega)]; omega) (z_bt rfl (c_letter hM hk.1 (by omega) ?_)))
    rw [tx_nxe hW (by decide)]
    refine z_bt h5 (mj_X_mono h (fun o G1 ⟨v, o1, f1, o2, o3, o4⟩ => ⟨v, o1, f1, o2, ?_⟩))
    exact beh d lv f1 v K (by omega) o3 o4
  -- the class up to the tag
  have cls : ∀ H row dep, kq_C A G H row now → w (p + 1) ≠ 36 → ∀ d K, 420 ≤ d → (bad = true → K (nI p) H) → (bad = false → Fo_failingWithin d r row (nI dep) H (fun v10 G9 => mm_br (v10 = Int32.ofInt (-1)) ((mj_k G9 r = 6) ∧ mm_br ((mj_i G9 r 0) = (nI 37)) (mm_br ((mj_i G9 r 4) < (nI 0)) (Fo_firstFailing_23 (d + 1) (nI dep) row (mj_r G9 r 10) G9 K) (Fo_kindsOf d (mj_r G9 r 6) row (nI 0) G9 (fun v13 G12 => (mj_k G12 row = 20) ∧ (3 ≤ row) ∧ mm_ix (mj_i G9 r 4) (mj_l G12 row) (fun n16 => ∀ G18, G18 = mj_pI G12 row n16 (v13 &&& (nI 15)) → (mj_k G18 r = 6) ∧ Fo_firstFailing_23 (d + 1) (nI dep) row (mj_r G18 r 10) G18 K)))) (Fo_firstFailing_23 (d + 1) (nI dep) row (mj_r G9 r 10) G9 K)) (K v10 G9))) → Fo_firstFailing_23 (d + 1) (nI dep) row r H K := fun H row dep hq h36 d K hd k1 k2 => by
    obtain ⟨a1, -, a3, a4⟩ := hq.2.1 r hr
    refine w_Fo_firstFailing_23 hq.1 (z_bf h1 ⟨a1.trans h2, ?_⟩)
    rw [a4 0, h7, z_eq (by omega) (by decide), z_eq (by omega) (by decide)]
    refine z_bf (by unfold tx_T at h6; omega) (z_bf h36 (b2 h36 H row hq d _ hd ?_))
    cases bad with
    | true =>
      refine z_bt rfl ⟨a1.trans h2, ?_⟩
      rw [a4 2, h4]
      exact z_bf (z_m1n (by omega)) (k1 rfl)
    | false =>
      have k2' := k2 rfl
      refine z_bf (by decide) ?_
      exact k2'
  by_cases c36 : w (p + 1) = 36
  · -- a macro: gone over
    have hb0 := b5 c36
    have e2 : now2 = now := by rw [hn2, if_neg (by omega)]
    rw [e2] at n1 n2
    refine ⟨vn, fun H row dep hq g1 g2 hdep d K hd hK => ?_, fun f lv hk h74 hlv d K hd hK => ?_, ⟨fun h => absurd h h1, n3.2⟩⟩
    · obtain ⟨d, rfl⟩ : ∃ e, d = e + 1 := ⟨d - 1, by omega⟩
      obtain ⟨a1, -, a3, a4⟩ := hq.2.1 r hr
      refine w_Fo_firstFailing_23 hq.1 (z_bf h1 ⟨a1.trans h2, ?_⟩)
      rw [a4 0, h7, z_eq (by omega) (by decide), z_eq (by omega) (by decide), a3 10]
      exact z_bf (by omega) (z_bt c36 (n1 H row dep hq g1 g2 (by omega) (d + 1) K (by omega) (fun H' s F n u => hK H' s F (by omega) (by omega))))
    · obtain ⟨d, rfl⟩ : ∃ e, d = e + 2 := ⟨d - 2, by omega⟩
      refine top f lv hk (d + 1) K (by omega) (b4 f (lv + 1) hk d _ (by omega) (fun f' x4 g1 g2 g3 _ => ?_))
      refine w_m_checksTag_143 hM (by omega) ?_
      rw [g3, hb0, z_13070 (by omega), z_eq (by omega) (by decide), z_eq (by omega) (by decide)]
      refine z_bt rfl (z_bf (by omega) (z_bt (by unfold tx_B; omega) (z_bt c36 ⟨fk_mt hk.1 g1, ?_⟩)))
      exact n2 f' lv (kn_fk hk g1 g2) ((g1.2.1 74 (by decide) (by decide) (by decide)).trans h74) (by omega) (d + 2) K (by omega) (fun f2 g4 g5 => hK f2 (fk_end g1 g4) (fun j hj => (g5 j hj).trans (g1.2.2.1 _ (by omega))))
  obtain ⟨v1, t1, t2, t3⟩ := cw_tag hM hW hnow hA hr ht' (by omega) c36 ih
  cases hbad : bad with
  | true =>
    refine ⟨nI p, fun H row dep hq g1 g2 hdep d K hd hK => ?_, fun f lv hk h74 hlv d K hd hK => ?_, ⟨fun h => absurd h h1, Or.inr ⟨p, by omega, rfl⟩⟩⟩
    · obtain ⟨d, rfl⟩ : ∃ e, d = e + 1 := ⟨d - 1, by omega⟩
      exact cls H row dep hq c36 d K (by omega) (fun _ => hK H hq.1 fc_rfl (by omega) (by omega)) (fun h => by rw [hbad] at h; cases h)
    · obtain ⟨d, rfl⟩ : ∃ e, d = e + 2 := ⟨d - 2, by omega⟩
      refine top f lv hk (d + 1) K (by omega) (b4 f (lv + 1) hk d _ (by omega) (fun f' x4 g1 g2 g3 _ => ?_))
      refine w_m_checksTag_143 hM (by omega) ?_
      rw [g3, hbad]
      refine z_bf (by decide) ⟨fk_mt hk.1 g1, ?_⟩
      exact cb_end hM (by omega) (by omega) ((g1.2.1 74 (by decide) (by decide) (by decide)).trans h74) (Or.inr (z_m1n (by omega))) (fun f2 g4 g5 => hK f2 (fk_end g1 g4) (fun j hj => (g5 j hj).trans (g1.2.2.1 _ (by omega))))
  | false =>
    -- the model behind the look at kinds
    have mb : ∀ f lv, kn_C now f t w n → f 1714 74 = nI (lv + 1) → 3 * lv ≤ p → ∀ d K, 3 * (m - p) + 559 ≤ d → (∀ f', fk_F (lv + 1) f f' → kn_C now2 f' t w n → K v1 f') → m_checksTag Gm d (nI t) (nI p) f K := fun f lv hk h74 hlv d K hd hK => by
      obtain ⟨d, rfl⟩ : ∃ e, d = e + 1 := ⟨d - 1, by omega⟩
      refine b4 f (lv + 1) hk d K (by omega) (fun f' x4 g1 g2 g3 g4 => ?_)
      refine w_m_checksTag_143 hM (by omega) ?_
      rw [g3, hbad, z_13070 (by omega), z_eq (by omega) (by decide), z_eq (by omega) (by decide)]
      refine z_bt rfl (z_br (fun c37 => ?_) (fun c37 => z_br (fun hB => z_bf c36 ?_) (fun hB => ?_)))
      · have hL : tx_L (w (p + 2)) := by
          rcases h9 with ⟨a, -⟩ | ⟨-, b1, -⟩ | ⟨a, -⟩ | ⟨a, -⟩ | ⟨a, -⟩ | ⟨a, -⟩ | ⟨a, -⟩ | ⟨a, -⟩
          · omega
          · exact b1
          all_goals omega
        have hL' := hL
        unfold tx_L at hL'
        have hnB : ¬ tx_B (w (p + 1)) := by unfold tx_B; omega
        rw [z_add]
        refine c_letter hM (fk_mt hk.1 g1) (by omega) ?_
        rw [tx_nxi (by omega), z_sub (by omega)]
        refine z_ixi (by omega) (by decide) (z_bf hnB ?_)
        rw [← t3.1 hnB, g4 c37]
        refine hK _ (fk_set g1 (by omega)) ⟨mt_o (fk_mt hk.1 g1) (fun k => z_u2n (by decide)) (fun k => z_u2n (by decide)), fun i hi => ?_⟩
        rw [hn2, if_pos c37]
        unfold kn_u
        by_cases hii : i = w (p + 2) - 97
        · rw [if_pos hii, hii, z_u2s]
        · rw [if_neg hii, z_u2m hii, g2 i, hk.2 i hi]
      · have e2 : now2 = now := by rw [hn2, if_neg c37]
        rw [e2] at hK
        exact t2 hB f' (lv + 1) (kn_fk hk g1 g2) ((g1.2.1 74 (by decide) (by decide) (by decide)).trans h74) (by omega) d _ (by omega) (fun f2 g5 g6 => hK f2 (fk_trans g1 g5) (kn_fk (kn_fk hk g1 g2) g5 g6))
      · have e2 : now2 = now := by rw [hn2, if_neg c37]
        rw [e2] at hK
        rw [← t3.1 hB]
        exact hK f' g1 (kn_fk hk g1 g2)
    refine ⟨if v1 = Int32.ofInt (-1) then vn else v1, fun H row dep hq g1 g2 hdep d K hd hK => ?_, fun f lv hk h74 hlv d K hd hK => ?_, ⟨fun h => absurd h h1, rg_if t3.2 n3.2⟩⟩
    · obtain ⟨d, rfl⟩ : ∃ e, d = e + 1 := ⟨d - 1, by omega⟩
      have hn0 := hq.1.1
      refine cls H row dep hq c36 d K (by omega) (fun h => by rw [hbad] at h; cases h) (fun _ => t1 H row dep hq g1 g2 ?_ hdep d _ (by omega) (fun H1 s1 F1 i1 nn1 u1 => ?_))
      · omega
      · have hq1 : kq_C A G H1 row now := kq_fc hq F1 s1 hA g1 g2 i1
        obtain ⟨a1, -, a3, a4⟩ := hq1.2.1 r hr
        have hle1 := F1.1
        refine z_br (fun hv => ⟨a1.trans h2, ?_⟩) (fun hv => ?_)
        · rw [a4 0, h7, a4 4, a3 6, a3 10, z_eq (by omega) (by decide)]
          have go : ∀ H2, kq_C A G H2 row now2 → fc_F row H H2 → mj_n H2 ≤ mj_n H + (m - p) → mj_u H2 ≤ mj_u H + 26 * (m - p) → Fo_firstFailing_23 (d + 1) (nI dep) row (mj_r G r 10) H2 K := fun H2 q2 F2 nn2 u2 => by
            have hle2 := F2.1
            refine n1 H2 row dep q2 g1 (by omega) (by omega) (d + 1) K (by omega) (fun H' s F n u => ?_)
            have hh := hK H' s (fc_trans F2 F) (by omega) (by omega)
            rw [if_pos hv] at hh
            exact hh
          refine z_br (fun c37 => ?_) (fun c37 => go H1 (by rw [hn2, if_neg c37]; exact hq1) F1 nn1 u1)
          have hL : tx_L (w (p + 2)) ∧ mj_i G r 4 = nI (w (p + 2) - 97) := by
            rcases h9 with ⟨a, -⟩ | ⟨-, b1, -, -, b4, -⟩ | ⟨a, -⟩ | ⟨a, -⟩ | ⟨a, -⟩ | ⟨a, -⟩ | ⟨a, -⟩ | ⟨a, -⟩
            · omega
            · exact ⟨b1, b4⟩
            all_goals omega
          have hL' := hL.1
          unfold tx_L at hL'
          rw [hL.2]
          refine z_bf (nI_pos (by omega)) (b3 c37 hbad H1 row hq1 d _ (by omega) ⟨hq1.2.2.1, ?_, ?_⟩)
          · omega
          · rw [hq1.2.2.2.1]
            refine z_ixi (by omega) (by decide) ?_
            rintro _ rfl
            rw [show nI v0 &&& nI 15 = nI v0 from (kv_f (b := false) b1).2.1]
            have Fs : fc_F row H (mj_pI H1 row (w (p + 2) - 97) (nI v0)) := fc_trans F1 fc_pI
            have qs : kq_C A G (mj_pI H1 row (w (p + 2) - 97) (nI v0)) row now2 := kq_fc hq Fs (cs_pI s1) hA g1 g2 (fun i hi => by
              rw [hn2, if_pos c37]
              unfold kn_u
              by_cases hii : i = w (p + 2) - 97
              · rw [if_pos hii, hii, z_iIs]
              · rw [if_neg hii, z_iIm hii]
                exact i1 i hi)
            refine ⟨a1.trans h2, ?_⟩
            rw [show mj_r (mj_pI H1 row (w (p + 2) - 97) (nI v0)) r 10 = mj_r G r 10 from a3 10]
            exact go _ qs Fs nn1 u1
        · have hh := hK H1 s1 F1 (by omega) (by omega)
          rw [if_neg hv] at hh
          exact hh
    · obtain ⟨d, rfl⟩ : ∃ e, d = e + 1 := ⟨d - 1, by omega⟩
      refine top f lv hk d K (by omega) (mb f lv hk h74 hlv d _ (by omega) (fun f' g1 g2 => ⟨g2.1, ?_⟩))
      have h74' := (g1.2.1 74 (by decide) (by decide) (by decide)).trans h74
      by_cases hv : v1 = Int32.ofInt (-1)
      · rw [if_pos hv] at hK
        rw [hv]
        exact n2 f' lv g2 h74' (by omega) (d + 1) K (by omega) (fun f2 g4 g5 => hK f2 (fk_end g1 g4) (fun j hj => (g5 j hj).trans (g1.2.2.1 _ (by omega))))
      · rw [if_neg hv] at hK
        obtain ⟨d, rfl⟩ : ∃ e, d = e + 1 := ⟨d - 1, by omega⟩
        exact cb_end hM (by omega) (by omega) h74' (Or.inr hv) (fun f2 g4 g5 => hK f2 (fk_end g1 g4) (fun j hj => (g5 j hj).trans (g1.2.2.1 _ (by omega))))
theorem cw_all (hM : mm_S Gm) (hW : tx_W w n) (hA : ∀ a, A a → a < mj_n G) (hG : 3 ≤ mj_n G) : ∀ {k : Nat} {b : Int32} {r p q : Nat} {L : List (Nat × Nat)} {now : Nat → Nat}, (∀ i, now i < 16) → tb_B k A G hm b r w p q L → q ≤ n → ∃ v, cb_C A G now r p q v ∧ cb_M Gm t w n now p q v ∧ ((r = 0 → v = Int32.ofInt (-1)) ∧ rg v)
  | 0, _, _, _, _, _, _, _, h, _ => h.elim
  | k + 1, b, r, p, q, L, now, hnow, h, hq => by
    have hn := hW.1
    have ih : ∀ {b : Int32} {r p' q : Nat} {L : List (Nat × Nat)} {now : Nat → Nat}, (∀ i, now i < 16) → tb_B k A G hm b r w p' q L → q ≤ n → ∃ v, cb_C A G now r p' q v ∧ cb_M Gm t w n now p' q v ∧ ((r = 0 → v = Int32.ofInt (-1)) ∧ rg v) := fun h1 h2 h3 => cw_all hM hW hA hG h1 h2 h3
    rcases h with ⟨rfl, rfl, -⟩ | ⟨h1, h2, h3, h4, h5, h6, h7, h7', h8, h9, h10⟩ | ⟨h1, h2, h3, h4, h5, h6, h7, h8, e, m, L1, L2, he, hH, h125, rfl, h13, h14⟩
    · refine ⟨Int32.ofInt (-1), fun H row dep hq g1 g2 hdep d K hd hK => ?_, fun f lv hk h74 hlv d K hd hK => ?_, ⟨fun _ => rfl, Or.inl rfl⟩⟩
      · obtain ⟨d, rfl⟩ : ∃ e, d = e + 1 := ⟨d - 1, by omega⟩
        exact w_Fo_firstFailing_23 hq.1 (z_bt rfl (hK H hq.1 fc_rfl (by omega) (by omega)))
      · obtain ⟨d, rfl⟩ : ∃ e, d = e + 1 := ⟨d - 1, by omega⟩
        exact cb_end hM (by omega) (by omega) h74 (Or.inl (by rw [z_le (by omega) (by omega)]; exact Nat.le_refl _)) hK
    · have hl := tb_le h10
      have hpn : p < n := tx_in hW h7'
      obtain ⟨v, t1, t2, t3⟩ := ih hnow h10 hq
      refine ⟨v, fun H row dep hq g1 g2 hdep d K hd hK => ?_, fun f lv hk h74 hlv d K hd hK => ?_, ⟨fun h => absurd h h2, t3.2⟩⟩
      · obtain ⟨d, rfl⟩ : ∃ e, d = e + 1 := ⟨d - 1, by omega⟩
        obtain ⟨a1, -, a3, a4⟩ := hq.2.1 r h1
        refine w_Fo_firstFailing_23 hq.1 (z_bf h2 ⟨a1.trans h3, ?_⟩)
        rw [a4 0, h8, a3 10]
        exact z_bt rfl (t1 H row dep hq g1 g2 (by omega) (d + 1) K (by omega) (fun H' s F n u => hK H' s F (by omega) (by omega)))
      · obtain ⟨d, rfl⟩ : ∃ e, d = e + 1 := ⟨d - 1, by omega⟩
        refine w_m_checks_73 hM (by omega) (z_bf (by rw [z_le (by omega) (by omega)]; omega) (z_bt rfl (c_letter hM hk.1 (by omega) ?_)))
        rw [tx_nxe hW (by decide), z_add]
        exact z_bf h6 (t2 f lv hk h74 (by omega) (d + 1) K (by omega) hK)
    · have ht : tb_t k A G hm b r w p m L1 := ⟨h2, h3, h4, h5, h6, h7, h8, e, he, hH, h125, h14⟩
      exact cw_step hM hW hnow hA hG h1 ht (tb_le h13) hq h13 ih
end G0C
