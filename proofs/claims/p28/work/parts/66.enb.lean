/-! WHERE A TEMPLATE MAY END: all bodies -/
section FB
variable {G Gm G' : mj_G} {f : mm_F} {w : Nat → Nat} {n t : Nat} {A : Nat → Prop} {hm : Int32}
theorem c_turnOf {d k r r' p e q1 : Nat} {b b' : Int32} {L : List (Nat × Nat)} {K : Int32 → mm_F → Prop} (hM : mm_S Gm) (hT : mt_T f t w n) (hd : 18 ≤ d) (hH : tb_h A G r b w p e) (hp : w p = 123) (he : w e = 125) (hB : tb_B k A G hm b' r' w (e + 1) q1 L) (hq : w q1 = 123) (hq1 : w (q1 + 1) = 58 ∨ w (q1 + 1) = 59)
    (h1 : w (q1 + 1) = 58 → K (nI q1) f) (h2 : w (q1 + 1) = 59 → K (Int32.ofInt (-1)) f) : m_turnOf Gm d (nI t) (nI p) f K := by
  obtain ⟨d, rfl⟩ : ∃ e, d = e + 1 := ⟨d - 1, by omega⟩
  have hn := hT.2.1.1
  have hqn : q1 + 1 < n := tx_in hT.2.1 (by omega)
  refine w_m_turnOf hM (c_tagEnd hM hT (by omega) hH hp he ?_)
  rw [z_add]
  refine c_border hM hT (by omega) hB hq hq1 ?_
  rw [z_add]
  refine c_letter hM hT (by omega) ?_
  rw [tx_nxe hT.2.1 (by decide)]
  exact z_br h1 (fun q => h2 (by omega))
theorem c_closeOf {d k r r' p e q1 : Nat} {b b' : Int32} {L : List (Nat × Nat)} {K : Int32 → mm_F → Prop} (hM : mm_S Gm) (hT : mt_T f t w n) (hd : 18 ≤ d) (hH : tb_h A G r b w p e) (hp : w p = 123) (he : w e = 125) (hB : tb_B k A G hm b' r' w (e + 1) q1 L) (hq : w q1 = 123) (hq1 : w (q1 + 1) = 58 ∨ w (q1 + 1) = 59)
    (h1 : w (q1 + 1) = 59 → K (nI q1) f) (h2 : w (q1 + 1) = 58 → ∃ q2 l r2 b2 L2, tb_B l A G hm b2 r2 w (q1 + 3) q2 L2 ∧ w q2 = 123 ∧ w (q2 + 1) = 59 ∧ K (nI q2) f) : m_closeOf Gm d (nI t) (nI p) f K := by
  obtain ⟨d, rfl⟩ : ∃ e, d = e + 1 := ⟨d - 1, by omega⟩
  have hn := hT.2.1.1
  have hqn : q1 + 1 < n := tx_in hT.2.1 (by omega)
  refine w_m_closeOf hM (c_tagEnd hM hT (by omega) hH hp he ?_)
  rw [z_add]
  refine c_border hM hT (by omega) hB hq hq1 ?_
  rw [z_add]
  refine c_letter hM hT (by omega) ?_
  rw [tx_nxe hT.2.1 (by decide), z_add]
  refine z_br (fun q => ?_) (fun q => h1 (by clear h1 h2; omega))
  obtain ⟨q2, l, r2, b2, L2, g1, g2, g3, g4⟩ := h2 q
  exact c_border hM hT (by omega) g1 g2 (Or.inr g3) g4
/-- where a tag goes on, by the model -/
theorem c_behindTag {d k r p m : Nat} {b : Int32} {L1 : List (Nat × Nat)} {K : Int32 → mm_F → Prop} (hM : mm_S Gm) (hT : mt_T f t w n) (hd : 18 ≤ d) (ht : tb_t k A G hm b r w p m L1) (h : K (nI m) f) :
    m_letter Gm d (nI t) (nI (p + 1)) f (fun v9 f8 => mm_br (qb (q_13070 v9) = true) (m_closeOf Gm d (nI t) (nI p) f8 (fun v13 f12 => K (v13 + (nI 3)) f12)) (m_endOf Gm d (nI t) (nI p) f8 (fun v11 f10 => K (v11 + (nI 1)) f10))) := by
  obtain ⟨h1, h2, h3, h4, h5, h6, h7, e, h8, h9, h10, h11⟩ := ht
  have hn := hT.2.1.1
  have hw := tx_le hT.2.1 (p + 1)
  have hp1 : p + 1 < n := tx_in hT.2.1 (by unfold tx_T at h6; omega)
  refine c_letter hM hT (by omega) ?_
  rw [tx_nxi hp1, z_13070 (by omega)]
  rcases h11 with ⟨a1, rfl, -⟩ | ⟨a1, a0, -, q1, a2, a3, a4, a5, rfl⟩ | ⟨a1, q1, q2, La, Lb, a2, a3, a4, a5, a6, a7, a8, a9, rfl, -⟩
  · refine z_bf a1 (c_tagEnd hM hT (by omega) h9 h5 h10 ?_)
    rw [z_add]
    exact h
  · refine z_bt a1 (c_closeOf hM hT hd h9 h5 h10 a2 a3 (Or.inr a4) (fun _ => ?_) (fun q => absurd q (by omega)))
    rw [z_add]
    exact h
  · refine z_bt (by unfold tx_B; omega) (c_closeOf hM hT hd h9 h5 h10 a2 a3 (Or.inl a4) (fun q => absurd q (by omega)) (fun _ => ⟨q2, k, _, _, Lb, a6, a7, a8, ?_⟩))
    rw [z_add]
    exact h
/-- the end of a scan for a ' or such -/
theorem fs_ms {p e d : Nat} {v : Bool} {K : Bool → mm_F → Prop} (hM : mm_S Gm) (he : e ≤ 80) (h : K v f) : m_mayBeSafe_6 Gm (d + 1) (nI t) (nI p) (nI e) (bI v) (nI e) f K :=
  w_m_mayBeSafe_6 hM (z_bt (by rw [z_le (by omega) (by omega)]; exact Nat.le_refl _) (z_ex h))
/-- a tag's set, by both sides -/
theorem fs_tag {k k0 r r0 s0 p m dep : Nat} {b b0 pa ch S : Int32} {A0 : Nat → Prop} {L1 L : List (Nat × Nat)} (hS : cs_S G) (hM : mm_S Gm) (hT : mt_T f t w n) (hP : tp_P w s0 pa) (hB0 : tb_B k0 A0 G hm b0 r0 w s0 n L) (hch : ∀ i, i < 26 → (bt ch i ↔ tl_st w i L)) (ht : tb_t k A G hm b r w p m L1) (hs : s8 S) (hdep : dep ≤ p)
    (ih : ∀ {b r p' q L}, tb_B k A G hm b r w p' q L → q ≤ n → fs_B G Gm f t ch r p' q) : ∃ S', s8 S' ∧ (∀ d K, 3 * (m - p) + 58 ≤ d → K S' G → Fo_behind d r S ch (nI dep) G K) ∧ (∀ d K, 3 * (m - p) + 58 ≤ d → K S' f → m_endsTag Gm d (nI t) (nI p) S f K) := by
  have hW := hT.2.1
  have hn := hW.1
  obtain ⟨h1, h2, h3, h4, h5, h6, h7, e, h8, h9, h10, h11⟩ := ht
  have hw := tx_le hW (p + 1)
  have hp1 : p + 1 < n := tx_in hW (by unfold tx_T at h6; omega)
  have hen : e < n := tx_in hW (by omega)
  have s255 : s8 (nI 255) := s8_nI (by decide)
  have f4 : nI 4 = mm_shl (nI 1) (nI 2) := by decide
  have f2 : nI 2 = mm_shl (nI 1) (nI 1) := by decide
  -- what holds of the ends of bodies
  have hme : m = e + 1 ∨ e + 4 ≤ m := by
    rcases h11 with ⟨-, rfl, -⟩ | ⟨-, -, -, q1, a2, -, -, -, rfl⟩ | ⟨-, q1, q2, La, Lb, a2, -, -, -, a6, -, -, -, rfl, -⟩
    · exact Or.inl rfl
    · have := tb_le a2
      omega
    · have := tb_le a2
      have := tb_le a6
      omega
  -- the class
  have cls : ∀ (S' : Int32), (∀ d (K : Int32 → mj_G → Prop), 3 * (m - p) + 57 ≤ d → K S' G → (w (p + 1) = 36 ∨ w (p + 1) = 37 → K S G) ∧ (w (p + 1) = 42 → Fo_behindLoop d r S ch (nI dep) G (fun v6 G5 => K v6 G5)) ∧ (w (p + 1) = 43 ∨ w (p + 1) = 63 → Fo_through d (mj_r G r 8) S ch (nI dep + (nI 1)) G (fun v8 G7 => (mj_k G7 r = 6) ∧ Fo_through d (mj_r G7 r 9) S ch (nI dep + (nI 1)) G7 (fun v11 G10 => K (v8 ||| v11) G10))) ∧
      (w (p + 1) = 45 → mm_br (bt S 2) (K (S ||| (nI 2)) G) (K S G)) ∧ (w (p + 1) = 61 → Fo_mayBeSafe d (mj_r G r 6) ch (nI 0) G (fun v13 G12 => mm_br (v13 = true) (K (nI 255) G12) (mm_br (bt S 1) (K (S ||| (nI 4)) G12) (K S G12)))) ∧ (w (p + 1) = 107 → Fo_through d (mj_r G r 8) S ch (nI dep + (nI 1)) G (fun v20 G19 => K v20 G19)) ∧ (w (p + 1) = 116 ∨ w (p + 1) = 35 ∨ w (p + 1) = 94 ∨ w (p + 1) = 64 ∨ w (p + 1) = 33 ∨ w (p + 1) = 38 ∨ w (p + 1) = 126 → K (nI 255) G)) → ∀ d (K : Int32 → mj_G → Prop), 3 * (m - p) + 58 ≤ d → K S' G → Fo_behind d r S ch (nI dep) G K := fun S' h d K hd hK => by
    obtain ⟨d, rfl⟩ : ∃ e, d = e + 1 := ⟨d - 1, by omega⟩
    obtain ⟨a1, a2, a3, a4, a5, a6, a7⟩ := h d K (by omega) hK
    exact c_behind hS (by omega) h2 h7 hw (fun q => by unfold tx_T at h6; omega) a1 a2 a3 a4 a5 a6 a7 (Or.inr h6)
  have mod : ∀ (S' : Int32), (∀ d (K : Int32 → mm_F → Prop), 3 * (m - p) + 57 ≤ d → K S' f → (w (p + 1) = 36 ∨ w (p + 1) = 37 → K S f) ∧ (w (p + 1) = 42 ∨ w (p + 1) = 43 ∨ w (p + 1) = 63 → m_endsBodies Gm d (nI (w (p + 1))) (nI t) (nI p) S f (fun v6 f5 => K v6 f5)) ∧ (w (p + 1) = 45 → K (S ||| (mm_shl ((mm_shr S (nI 2)) &&& (nI 1)) (nI 1))) f) ∧
      (w (p + 1) = 61 → m_endOf Gm d (nI t) (nI p) f (fun v20 f19 => m_mayBeSafe Gm d (nI t) (nI (p + 2)) v20 f19 (fun v22 f21 => mm_br (v22 = true) (K (nI 255) f21) (K (S ||| (mm_shl ((mm_shr S (nI 1)) &&& (nI 1)) (nI 2))) f21)))) ∧ (w (p + 1) = 107 → m_endOf Gm d (nI t) (nI p) f (fun v13 f12 => m_closeOf Gm d (nI t) (nI p) f12 (fun v15 f14 => m_ends Gm d (nI t) (v13 + (nI 1)) v15 S f14 (fun v17 f16 => K v17 f16)))) ∧
      (w (p + 1) = 116 ∨ w (p + 1) = 35 ∨ w (p + 1) = 94 ∨ w (p + 1) = 64 ∨ w (p + 1) = 33 ∨ w (p + 1) = 38 ∨ w (p + 1) = 126 → K (nI 255) f)) → ∀ d (K : Int32 → mm_F → Prop), 3 * (m - p) + 58 ≤ d → K S' f → m_endsTag Gm d (nI t) (nI p) S f K := fun S' h d K hd hK => by
    obtain ⟨d, rfl⟩ : ∃ e, d = e + 1 := ⟨d - 1, by omega⟩
    obtain ⟨a1, a2, a3, a4, a5, a6⟩ := h d K (by omega) hK
    exact c_endsTag hM hT (by omega) hp1 rfl a1 a2 a3 a4 a5 a6 h6
  by_cases c1 : w (p + 1) = 116 ∨ w (p + 1) = 35 ∨ w (p + 1) = 94 ∨ w (p + 1) = 64 ∨ w (p + 1) = 33 ∨ w (p + 1) = 38 ∨ w (p + 1) = 126
  · exact ⟨nI 255, s255, cls _ (fun d K hd hK => ⟨fun q => absurd q (by omega), fun q => absurd q (by omega), fun q => absurd q (by omega), fun q => absurd q (by omega), fun q => absurd q (by omega), fun q => absurd q (by omega), fun _ => hK⟩), mod _ (fun d K hd hK => ⟨fun q => absurd q (by omega), fun q => absurd q (by omega), fun q => absurd q (by omega), fun q => absurd q (by omega), fun q => absurd q (by omega), fun _ => hK⟩)⟩
  by_cases c2 : w (p + 1) = 36 ∨ w (p + 1) = 37
  · exact ⟨S, hs, cls _ (fun d K hd hK => ⟨fun _ => hK, fun q => absurd q (by omega), fun q => absurd q (by omega), fun q => absurd q (by omega), fun q => absurd q (by omega), fun q => absurd q (by omega), fun q => absurd q c1⟩), mod _ (fun d K hd hK => ⟨fun _ => hK, fun q => absurd q (by omega), fun q => absurd q (by omega), fun q => absurd q (by omega), fun q => absurd q (by omega), fun q => absurd q c1⟩)⟩
  by_cases c3 : w (p + 1) = 45
  · by_cases hb : bt S 2
    · refine ⟨S ||| nI 2, s8_or hs (s8_nI (by decide)), cls _ (fun d K hd hK => ⟨fun q => absurd q (by omega), fun q => absurd q (by omega), fun q => absurd q (by omega), fun _ => z_bt hb hK, fun q => absurd q (by omega), fun q => absurd q (by omega), fun q => absurd q c1⟩), mod _ (fun d K hd hK => ⟨fun q => absurd q (by omega), fun q => absurd q (by omega), fun _ => ?_, fun q => absurd q (by omega), fun q => absurd q (by omega), fun q => absurd q c1⟩)⟩
      rw [bt_bit (by decide) (by decide), if_pos (show S.toBitVec.getLsbD 2 = true from hb), ← f2]
      exact hK
    · refine ⟨S, hs, cls _ (fun d K hd hK => ⟨fun q => absurd q (by omega), fun q => absurd q (by omega), fun q => absurd q (by omega), fun _ => z_bf hb hK, fun q => absurd q (by omega), fun q => absurd q (by omega), fun q => absurd q c1⟩), mod _ (fun d K hd hK => ⟨fun q => absurd q (by omega), fun q => absurd q (by omega), fun _ => ?_, fun q => absurd q (by omega), fun q => absurd q (by omega), fun q => absurd q c1⟩)⟩
      rw [bt_bit (by decide) (by decide), if_neg (show ¬ S.toBitVec.getLsbD 2 = true from hb)]
      exact hK
  by_cases c4 : w (p + 1) = 61
  · obtain ⟨l, hE⟩ : ∃ l, tx_E l A G (mj_r G r 6) w (p + 2) e false := by
      rcases h9 with ⟨a, c, -⟩ | ⟨a, -⟩ | ⟨a, -⟩ | ⟨a, -⟩ | ⟨a, -⟩ | ⟨a, -⟩ | ⟨a, -⟩ | ⟨a, -⟩
      · exact c
      all_goals omega
    obtain ⟨b1, -⟩ := tx_E_ch hE
    obtain ⟨v, v1, v2⟩ := fs_safe (dep := 0) hS hM hT hP hB0 hch (Nat.le_of_lt hen) hE (Nat.le_refl _) (Nat.le_refl _) (by omega) (fun h => absurd h (by omega))
    have mm : ∀ d (K : Int32 → mm_F → Prop), 3 * (m - p) + 57 ≤ d → mm_br (v = true) (K (nI 255) f) (K (S ||| (mm_shl ((mm_shr S (nI 1)) &&& (nI 1)) (nI 2))) f) → m_endOf Gm d (nI t) (nI p) f (fun v20 f19 => m_mayBeSafe Gm d (nI t) (nI (p + 2)) v20 f19 (fun v22 f21 => mm_br (v22 = true) (K (nI 255) f21) (K (S ||| (mm_shl ((mm_shr S (nI 1)) &&& (nI 1)) (nI 2))) f21))) := fun d K hd h => by
      obtain ⟨d, rfl⟩ : ∃ e, d = e + 1 := ⟨d - 1, by omega⟩
      refine c_tagEnd hM hT (by omega) h9 h5 h10 (w_m_mayBeSafe hM ?_)
      exact v2 d false _ (by omega) (fs_ms hM (by omega) h)
    cases v with
    | true =>
      refine ⟨nI 255, s255, cls _ (fun d K hd hK => ⟨fun q => absurd q c2, fun q => absurd q (by omega), fun q => absurd q (by omega), fun q => absurd q c3, fun _ => v1 d _ (by omega) (z_bt rfl hK), fun q => absurd q (by omega), fun q => absurd q c1⟩), mod _ (fun d K hd hK => ⟨fun q => absurd q c2, fun q => absurd q (by omega), fun q => absurd q c3, fun _ => mm d K hd (z_bt rfl hK), fun q => absurd q (by omega), fun q => absurd q c1⟩)⟩
    | false =>
      by_cases hb : bt S 1
      · refine ⟨S ||| nI 4, s8_or hs (s8_nI (by decide)), cls _ (fun d K hd hK => ⟨fun q => absurd q c2, fun q => absurd q (by omega), fun q => absurd q (by omega), fun q => absurd q c3, fun _ => v1 d _ (by omega) (z_bf (by decide) (z_bt hb hK)), fun q => absurd q (by omega), fun q => absurd q c1⟩), mod _ (fun d K hd hK => ⟨fun q => absurd q c2, fun q => absurd q (by omega), fun q => absurd q c3, fun _ => mm d K hd (z_bf (by decide) ?_), fun q => absurd q (by omega), fun q => absurd q c1⟩)⟩
        rw [bt_bit (by decide) (by decide), if_pos (show S.toBitVec.getLsbD 1 = true from hb), ← f4]
        exact hK
      · refine ⟨S, hs, cls _ (fun d K hd hK => ⟨fun q => absurd q c2, fun q => absurd q (by omega), fun q => absurd q (by omega), fun q => absurd q c3, fun _ => v1 d _ (by omega) (z_bf (by decide) (z_bf hb hK)), fun q => absurd q (by omega), fun q => absurd q c1⟩), mod _ (fun d K hd hK => ⟨fun q => absurd q c2, fun q => absurd q (by omega), fun q => absurd q c3, fun _ => mm d K hd (z_bf (by decide) ?_), fun q => absurd q (by omega), fun q => absurd q c1⟩)⟩
        rw [bt_bit (by decide) (by decide), if_neg (show ¬ S.toBitVec.getLsbD 1 = true from hb)]
        exact hK
  by_cases c5 : w (p + 1) = 107
  · -- a kept fragment: as its body
    obtain ⟨b', q1, a2, a3, a4, a5, rfl⟩ : ∃ b' q1, tb_B k A G hm b' (mj_r G r 8) w (e + 1) q1 L1 ∧ w q1 = 123 ∧ w (q1 + 1) = 59 ∧ w (q1 + 2) = 125 ∧ m = q1 + 3 := by
      rcases h11 with ⟨a, -⟩ | ⟨-, -, -, q1, a2⟩ | ⟨a, -⟩
      · exact absurd (by unfold tx_B; omega) a
      · exact ⟨_, q1, a2⟩
      · omega
    have hq1 : q1 ≤ n := Nat.le_of_lt (tx_in hW (by omega))
    have hle := tb_le a2
    obtain ⟨S', t1, t2, t3⟩ := fs_thr hS hM (by omega) (ih a2 hq1) S (dep + 1) hs (by omega)
    refine ⟨S', t1, cls _ (fun d K hd hK => ⟨fun q => absurd q c2, fun q => absurd q (by omega), fun q => absurd q (by omega), fun q => absurd q c3, fun q => absurd q c4, fun _ => ?_, fun q => absurd q c1⟩), mod _ (fun d K hd hK => ⟨fun q => absurd q c2, fun q => absurd q (by omega), fun q => absurd q c3, fun q => absurd q c4, fun _ => ?_, fun q => absurd q c1⟩)⟩
    · rw [z_add]
      exact t2 d K (by omega) hK
    · refine c_tagEnd hM hT (by omega) h9 h5 h10 (c_closeOf hM hT (by omega) h9 h5 h10 a2 a3 (Or.inr a4) (fun _ => ?_) (fun q => absurd q (by omega)))
      rw [z_add]
      exact t3 d K (by omega) hK
  -- choices, loops, tries
  have c6 : w (p + 1) = 42 ∨ w (p + 1) = 43 ∨ w (p + 1) = 63 := by unfold tx_T at h6; omega
  -- the first body, the second one or none
  have bod : ∃ q1 X6 x5 v2 b1 La, tb_B k A G hm b1 (mj_r G r 8) w (e + 1) q1 La ∧ w q1 = 123 ∧ q1 ≤ n ∧ X6 + 3 = m ∧ q1 ≤ X6 ∧ ((x5 = Int32.ofInt (-1) ∧ q1 = X6) ∨ (¬ x5 = Int32.ofInt (-1) ∧ x5 = nI q1)) ∧ s8 v2 ∧
      (∀ d (K : Int32 → mm_F → Prop), 18 ≤ d → K x5 f → m_turnOf Gm d (nI t) (nI p) f K) ∧ (∀ d (K : Int32 → mm_F → Prop), 18 ≤ d → K (nI X6) f → m_closeOf Gm d (nI t) (nI p) f K) ∧
      (∀ d (K : Int32 → mj_G → Prop), 3 * (X6 - e) + 61 ≤ d → K v2 G → Fo_through d (mj_r G r 9) S ch (nI (dep + 1)) G K) ∧
      (∀ d (left : Int32) (K : Int32 → mm_F → Prop), 3 * (X6 - e) + 61 ≤ d → K (left ||| v2) f → mm_br (x5 = Int32.ofInt (-1)) (K (left ||| S) f) (m_ends Gm d (nI t) (x5 + nI 3) (nI X6) S f (fun v16 f15 => K (left ||| v16) f15))) := by
    rcases h11 with ⟨a, -⟩ | ⟨a0, a1, ar, q1, a2, a3, a4, a5, rfl⟩ | ⟨a0, q1, q2, La, Lb, a2, a3, a4, a5, a6, a7, a8, a9, rfl, -⟩
    · exact absurd (by unfold tx_B; omega) a
    · refine ⟨q1, q1, Int32.ofInt (-1), S, _, _, a2, a3, Nat.le_of_lt (tx_in hW (by omega)), rfl, Nat.le_refl _, Or.inl ⟨rfl, rfl⟩, hs, fun d K hd hK => c_turnOf hM hT hd h9 h5 h10 a2 a3 (Or.inr a4) (fun q => absurd q (by omega)) (fun _ => hK), fun d K hd hK => c_closeOf hM hT hd h9 h5 h10 a2 a3 (Or.inr a4) (fun _ => hK) (fun q => absurd q (by omega)), fun d K hd hK => ?_, fun d left K hd hK => z_bt rfl hK⟩
      rw [ar]
      exact fs_nul hS (by omega) (by omega) hK
    · have hq2 : q2 ≤ n := Nat.le_of_lt (tx_in hW (by omega))
      have hle1 := tb_le a2
      have hle2 := tb_le a6
      have hq1n : q1 + 2 < n := tx_in hW (by omega)
      obtain ⟨v2, t1, t2, t3⟩ := fs_thr hS hM (by omega) (ih a6 hq2) S (dep + 1) hs (by omega)
      refine ⟨q1, q2, nI q1, v2, _, _, a2, a3, by omega, rfl, by omega, Or.inr ⟨z_m1n (by omega), rfl⟩, t1, fun d K hd hK => c_turnOf hM hT hd h9 h5 h10 a2 a3 (Or.inl a4) (fun _ => hK) (fun q => absurd q (by omega)), fun d K hd hK => c_closeOf hM hT hd h9 h5 h10 a2 a3 (Or.inl a4) (fun q => absurd q (by omega)) (fun _ => ⟨q2, k, _, _, Lb, a6, a7, a8, hK⟩), fun d K hd hK => t2 d K (by omega) hK, fun d left K hd hK => z_bf (z_m1n (by omega)) ?_⟩
      rw [z_add]
      exact t3 d _ (by omega) hK
  obtain ⟨q1, X6, x5, v2, b1, La, a2, a3, hq1, rfl, hqX, hx, hv2, mt, mc, hce, hme2⟩ := bod
  have hle := tb_le a2
  have hX : X6 ≤ 80 := by
    have hm3 : X6 + 3 ≤ n ∨ True := Or.inr trivial
    rcases hx with ⟨-, rfl⟩ | ⟨-, -⟩
    · omega
    · rcases h11 with ⟨-, g, -⟩ | ⟨-, -, -, q, -, g, -, -, g2⟩ | ⟨-, q, q2, -, -, -, -, -, -, -, g, -, -, g2, -⟩
      · omega
      · have := tx_in hW (k := q) (by omega)
        omega
      · have := tx_in hW (k := q2) (by omega)
        omega
  have hb := ih a2 hq1
  obtain ⟨S1, t1, t2, t3⟩ := fs_thr hS hM (by omega) hb S (dep + 1) hs (by omega)
  -- the model up to the first body
  have mfb : ∀ d (K : Int32 → mm_F → Prop), 3 * (X6 + 3 - p) + 57 ≤ d → m_endsBodies_54 Gm d (nI (w (p + 1))) (nI t) S x5 (nI X6) (nI (e + 1)) S S1 f K → m_endsBodies Gm d (nI (w (p + 1))) (nI t) (nI p) S f K := fun d K hd h => by
    obtain ⟨d, rfl⟩ : ∃ e, d = e + 1 := ⟨d - 1, by omega⟩
    refine w_m_endsBodies hM (mt d _ (by omega) (mc d _ (by omega) (c_tagEnd hM hT (by omega) h9 h5 h10 ?_)))
    rw [z_add]
    rcases hx with ⟨x1, rfl⟩ | ⟨x1, x2⟩
    · exact z_bt x1 (t3 d _ (by omega) h)
    · refine z_bf x1 ?_
      rw [x2] at h ⊢
      exact t3 d _ (by omega) h
  by_cases c7 : w (p + 1) = 42
  · obtain ⟨l', l1, l2, l3⟩ := fs_loop (r := r) (s := e + 1) (q1 := q1) (dep := dep) (X6 := X6) (x5 := x5) (S := S) (v2 := v2) (ch := ch) (D := 3 * (X6 - e) + 61) hS hM h2 (by omega) (by omega) hb hx hce hme2 (by omega) 8 S S1 0 hs t1 (Nat.zero_le _) (by omega)
    refine ⟨l' ||| v2, s8_or l1 hv2, cls _ (fun d K hd hK => ⟨fun q => absurd q c2, fun _ => ?_, fun q => absurd q (by omega), fun q => absurd q c3, fun q => absurd q c4, fun q => absurd q c5, fun q => absurd q c1⟩), mod _ (fun d K hd hK => ⟨fun q => absurd q c2, fun _ => mfb d _ hd ?_, fun q => absurd q c3, fun q => absurd q c4, fun q => absurd q c5, fun q => absurd q c1⟩)⟩
    · obtain ⟨d, rfl⟩ : ∃ e, d = e + 1 := ⟨d - 1, by omega⟩
      refine w_Fo_behindLoop hS ⟨h2, ?_⟩
      rw [z_add]
      exact t2 d _ (by omega) (l2 d K (by omega) hK)
    · obtain ⟨d, rfl⟩ : ∃ e, d = e + 1 := ⟨d - 1, by omega⟩
      rw [c7]
      exact l3 d K (by omega) hK
  · refine ⟨S1 ||| v2, s8_or t1 hv2, cls _ (fun d K hd hK => ⟨fun q => absurd q c2, fun q => absurd q c7, fun _ => ?_, fun q => absurd q c3, fun q => absurd q c4, fun q => absurd q c5, fun q => absurd q c1⟩), mod _ (fun d K hd hK => ⟨fun q => absurd q c2, fun _ => mfb d _ hd ?_, fun q => absurd q c3, fun q => absurd q c4, fun q => absurd q c5, fun q => absurd q c1⟩)⟩
    · rw [z_add]
      exact t2 d _ (by omega) ⟨h2, hce d _ (by omega) hK⟩
    · obtain ⟨d, rfl⟩ : ∃ e, d = e + 1 := ⟨d - 1, by omega⟩
      refine w_m_endsBodies_54 hM (z_bf (by rw [z_eq (by omega) (by omega)]; exact c7) ?_)
      exact hme2 d S1 K (by omega) hK
theorem fs_all {k0 r0 s0 : Nat} {b0 pa ch : Int32} {A0 : Nat → Prop} {L : List (Nat × Nat)} (hS : cs_S G) (hM : mm_S Gm) (hT : mt_T f t w n) (hP : tp_P w s0 pa) (hB0 : tb_B k0 A0 G hm b0 r0 w s0 n L) (hch : ∀ i, i < 26 → (bt ch i ↔ tl_st w i L)) : ∀ {k b r p q Lb}, tb_B k A G hm b r w p q Lb → q ≤ n → fs_B G Gm f t ch r p q
  | 0, _, _, _, _, _, h, _ => h.elim
  | k + 1, b, r, p, q, Lb, h, hq => by
    have hW := hT.2.1
    have hn := hW.1
    have ih : ∀ {b r p' q L}, tb_B k A G hm b r w p' q L → q ≤ n → fs_B G Gm f t ch r p' q := fun h hq => fs_all hS hM hT hP hB0 hch h hq
    intro S dep hs hdep
    rcases h with ⟨rfl, rfl, -⟩ | ⟨-, h2, h3, h4, h5, h6, h7, h7', h8, h9, h10⟩ | ⟨-, h2, h3, h4, h5, h6, h7, h8, e, m, L1, L2, he, hH, h125, rfl, h13, h14⟩
    · refine ⟨S, hs, fun d K hd hK => ?_, fun d K hd hK => ?_⟩
      · obtain ⟨d, rfl⟩ : ∃ e, d = e + 1 := ⟨d - 1, by omega⟩
        exact w_Fo_through_16 hS (z_bt rfl hK)
      · obtain ⟨d, rfl⟩ : ∃ e, d = e + 1 := ⟨d - 1, by omega⟩
        exact w_m_ends_7 hM (by omega) (z_bt (by rw [z_le (by omega) (by omega)]; exact Nat.le_refl _) hK)
    · -- a literal
      have hl := tb_le h10
      have hpn : p < n := tx_in hW h7'
      have hw := tx_le hW p
      obtain ⟨v, v1, v2, v3⟩ := fs_lead (G := G) (Gm := Gm) (f := f) (c := w p) (by omega) S hS hM 8 0 (nI 0) rfl (s8_nI (by decide))
      have hnx : ∃ S', s8 S' ∧ ((w p = 32 ∧ S' = v ||| S) ∨ (¬ w p = 32 ∧ S' = v ||| nI 0)) := by
        by_cases h : w p = 32
        · exact ⟨_, s8_or v1 hs, Or.inl ⟨h, rfl⟩⟩
        · exact ⟨_, s8_or v1 (s8_nI (by decide)), Or.inr ⟨h, rfl⟩⟩
      obtain ⟨S1, s1, s2⟩ := hnx
      obtain ⟨S', t1, t2, t3⟩ := ih h10 hq S1 dep s1 (by omega)
      refine ⟨S', t1, fun d K hd hK => ?_, fun d K hd hK => ?_⟩
      · obtain ⟨d, rfl⟩ : ∃ e, d = e + 3 := ⟨d - 3, by omega⟩
        refine w_Fo_through_16 hS (z_bf h2 (c_behind (d := d + 1) hS (by omega) h3 (c := 1) h8 (by decide) (fun _ => ?_) (fun q => absurd q (by decide)) (fun q => absurd q (by decide)) (fun q => absurd q (by decide)) (fun q => absurd q (by decide)) (fun q => absurd q (by decide)) (fun q => absurd q (by decide)) (fun q => absurd q (by decide)) (Or.inl rfl)))
        rw [h9]
        refine w_Fo_leadAll hS (v2 d _ (by omega) ⟨h3, ?_⟩)
        rw [h9, z_eq (by omega) (by omega)]
        have nx := t2 (d + 3) K (by omega) hK
        rcases s2 with ⟨g1, rfl⟩ | ⟨g1, rfl⟩
        · exact z_bt g1 ⟨h3, nx⟩
        · exact z_bf g1 ⟨h3, nx⟩
      · obtain ⟨d, rfl⟩ : ∃ e, d = e + 2 := ⟨d - 2, by omega⟩
        refine w_m_ends_7 hM (by omega) (z_bf (by rw [z_le (by omega) (by omega)]; omega) (c_letter hM hT (by omega) ?_))
        rw [tx_nxi hpn]
        refine z_bf (by rw [z_eq (by omega) (by omega)]; exact h6) (w_m_leadsAll hM (v3 d _ (by omega) ?_))
        rw [z_eq (by omega) (by omega), z_add]
        have nx := t3 (d + 2) K (by omega) hK
        rcases s2 with ⟨g1, rfl⟩ | ⟨g1, rfl⟩
        · exact z_bt g1 nx
        · exact z_bf g1 nx
    · -- a tag
      have hl := tb_le h13
      have ht : tb_t k A G hm b r w p m L1 := ⟨h2, h3, h4, h5, h6, h7, h8, e, he, hH, h125, h14⟩
      have hpm : p + 3 ≤ m := by
        rcases h14 with ⟨-, rfl, -⟩ | ⟨-, -, -, q1, a2, -, -, -, rfl⟩ | ⟨-, q1, q2, La, Lb, a2, -, -, -, a6, -, -, -, rfl, -⟩
        · omega
        · have := tb_le a2
          omega
        · have := tb_le a2
          have := tb_le a6
          omega
      have hpn : p < n := tx_in hW (by omega)
      obtain ⟨S1, s1, s2, s3⟩ := fs_tag hS hM hT hP hB0 hch ht hs hdep ih
      obtain ⟨S', t1, t2, t3⟩ := ih h13 hq S1 dep s1 (by omega)
      refine ⟨S', t1, fun d K hd hK => ?_, fun d K hd hK => ?_⟩
      · obtain ⟨d, rfl⟩ : ∃ e, d = e + 1 := ⟨d - 1, by omega⟩
        exact w_Fo_through_16 hS (z_bf h2 (s2 d _ (by omega) ⟨h3, t2 (d + 1) K (by omega) hK⟩))
      · obtain ⟨d, rfl⟩ : ∃ e, d = e + 1 := ⟨d - 1, by omega⟩
        refine w_m_ends_7 hM (by omega) (z_bf (by rw [z_le (by omega) (by omega)]; omega) (c_letter hM hT (by omega) ?_))
        rw [tx_nxe hW (by decide)]
        refine z_bt h6 (s3 d _ (by omega) ?_)
        rw [z_add]
        exact c_behindTag (K := fun v f' => m_ends_7 Gm (d + 1) (nI t) (nI q) S1 v f' K) hM hT (by omega) ht (t3 (d + 1) K (by omega) hK)
end FB
