/-! THE CALLS OF THE LAW, one by one: the simple ones -/
/-- what a call of the model answers -/
def rJ (c : Nat → Nat) (res : Int32 ⊕ Nat) (v t : Int32) : Prop := (∀ r, res = .inl r → v = r ∧ t = nI 0) ∧ ∀ k, res = .inr k → t = nI (c k)
theorem rJ_v {c : Nat → Nat} {r v t : Int32} (h : v = r) (ht : t = nI 0) : rJ c (.inl r) v t := ⟨fun _ q => by cases q; exact ⟨h, ht⟩, fun _ q => by cases q⟩
theorem rJ_x {c : Nat → Nat} {k : Nat} {v t : Int32} (ht : t = nI (c k)) : rJ c (.inr k) v t := ⟨fun _ q => (by cases q), fun _ q => by cases q; exact ht⟩
/-- a call answers alike by both sides, and the state goes on alike -/
def opJ (Cl : Nat → mj_G → (Int32 ⊕ Nat → mj_G → Prop) → Prop) (Mo : mj_G → Nat → mm_F → (Int32 → mm_F → Prop) → Prop) (c : Nat → Nat) : Prop := ∀ s, LQ s → ∃ s' res, LQ s' ∧ (∀ k, res = .inr k → c k ≠ 0) ∧ (∀ d ρ G K, 1200 ≤ d → LC s ρ G → (∀ ρ' G', LC s' ρ' G' → yF G G' → K res G') → Cl d G K) ∧ ∀ Gm d f K, 1800 ≤ d → mm_S Gm → LM s f → (∀ f' v, LM s' f' → rJ c res v (f' 1714 0) → K v f') → Mo Gm d f K
def cA (k : Nat) : Nat := if k = 15 then 1 else if k = 16 then 2 else 0
def cB (k : Nat) : Nat := if k = 17 then 1 else if k = 15 then 2 else 0
def c15 (k : Nat) : Nat := if k = 15 then 1 else 0
def c17 (k : Nat) : Nat := if k = 17 then 1 else 0
/-- other typed text, other shapes -/
def ls_z (s : lst) (n : Nat) (w z : Nat → Nat) : lst := (s.1, s.2.1, s.2.2.1, s.2.2.2.1, s.2.2.2.2.1, (n, w), z)
theorem yF_r {G : mj_G} : yF G G := yR_F yR_r (by decide) (by decide)
theorem z_nn {x : Int32} (h : ¬ x < nI 0) : ∃ n, n < 2 ^ 31 ∧ x = nI n := by
  have h0 : ¬ x.toInt < 0 := fun q => h (by rw [Int32.lt_iff_toInt_lt, nI_toInt (by decide)]; exact q)
  have h1 : x.toInt < 2147483648 := Int32.toInt_lt x
  refine ⟨x.toInt.toNat, by omega, ?_⟩
  apply Int32.toInt_inj.mp
  rw [nI_toInt (by omega)]
  omega
theorem z_in {a b c : Nat} (ha : a < 2 ^ 31) (hb : b < 2 ^ 31) (hc : c < 2 ^ 31) : (qb (q_13003 (nI c) (nI a) (nI b)) = true) = (a ≤ c ∧ c ≤ b) := by
  unfold q_13003
  by_cases h1 : c < a
  · rw [if_pos (show nI c < nI a by rw [z_lt hc ha]; exact h1)]
    exact propext ⟨fun q => absurd q (by decide), fun q => by omega⟩
  · rw [if_neg (show ¬ nI c < nI a by rw [z_lt hc ha]; exact h1)]
    by_cases h2 : b < c
    · rw [if_pos (show nI b < nI c by rw [z_lt hb hc]; exact h2)]
      exact propext ⟨fun q => absurd q (by decide), fun q => by omega⟩
    · rw [if_neg (show ¬ nI b < nI c by rw [z_lt hb hc]; exact h2)]
      exact propext ⟨fun _ => by omega, fun _ => rfl⟩
theorem z_nin {x : Int32} {a b : Int32} (h : x < a) : ¬ qb (q_13003 x a b) = true := by
  unfold q_13003
  rw [if_pos h]
  decide
theorem q_let {x : Int32} : q_12029 x = q_13005 x := rfl
/-- a letter, or none -/
theorem le_x {c : Nat} (hc : c < 65536) : (∃ l, l < 26 ∧ c = 97 + l ∧ qb (q_13005 (nI c)) = true) ∨ ¬ qb (q_13005 (nI c)) = true := by
  by_cases h : 97 ≤ c ∧ c ≤ 122
  · exact Or.inl ⟨c - 97, by omega, by omega, by show qb (q_13003 (nI c) (nI 97) (nI 122)) = true; rw [z_in (by decide) (by decide) (by omega)]; exact h⟩
  · exact Or.inr (fun q => h (by have q' : qb (q_13003 (nI c) (nI 97) (nI 122)) = true := q; rw [z_in (by decide) (by decide) (by omega)] at q'; exact q'))
/-- a digit, or below it, or above it -/
theorem di_x {x : Int32} : (∃ t, t < 10 ∧ x = nI t ∧ qb (q_13006 x) = true) ∨ (¬ qb (q_13006 x) = true ∧ (x < nI 0 ∨ (¬ x < nI 0 ∧ ¬ x < nI 10))) := by
  by_cases h : x < nI 0
  · exact Or.inr ⟨z_nin h, Or.inl h⟩
  · obtain ⟨n, hn, rfl⟩ := z_nn h
    by_cases h1 : n < 10
    · exact Or.inl ⟨n, h1, rfl, by show qb (q_13003 (nI n) (nI 0) (nI 9)) = true; rw [z_in (by decide) (by decide) hn]; omega⟩
    · refine Or.inr ⟨fun q => ?_, Or.inr ⟨h, by rw [z_lt hn (by decide)]; exact h1⟩⟩
      have q' : qb (q_13003 (nI n) (nI 0) (nI 9)) = true := q
      rw [z_in (by decide) (by decide) hn] at q'
      omega
theorem z_ch {c : Nat} (h : c < 65536) : mj_c (nI c) := ⟨by rw [show (0 : Int32) = nI 0 from rfl, z_le (by decide) (by omega)]; omega, by rw [show (65535 : Int32) = nI 65535 from rfl, z_le (by omega) (by decide)]; omega⟩
section ZZY
variable {s : lst} {ρ ρ' : Nat → Nat} {G G1 G' : mj_G} {f f' : mm_F} {W S1 R1 P : Nat → Prop} {n c x l : Nat} {w z : Nat → Nat} {d : Nat}
theorem LC_g (h : LC s ρ G) (hh' : hh ρ' (u_D (ls_u s)) (u_I (ls_u s)) G') (F : f0 ρ W G G') (he : ro_e ρ ρ' G) (hW : ∀ o, W o → ¬ im_o o ∧ ¬ gW o ∧ ¬ oW o ∧ o ≠ 6) (hT : yT G' n w) (hz : yS G' z) : LC (ls_z s n w z) ρ' G' := by
  obtain ⟨h1, h2, h3, h4, h5, h6, h7⟩ := h
  have hG := hh_n h1
  exact ⟨hh', wY_f0 h1 h2 F he (fun o q => (hW o q).1), fgC_f0 h1 h3 F he (fun o q => ⟨(hW o q).1, (hW o q).2.1⟩), yO_f h1 h4 F (fun o q => (hW o q).2.2.1), yB_f hG h5 F (fun q => (hW 6 q).2.2.2 rfl), hT, hz⟩
theorem wM_g {u : wo} (h : wM u f) (F : mw P S1 R1 f f') (hS : ¬ S1 67) (hR : ∀ a, 1716 ≤ a → a ≤ 1727 → ¬ R1 a) : wM u f' := by
  obtain ⟨h1, h2, h3, h4⟩ := h
  have r : ∀ a i, 1716 ≤ a → a ≤ 1727 → f' a i = f a i := fun a i q1 q2 => F.1 a i (by omega) (by omega) (hR a q1 q2)
  refine ⟨tL_f h1 F ⟨hR _ (by decide) (by decide), hR _ (by decide) (by decide)⟩, mfo_f h2 F ⟨hR _ (by decide) (by decide), hR _ (by decide) (by decide)⟩, ?_, (F.2.1 67 hS).trans h4⟩
  have r20 : f' 1720 = f 1720 := funext fun i => r _ i (by decide) (by decide)
  have r21 : f' 1721 = f 1721 := funext fun i => r _ i (by decide) (by decide)
  have r22 : f' 1722 = f 1722 := funext fun i => r _ i (by decide) (by decide)
  have r23 : f' 1723 = f 1723 := funext fun i => r _ i (by decide) (by decide)
  have r24 : f' 1724 = f 1724 := funext fun i => r _ i (by decide) (by decide)
  have r25 : f' 1725 = f 1725 := funext fun i => r _ i (by decide) (by decide)
  have r26 : f' 1726 = f 1726 := funext fun i => r _ i (by decide) (by decide)
  have r27 : f' 1727 = f 1727 := funext fun i => r _ i (by decide) (by decide)
  unfold md at h3 ⊢
  rw [r20, r21, r22, r23, r24, r25, r26, r27]
  exact h3
theorem zO_f {o : ost} {nb : Nat} {cb : Nat → Nat} (h : zO f o nb cb) (F : mw P S1 R1 f f') (hS : ∀ j, S1 j → ¬ (j = 61 ∨ j = 62 ∨ j = 64)) (hR : ∀ a, R1 a → ¬ (1759 ≤ a ∧ a ≤ 1761)) : zO f' o nb cb := by
  obtain ⟨⟨oQ, h1, h2, h3⟩, h4, h5⟩ := h
  exact ⟨⟨oQ, oM_f h1 F ⟨fun q => hS _ q (by omega), fun q => hS _ q (by omega)⟩ ⟨fun q => hR _ q (by omega), fun q => hR _ q (by omega)⟩, h2, h3⟩, (F.2.1 64 (fun q => hS _ q (by omega))).trans h4, fun i hi => (F.1 1761 i (by decide) (by decide) (fun q => hR _ q (by omega))).trans (h5 i hi)⟩
theorem LM_g (h : LM s f) (F : mw P S1 R1 f f') (hS : ∀ j, S1 j → ¬ (j = 67 ∨ j = 61 ∨ j = 62 ∨ j = 64 ∨ j = 68 ∨ j = 69)) (hR : ∀ a, R1 a → a = 1715 ∨ a = 1763 ∨ (1728 ≤ a ∧ ¬ (1749 ≤ a ∧ a ≤ 1761))) (hT : pt_T f' w n) (hz : zH f' z) : LM (ls_z s n w z) f' := by
  obtain ⟨h1, h2, h3, h4, h5, h6⟩ := h
  exact ⟨wM_g h1 F (fun q => hS _ q (by omega)) (fun a q1 q2 q => by have := hR a q; omega), fgM_f h2 F (fun a q => by have := hR a q; omega), zO_f h3 F (fun j q => by have := hS j q; omega) (fun a q => by have := hR a q; omega), ⟨(F.2.1 68 (fun q => hS _ q (by omega))).trans h4.1, (F.2.1 69 (fun q => hS _ q (by omega))).trans h4.2⟩, hT, hz⟩
theorem LM_0 {x : Int32} (h : LM s f) : LM s (mj_u2 f 1714 0 x) := LM_g (P := no_R) (S1 := fun j => j = 0) (R1 := no_R) (n := ls_n s) (w := ls_w s) (z := ls_k s) h (mw_S rfl) (fun j q => by omega) (fun a q => q.elim) ⟨(z_u2m (by decide)).trans h.2.2.2.2.1.1, fun k hk => (z_u2n (by decide)).trans (h.2.2.2.2.1.2 k hk)⟩ (fun i hi => (z_u2n (by decide)).trans (h.2.2.2.2.2 i hi))
theorem yR_I {a j : Nat} {x : Int32} (h : ¬ (a = 1 ∨ (1714 ≤ a ∧ a ≤ 1767))) : yR 0 0 G (mj_pI G a j x) := ⟨fun _ _ => ⟨rfl, rfl⟩, fun b k q1 q2 => ⟨z_iIn (by omega), rfl⟩, Nat.le_refl _, Nat.le_refl _, Nat.le_refl _⟩
theorem op_spent : opJ (fun d G K => Tq_spent d G (fun v G' => K (.inl v) G')) (fun Gm d f K => m_spent Gm d f K) (fun _ => 0) := fun s hs => ⟨s, .inl (nI (ls_t s)), hs, fun _ q => (by cases q), fun d ρ G K hd h hK => by
  refine w_Tq_spent h.1.1 ?_
  rw [h.2.2.2.2.1.2.1]
  exact hK ρ G h yF_r, fun Gm d f K hd hM h hK => by
  refine w_m_spent hM ?_
  exact hK _ _ (LM_0 h) (rJ_v ((z_u2m (by decide)).trans h.2.2.2.1.1) z_u2s)⟩
theorem op_hits : opJ (fun d G K => Tq_hits d G (fun v G' => K (.inl v) G')) (fun Gm d f K => m_hits Gm d f K) (fun _ => 0) := fun s hs => ⟨s, .inl (nI (ls_h s)), hs, fun _ q => (by cases q), fun d ρ G K hd h hK => by
  refine w_Tq_hits h.1.1 ?_
  rw [h.2.2.2.2.1.2.2]
  exact hK ρ G h yF_r, fun Gm d f K hd hM h hK => by
  refine w_m_hits hM ?_
  exact hK _ _ (LM_0 h) (rJ_v ((z_u2m (by decide)).trans h.2.2.2.1.2) z_u2s)⟩
/-- the typed text written -/
theorem LC_T {a j : Nat} {x : Int32} (h : LC s ρ G) (ha : a = 3 ∨ a = 4) (hT : yT (mj_pI G a j x) n w) : LC (ls_z s n w (ls_k s)) ρ (mj_pI G a j x) := by
  have hk : mj_k G a ≠ 12 := fun q => by
    rcases ha with t | t
    · rw [t, cs_k (K := 13) h.1.1 rfl] at q; exact absurd q (by decide)
    · rw [t, cs_k (K := 22) h.1.1 rfl] at q; exact absurd q (by decide)
  have hi : ¬ imm ρ a := by unfold imm im_o; rw [ow_s (by omega)]; omega
  exact LC_g (W := fun o => o = a) h (hh_I h.1 hi (fun _ q => absurd q hk)) (f0_fw (fw_I (by rw [ow_s (by omega)]))) ro_r (fun o q => by subst q; unfold im_o gW oW; omega) hT (fun i hi => (z_iIn (by omega)).trans (h.2.2.2.2.2.2 i hi))
theorem op_wipe : opJ (fun d G K => Tq_wipe d G (fun v G' => K (.inl v) G')) (fun Gm d f K => m_wipe Gm d f K) (fun _ => 0) := fun s hs => ⟨ls_z s 0 (fun _ => 0) (ls_k s), .inl (nI (ls_n s)), ⟨hs.1, ⟨Nat.zero_le _, fun k hk => absurd hk (Nat.not_lt_zero k), fun _ _ => rfl⟩, hs.2.2⟩, fun _ q => (by cases q), fun d ρ G K hd h hK => by
  refine w_Tq_wipe h.1.1 ?_
  rintro _ rfl
  rw [h.2.2.2.2.2.1.1]
  exact hK ρ _ (LC_T h (Or.inl rfl) ⟨z_iIs, fun k hk => absurd hk (Nat.not_lt_zero k)⟩) (yR_F (yR_I (by decide)) (by decide) (by decide)), fun Gm d f K hd hM h hK => by
  refine w_m_wipe hM ?_
  have e : (mj_u2 f 1714 0 (nI 0)) 1714 2 = nI (ls_n s) := (z_u2m (by decide)).trans h.2.2.2.2.1.1
  rw [e]
  refine hK _ _ ?_ (rJ_v rfl ((z_u2m (by decide)).trans z_u2s))
  exact LM_g (P := no_R) (S1 := fun j => j = 2) (R1 := no_R) (LM_0 h) (mw_S rfl) (fun j q => by omega) (fun a q => q.elim) ⟨z_u2s, fun k hk => absurd hk (Nat.not_lt_zero k)⟩ (fun i hi => (z_u2n (by decide)).trans ((LM_0 h).2.2.2.2.2 i hi))⟩
/-- one more character typed -/
theorem tx_Wu (h : tx_W w n) (hn : n < 80) (hc : 32 ≤ c ∧ c ≤ 126) : tx_W (g_u w n c) (n + 1) := ⟨by omega, fun k hk => by
  by_cases q : k = n
  · rw [q, g_us]; exact hc
  · rw [g_un q]; exact h.2.1 k (by omega), fun k hk => by rw [g_un (by omega)]; exact h.2.2 k (by omega)⟩
theorem op_type {c : Nat} (hc : c < 65536) : opJ (fun d G K => Tq_type d (nI c) G K) (fun Gm d f K => m_type Gm d (nI c) f K) cA := fun s hs => by
  have hn := hs.2.1.1
  by_cases h1 : 32 ≤ c ∧ c ≤ 126
  case neg =>
    refine ⟨s, .inr 15, hs, fun _ q => (by cases q; decide), fun d ρ G K hd h hK => ?_, fun Gm d f K hd hM h hK => ?_⟩
    · obtain ⟨a1, a2⟩ := LC_al (kd := 16) (len := 6) h (by decide)
      have hk := hK ρ _ a1 (yR_F a2 (by decide) (by decide))
      refine w_Tq_type h.1.1 (by omega) ?_
      rw [z_lt (by omega) (by decide), z_le (by omega) (by decide)]
      exact z_br (fun _ => hk) (fun q => z_bf (by omega) hk)
    · obtain ⟨d, rfl⟩ : ∃ y, d = y + 1 := ⟨d - 1, by omega⟩
      refine w_m_type hM (by omega) ?_
      rw [z_in (by decide) (by decide) (by omega)]
      refine z_bf h1 (w_m_holds hM (z_bf (by decide) (z_bf (by decide) ?_)))
      exact hK _ _ (LM_0 h) (rJ_x z_u2s)
  by_cases h2 : ls_n s = 80
  · refine ⟨s, .inr 16, hs, fun _ q => (by cases q; decide), fun d ρ G K hd h hK => ?_, fun Gm d f K hd hM h hK => ?_⟩
    · obtain ⟨a1, a2⟩ := LC_al (kd := 17) (len := 6) h (by decide)
      have hk := hK ρ _ a1 (yR_F a2 (by decide) (by decide))
      refine w_Tq_type h.1.1 (by omega) ?_
      rw [z_lt (by omega) (by decide), z_le (by omega) (by decide), h.2.2.2.2.2.1.1, z_lt (by omega) (by decide)]
      exact z_bf (by omega) (z_bt h1.2 (z_bf (by omega) hk))
    · obtain ⟨d, rfl⟩ : ∃ y, d = y + 1 := ⟨d - 1, by omega⟩
      refine w_m_type hM (by omega) ?_
      rw [z_in (by decide) (by decide) (by omega), h.2.2.2.2.1.1]
      refine z_bt h1 (z_bt (by rw [h2]) (w_m_holds hM (z_bf (by decide) (z_bf (by decide) ?_))))
      exact hK _ _ (LM_0 h) (rJ_x z_u2s)
  have hW' := tx_Wu hs.2.1 (by omega) h1
  refine ⟨ls_z s (ls_n s + 1) (g_u (ls_w s) (ls_n s) c) (ls_k s), .inl (nI (ls_n s + 1)), ⟨hs.1, hW', hs.2.2⟩, fun _ q => (by cases q), fun d ρ G K hd h hK => ?_, fun Gm d f K hd hM h hK => ?_⟩
  · refine w_Tq_type h.1.1 (by omega) ?_
    rw [z_lt (by omega) (by decide), z_le (by omega) (by decide), h.2.2.2.2.2.1.1, z_lt (by omega) (by decide)]
    refine z_bf (by omega) (z_bt h1.2 (z_bt (by omega) (z_ixi (by omega) (by decide) ⟨z_ch hc, ?_⟩)))
    rintro _ rfl _ rfl
    have b1 : LC (ls_z s (ls_n s) (ls_w s) (ls_k s)) ρ (mj_pI G 4 (ls_n s) (nI c)) := LC_T h (Or.inr rfl) ⟨(z_iIn (by decide)).trans h.2.2.2.2.2.1.1, fun k hk => (z_iIm (by omega)).trans (h.2.2.2.2.2.1.2 k hk)⟩
    have e1 : mj_i (mj_pI G 4 (ls_n s) (nI c)) 3 1 = nI (ls_n s) := b1.2.2.2.2.2.1.1
    rw [z_iIs, e1, z_add]
    refine hK ρ _ (LC_T b1 (Or.inl rfl) ⟨z_iIs, fun k hk => ?_⟩) (yR_F (yR_t (yR_I (by decide)) (yR_I (by decide))) (by decide) (by decide))
    rw [z_iIn (by decide)]
    by_cases q : k = ls_n s
    · rw [q, g_us]; exact z_iIs
    · rw [g_un q]; exact (z_iIm q).trans (h.2.2.2.2.2.1.2 k (by omega))
  · obtain ⟨d, rfl⟩ : ∃ y, d = y + 1 := ⟨d - 1, by omega⟩
    refine w_m_type hM (by omega) ?_
    rw [z_in (by decide) (by decide) (by omega), h.2.2.2.2.1.1, z_eq (by omega) (by decide)]
    refine z_bt h1 (z_bf h2 (w_m_holds hM (z_bt rfl (z_bt rfl ?_))))
    have k0 := LM_0 (x := nI 0) h
    have e0 : (mj_u2 f 1714 0 (nI 0)) 1714 2 = nI (ls_n s) := k0.2.2.2.2.1.1
    rw [e0]
    refine z_ixi (by omega) (by decide) ?_
    have e1 : (mj_u2 (mj_u2 f 1714 0 (nI 0)) 1715 (ls_n s) (nI c)) 1714 2 = nI (ls_n s) := (z_u2n (by decide)).trans e0
    rw [z_u2s, e1, z_add]
    refine hK _ _ ?_ (rJ_v rfl ((z_u2m (by decide)).trans ((z_u2n (by decide)).trans z_u2s)))
    refine LM_g (P := no_R) (S1 := fun j => j = 2) (R1 := fun a => a = 1715) k0 (mw_t (mw_R (by decide) rfl) (mw_S rfl)) (fun j q => by omega) (fun a q => Or.inl q) ⟨z_u2s, fun k hk => ?_⟩ (fun i hi => (z_u2n (by decide)).trans ((z_u2n (by decide)).trans (k0.2.2.2.2.2 i hi)))
    rw [z_u2n (by decide)]
    by_cases q : k = ls_n s
    · rw [q, g_us]; exact z_u2s
    · rw [g_un q]; exact (z_u2m q).trans (k0.2.2.2.2.1.2 k (by omega))
end ZZY
