/-! ARGUMENTS ARE READ: the loop -/
section AL
variable {w : Nat → Nat} {n : Nat}
/-- where the reference to what is read next lies -/
def rd_L (r1 r2 x y : Nat) : Prop := (r2 = 0 ∧ x = r1 ∧ y = 7) ∨ (r2 ≠ 0 ∧ x = r2 ∧ y = 10)
theorem ja_tail {d rd r1 r2 x y i N v : Nat} {G : mj_G} {K : mj_G → Prop} (hL : rd_L r1 r2 x y) (hN : mj_k G N = 6) (hx : mj_k G x = 6)
    (h : (mj_k (mj_pR (mj_pR G N 6 v) x y N) rd = 8) ∧ Rd_sign d rd (mj_i (mj_pR (mj_pR G N 6 v) x y N) rd 4) (mj_pR (mj_pR G N 6 v) x y N) (fun v42 G41 => mm_br (v42 = (nI 44)) (mm_br (nI i = (nI 2)) (K G41) ((mj_k G41 rd = 8) ∧ ∀ G44, G44 = mj_pI G41 rd 4 ((mj_i G41 rd 4) + (nI 1)) → Rd_readArguments_25 (d + 1) rd r1 N (nI i + nI 1) G44 K)) (K G41))) :
    (mj_k G N = 6) ∧ ∀ G30, G30 = mj_pR G N 6 v → mm_br (r2 = 0) ((mj_k G30 r1 = 6) ∧ ∀ G39, G39 = mj_pR G30 r1 7 N → (mj_k G39 rd = 8) ∧ Rd_sign d rd (mj_i G39 rd 4) G39 (fun v42 G41 => mm_br (v42 = (nI 44)) (mm_br (nI i = (nI 2)) (K G41) ((mj_k G41 rd = 8) ∧ ∀ G44, G44 = mj_pI G41 rd 4 ((mj_i G41 rd 4) + (nI 1)) → Rd_readArguments_25 (d + 1) rd r1 N (nI i + nI 1) G44 K)) (K G41))) ((mj_k G30 r2 = 6) ∧ ∀ G32, G32 = mj_pR G30 r2 10 N → (mj_k G32 rd = 8) ∧ Rd_sign d rd (mj_i G32 rd 4) G32 (fun v35 G34 => mm_br (v35 = (nI 44)) (mm_br (nI i = (nI 2)) (K G34) ((mj_k G34 rd = 8) ∧ ∀ G37, G37 = mj_pI G34 rd 4 ((mj_i G34 rd 4) + (nI 1)) → Rd_readArguments_25 (d + 1) rd r1 N (nI i + nI 1) G37 K)) (K G34))) := by
  refine ⟨hN, ?_⟩
  rintro _ rfl
  rcases hL with ⟨h1, h2, h3⟩ | ⟨h1, h2, h3⟩
  · subst h2 h3
    refine z_bt h1 ⟨hx, ?_⟩
    rintro _ rfl
    exact h
  · subst h2 h3
    refine z_bf h1 ⟨hx, ?_⟩
    rintro _ rfl
    exact h
theorem tx_as_le (w : Nat → Nat) (p : Nat) : p ≤ tx_as w p := by
  by_cases h : tx_L (w p) ∧ w (p + 1) = 58
  · rw [ja_ah h]; omega
  · rw [ja_an h]; exact Nat.le_refl _
theorem tx_as_n {p : Nat} (hW : tx_W w n) (hp : p ≤ n) : tx_as w p ≤ n := by
  by_cases h : tx_L (w p) ∧ w (p + 1) = 58
  · rw [ja_ah h]
    have := tx_in hW (k := p + 1) (by have := h.2; omega)
    omega
  · rw [ja_an h]; exact hp
/-- at most m arguments from p on -/
theorem ja_L (hW : tx_W w n) (hE : ∀ k, je_E w n k) : ∀ (m : Nat) (p : Nat), p ≤ n → 0 < m → m ≤ 3 → ∃ res, rd_ok n p res ∧
    (∀ d G rd r1 r2 x y K, 4 * n + 60 ≤ d → cs_S G → rd_R G rd w n → rd_O G rd p → rd_L r1 r2 x y → mj_k G x = 6 → x < mj_n G → (∀ G', cs_S G' → rd_XA rd x y w p m G res G' → K G') → Rd_readArguments_25 (d + 1) rd r1 r2 (nI (3 - m)) G K) ∧
    (∀ d G f K, 4 * n + 60 ≤ d → mm_S G → pt_T f w n → K (rd_fin w res).1 (pt_a f (rd_fin w res).2) → m_takesArguments_26 G (d + 1) (nI (3 - m)) (pt_a f p) K)
  | 0, _, _, h, _ => absurd h (by omega)
  | m + 1, p, hp, _, hm => by
    have hn := hW.1
    have hs1 := tx_as_le w p
    have hs2 := tx_as_n hW hp
    obtain ⟨res, r1, r2, r3, r4⟩ := hE n (tx_as w p) hs2 (by omega)
    have hi : nI (3 - (m + 1)) = nI (2 - m) := by rw [show 3 - (m + 1) = 2 - m by omega]
    -- the class up to the tail
    have cls : ∀ d G rd a1 a2 x y K, 4 * n + 60 ≤ d → cs_S G → rd_R G rd w n → rd_O G rd p → rd_L a1 a2 x y → mj_k G x = 6 → x < mj_n G →
        (∀ v X G1 G2, cs_S G2 → fe_F rd G G1 → mj_n G1 = mj_n G + 1 → mj_u G1 = mj_u G + 11 → tx_ah w p (tx_as w p) X → mj_i G1 (mj_n G) 4 = X → mj_k G1 (mj_n G) = 6 → (∀ j, mj_r G1 (mj_n G) j = 0) → rd_X rd w (tx_as w p) false G1 res v G2 → mj_k G2 (mj_n G) = 6 → mj_k G2 x = 6 → fe_F rd G G2 → rd_R (mj_pR (mj_pR G2 (mj_n G) 6 v) x y (mj_n G)) rd w n → cs_S (mj_pR (mj_pR G2 (mj_n G) 6 v) x y (mj_n G)) →
          Rd_sign d rd (mj_i (mj_pR (mj_pR G2 (mj_n G) 6 v) x y (mj_n G)) rd 4) (mj_pR (mj_pR G2 (mj_n G) 6 v) x y (mj_n G)) (fun v42 G41 => mm_br (v42 = (nI 44)) (mm_br (nI (2 - m) = (nI 2)) (K G41) ((mj_k G41 rd = 8) ∧ ∀ G44, G44 = mj_pI G41 rd 4 ((mj_i G41 rd 4) + (nI 1)) → Rd_readArguments_25 (d + 1) rd a1 (mj_n G) (nI (2 - m) + nI 1) G44 K)) (K G41))) →
        Rd_readArguments_25 (d + 1) rd a1 a2 (nI (2 - m)) G K := by
      intro d G rd a1 a2 x y K hd hS hR hO hL hx hxn hK
      have hrd := hR.2.2.2.1
      have hne : rd ≠ mj_n G := by omega
      have hxr : ¬ x = rd := fun q => by have := hR.2.1; rw [← q, hx] at this; omega
      refine ja_cls (by omega) hS hR hO hp (by omega) (fun X hX => ?_)
      have hS1 : cs_S (mj_pI (mj_pI (nd_N G (nI 2) (mj_i G rd 2) (nI p)) (mj_n G) 4 X) rd 4 (nI (tx_as w p))) := cs_pI (cs_pI (nd_S hS))
      have hF1 : fe_F rd G (mj_pI (mj_pI (nd_N G (nI 2) (mj_i G rd 2) (nI p)) (mj_n G) 4 X) rd 4 (nI (tx_as w p))) := fe_trans (fe_nI nd_F (Nat.le_refl _)) (fe_pI (by decide))
      have hO1 : rd_O (mj_pI (mj_pI (nd_N G (nI 2) (mj_i G rd 2) (nI p)) (mj_n G) 4 X) rd 4 (nI (tx_as w p))) rd (tx_as w p) := ⟨z_iIs, (z_iIm (by decide)).trans ((z_iIn hne).trans ((nd_in hne).trans hO.2))⟩
      refine w_Rd_readArguments_110 hS1 ⟨(fe_R hR hF1).2.1, ?_⟩
      refine r3 d _ rd 0 _ (by omega) hS1 (fe_R hR hF1) hO1 (by omega) (fun v G2 hS2 hX2 => ?_)
      have hF2 : fe_F rd (mj_pI (mj_pI (nd_N G (nI 2) (mj_i G rd 2) (nI p)) (mj_n G) 4 X) rd 4 (nI (tx_as w p))) G2 := by
        cases res with
        | inl q => exact hX2.1
        | inr e => exact hX2.1
      have hF := fe_trans hF1 hF2
      have hkN : mj_k G2 (mj_n G) = 6 := (hF2.2 (mj_n G) (show mj_n G < mj_n G + 1 from Nat.lt_succ_self _)).1.trans (z_kIa.trans (z_kIa.trans nd_k))
      have hkx : mj_k G2 x = 6 := (hF.2 x hxn).1.trans hx
      have hR2 : rd_R (mj_pR (mj_pR G2 (mj_n G) 6 v) x y (mj_n G)) rd w n := fx_R hR (fx_trans (fx_of (fe_nR hF (Nat.le_refl _))) fx_set) hxr
      have hS3 : cs_S (mj_pR (mj_pR G2 (mj_n G) 6 v) x y (mj_n G)) := cs_pR (cs_pR hS2 hkN rfl) hkx rfl
      exact ja_tail hL hkN hkx ⟨hR2.2.1, hK v X _ G2 hS2 hF1 rfl rfl hX ((z_iIn (Ne.symm hne)).trans z_iIs) (z_kIa.trans (z_kIa.trans nd_k)) (fun j => z_rIa.trans (z_rIa.trans nd_r)) hX2 hkN hkx hF hR2 hS3⟩
    rw [hi]
    cases res with
    | inr e =>
      have re1 := r1.1
      have re2 := r1.2
      refine ⟨.inr e, ⟨by omega, by omega⟩, fun d G rd a1 a2 x y K hd hS hR hO hL hx hxn hK => ?_, fun d G f K hd hS hT hK => ?_⟩
      · refine cls d G rd a1 a2 x y K hd hS hR hO hL hx hxn (fun v X G1 G2 hS2 hF1 hn1 hu1 hX hX4 hk1 hr1 hX2 hkN hkx hF hR2 hS3 => ?_)
        obtain ⟨x1, x2, x4, x5⟩ := hX2
        have hend : K (mj_pR (mj_pR G2 (mj_n G) 6 v) x y (mj_n G)) := by
          refine hK _ hS3 ⟨fx_trans (fx_of (fe_nR hF (Nat.le_refl _))) fx_set, x2, ?_, ?_⟩
          · show mj_n G2 + 2 * p ≤ _
            omega
          · show mj_u G2 + 11 * mj_n G + p ≤ mj_u G + 11 * mj_n G2 + e
            omega
        refine c_sign' hS3 hR2 (fun c hc => ?_)
        refine z_br (fun _ => z_br (fun _ => hend) (fun hi2 => ⟨hR2.2.1, ?_⟩)) (fun _ => hend)
        rintro _ rfl
        have hR4 := fe_R hR2 (fe_pI (G := mj_pR (mj_pR G2 (mj_n G) 6 v) x y (mj_n G)) (x := mj_i (mj_pR (mj_pR G2 (mj_n G) 6 v) x y (mj_n G)) rd 4 + nI 1) (Nat.le_refl 4))
        rw [z_add]
        refine w_Rd_readArguments_25 (cs_pI hS3) (by omega) ?_
        have hend4 : K (mj_pI (mj_pR (mj_pR G2 (mj_n G) 6 v) x y (mj_n G)) rd 4 (mj_i (mj_pR (mj_pR G2 (mj_n G) 6 v) x y (mj_n G)) rd 4 + nI 1)) := by
          refine hK _ (cs_pI hS3) ⟨fx_trans (fx_trans (fx_of (fe_nR hF (Nat.le_refl _))) fx_set) (fx_of (fe_pI (by decide))), (z_iIm (by decide)).trans x2, ?_, ?_⟩
          · show mj_n G2 + 2 * p ≤ _
            omega
          · show mj_u G2 + 11 * mj_n G + p ≤ mj_u G + 11 * mj_n G2 + e
            omega
        refine z_br (fun _ => hend4) (fun _ => ⟨hR4.2.1, c_failedF (cs_pI hS3) hR4 ((z_iIm (by decide)).trans x2) (by omega) (z_bt rfl hend4)⟩)
      · refine ja_mod (by omega) hS hW hT hp ?_
        refine r4 d G f _ (by omega) hS hT ?_
        have hz : ∀ z, m_takesArguments_4 G (d + 1) (bI false) z (pt_a f e) K := fun z => by
          refine w_m_takesArguments_4 hS ?_
          exact z_br (fun _ => z_bt rfl hK) (fun _ => z_bt rfl (z_bt rfl hK))
        exact z_br (fun _ => hz _) (fun _ => z_bf (fun h => nomatch h) (hz _))
    | inl q =>
      have re1 := r1.1
      have re2 := r1.2
      have hwq := tx_le hW q
      by_cases hgo : 0 < m ∧ w q = 44
      · obtain ⟨hm0, h44⟩ := hgo
        have hqn : q < n := tx_in hW (by omega)
        obtain ⟨res', s1, s3, s4⟩ := ja_L hW hE m (q + 1) (by omega) hm0 (by omega)
        have h2m : nI (2 - m) + nI 1 = nI (3 - m) := by rw [z_add, show 2 - m + 1 = 3 - m by omega]
        refine ⟨res', ?_, fun d G rd a1 a2 x y K hd hS hR hO hL hx hxn hK => ?_, fun d G f K hd hS hT hK => ?_⟩
        · cases res' with
          | inl e => exact ⟨by have := s1.1; omega, s1.2⟩
          | inr e => exact ⟨by have := s1.1; omega, s1.2⟩
        · refine cls d G rd a1 a2 x y K hd hS hR hO hL hx hxn (fun v X G1 G2 hS2 hF1 hn1 hu1 hX hX4 hk1 hr1 hX2 hkN hkx hF hR2 hS3 => ?_)
          obtain ⟨x1, x2, ⟨l, x3⟩, x4, x5⟩ := hX2
          have hne : rd ≠ mj_n G := by have := hR.2.2.2.1; omega
          have hle := hF.1
          have hle1 := x1.1
          have hO2 : rd_O (mj_pR (mj_pR G2 (mj_n G) 6 v) x y (mj_n G)) rd q := x2
          rw [hO2.1]
          refine c_sign hS3 hR2 (by omega) ?_
          rw [h44]
          refine z_bt rfl (z_bf (by rw [z_eq (by omega) (by omega)]; omega) ⟨hR2.2.1, ?_⟩)
          rintro _ rfl
          rw [hO2.1, h2m, z_add]
          have hF4 : fe_F rd (mj_pR (mj_pR G2 (mj_n G) 6 v) x y (mj_n G)) (mj_pI (mj_pR (mj_pR G2 (mj_n G) 6 v) x y (mj_n G)) rd 4 (nI (q + 1))) := fe_pI (by decide)
          refine s3 d _ rd a1 (mj_n G) (mj_n G) 10 K hd (cs_pI hS3) (fe_R hR2 hF4) (rd_O4 hO2) (Or.inr ⟨by have := hS.1; omega, rfl, rfl⟩) hkN (by show mj_n G < mj_n G2; omega) (fun G' hS' hX' => ?_)
          have hFx : fx_F rd x y G (mj_pI (mj_pR (mj_pR G2 (mj_n G) 6 v) x y (mj_n G)) rd 4 (nI (q + 1))) := fx_trans (fx_trans (fx_of (fe_nR hF (Nat.le_refl _))) fx_set) (fx_of hF4)
          cases res' with
          | inr e =>
            obtain ⟨y1, y2, y4, y5⟩ := hX'
            refine hK _ hS' ⟨fx_new hFx y1 (Nat.le_refl _), y2, ?_, ?_⟩
            · have y4' : mj_n G' + 2 * (q + 1) ≤ mj_n G2 + 2 * e + 3 := y4
              omega
            · have y5' : mj_u G' + 11 * mj_n G2 + (q + 1) ≤ mj_u G2 + 11 * mj_n G' + e := y5
              omega
          | inl e =>
            obtain ⟨y1, y2, y3, y4, y5⟩ := hX'
            have y4' : mj_n G' + 2 * (q + 1) ≤ mj_n G2 + 2 * e := y4
            have y5' : mj_u G' + 11 * mj_n G2 + (q + 1) ≤ mj_u G2 + 11 * mj_n G' + e := y5
            have hle2 : mj_n G2 ≤ mj_n G' := y1.1
            have hxN : x ≠ mj_n G := by omega
            obtain ⟨b1, b2, b3, b4, b5⟩ := y1.2 (mj_n G) (by show mj_n G < mj_n G2; omega)
            obtain ⟨c1, c2, c3, c4, c5⟩ := y1.2 x (by show x < mj_n G2; omega)
            obtain ⟨a1', a2', a3', a4', -⟩ := x1.2 (mj_n G) (by omega)
            have hxr : mj_r G' x y = mj_n G := (c3 y (fun q => hxN q.1)).trans z_rRs
            refine hK _ hS' ⟨fx_new hFx y1 (Nat.le_refl _), y2, ?_, by omega, by omega⟩
            rw [hxr]
            refine ⟨⟨Nat.le_refl _, by omega⟩, by have := hS.1; omega, b1.trans hkN, tx_as w p, q, ?_, ⟨l, ?_⟩, Or.inl ⟨hm0, h44, ?_⟩⟩
            · rw [b4 4 (fun q => hne q.1.symm), show mj_i (mj_pI (mj_pR (mj_pR G2 (mj_n G) 6 v) x y (mj_n G)) rd 4 (nI (q + 1))) (mj_n G) 4 = X from (z_iIn (Ne.symm hne)).trans ((a4' 4 (fun q => hne q.1.symm)).trans hX4)]
              exact hX
            · rw [b3 6 (fun q => by have := q.2; omega), show mj_r (mj_pI (mj_pR (mj_pR G2 (mj_n G) 6 v) x y (mj_n G)) rd 4 (nI (q + 1))) (mj_n G) 6 = v from (z_rRn (Ne.symm hxN)).trans z_rRs]
              refine tx_E_mono w (fun a ha => ⟨by have := ha.1; omega, by have := ha.2; omega⟩) (fun a ha => ?_) (Nat.le_refl _) x3
              have ha1 := ha.1
              have ha2 := ha.2
              obtain ⟨d1, d2, d3, d4, -⟩ := y1.2 a ha2
              refine ⟨d1, d2, fun j => (d3 j (fun q => by have := q.1; omega)).trans ((z_rRn (by omega)).trans (z_rRn (by omega))), fun j => (d4 j (fun q => by have := q.1; have := hR.2.2.2.1; omega)).trans (z_iIn (by have := hR.2.2.2.1; omega))⟩
            · refine tx_A_mono w (fun a ha => ⟨?_, ha.2⟩) (fun a ha => ⟨rfl, rfl, fun _ => rfl, fun _ => rfl⟩) y3
              have : mj_n G2 ≤ a := ha.1
              omega
        · refine ja_mod (by omega) hS hW hT hp ?_
          refine r4 d G f _ (by omega) hS hT ?_
          refine z_bf (by rw [z_eq (by omega) (by omega)]; omega) (z_bt rfl ?_)
          refine c_takes hS hW hT (by omega) re2 (by decide) (fun _ => z_bt rfl ?_) (fun q => absurd h44 q)
          rw [h2m]
          refine w_m_takesArguments_4 hS ?_
          refine z_bf (by rw [z_le (by omega) (by omega)]; omega) (z_bf (show ¬ bI true = nI 0 by decide) (z_bt (by rw [z_lt (by omega) (by omega)]; omega) ?_))
          exact s4 d G f K hd hS hT hK
      · refine ⟨.inl q, ⟨by omega, re2⟩, fun d G rd a1 a2 x y K hd hS hR hO hL hx hxn hK => ?_, fun d G f K hd hS hT hK => ?_⟩
        · refine cls d G rd a1 a2 x y K hd hS hR hO hL hx hxn (fun v X G1 G2 hS2 hF1 hn1 hu1 hX hX4 hk1 hr1 hX2 hkN hkx hF hR2 hS3 => ?_)
          obtain ⟨x1, x2, ⟨l, x3⟩, x4, x5⟩ := hX2
          have hne : rd ≠ mj_n G := by have := hR.2.2.2.1; omega
          have hle := hF.1
          have hle1 := x1.1
          have hxN : x ≠ mj_n G := by omega
          have hO2 : rd_O (mj_pR (mj_pR G2 (mj_n G) 6 v) x y (mj_n G)) rd q := x2
          obtain ⟨a1', a2', a3', a4', -⟩ := x1.2 (mj_n G) (by omega)
          have hend : K (mj_pR (mj_pR G2 (mj_n G) 6 v) x y (mj_n G)) := by
            refine hK _ hS3 ⟨fx_trans (fx_of (fe_nR hF (Nat.le_refl _))) fx_set, hO2, ?_, ?_, ?_⟩
            · rw [z_rRs]
              refine ⟨⟨Nat.le_refl _, ?_⟩, by have := hS.1; omega, hkN, tx_as w p, q, ?_, ⟨l, ?_⟩, Or.inr ⟨by omega, rfl, ?_⟩⟩
              · show mj_n G < mj_n G2
                omega
              · rw [show mj_i (mj_pR (mj_pR G2 (mj_n G) 6 v) x y (mj_n G)) (mj_n G) 4 = X from (a4' 4 (fun q => hne q.1.symm)).trans hX4]
                exact hX
              · rw [show mj_r (mj_pR (mj_pR G2 (mj_n G) 6 v) x y (mj_n G)) (mj_n G) 6 = v from (z_rRn (Ne.symm hxN)).trans z_rRs]
                refine tx_E_mono w (fun a ha => ⟨by have := ha.1; omega, ha.2⟩) (fun a ha => ?_) (Nat.le_refl _) x3
                have ha1 := ha.1
                exact ⟨rfl, rfl, fun j => (z_rRn (by omega)).trans (z_rRn (by omega)), fun j => rfl⟩
              · exact (z_rRn (Ne.symm hxN)).trans ((z_rRm (by decide)).trans ((a3' 10).trans (hr1 10)))
            · show mj_n G2 + 2 * p ≤ _
              omega
            · show mj_u G2 + 11 * mj_n G + p ≤ mj_u G + 11 * mj_n G2 + q
              omega
          rw [hO2.1]
          refine c_sign hS3 hR2 (by omega) ?_
          rw [z_eq (by omega) (by omega)]
          refine z_br (fun h44 => z_bt ?_ hend) (fun _ => hend)
          rw [show m = 0 from by omega]
        · refine ja_mod (by omega) hS hW hT hp ?_
          refine r4 d G f _ (by omega) hS hT ?_
          have h4 : m_takesArguments_4 G (d + 1) (bI true) ((nI 3) + nI 1) (pt_a f q) K := by
            rw [z_add]
            exact ja_end (by omega) hS hW hT re2 (by decide) hK
          rw [z_eq (by omega) (by omega)]
          refine z_br (fun _ => h4) (fun hm2 => z_bt rfl ?_)
          exact c_takes hS hW hT (by omega) re2 (by decide) (fun h44 => absurd ⟨by omega, h44⟩ hgo) (fun _ => z_bf (by decide) h4)
end AL
