/-! PARAMETERS ARE READ, by both sides alike -/
/-- parameters from p on, at most i, none of them of sn: up to e -/
def tx_P : Nat → (Nat → Prop) → mj_G → Nat → (Nat → Nat) → Nat → Nat → (Nat → Prop) → Prop
  | 0, _, _, r, _, p, e, _ => r = 0 ∧ p = e
  | i + 1, A, G, r, w, p, e, sn => (r = 0 ∧ p = e ∧ ¬ tx_L (w p)) ∨ (A r ∧ r ≠ 0 ∧ mj_k G r = 6 ∧ tx_L (w p) ∧ ¬ sn (w p) ∧ mj_i G r 4 = nI (w p - 97) ∧ ∃ m, ((¬ w (p + 1) = 61 ∧ m = p + 1 ∧ mj_r G r 6 = 0) ∨ (w (p + 1) = 61 ∧ ∃ l, tx_E l A G (mj_r G r 6) w (p + 2) m true)) ∧
      tx_P i A G (mj_r G r 10) w m e (fun c => sn c ∨ c = w p))
theorem tx_P_mono {A B : Nat → Prop} {G G' : mj_G} (w : Nat → Nat) (hAB : ∀ a, A a → B a) (hG : ∀ a, A a → mj_k G' a = mj_k G a ∧ mj_l G' a = mj_l G a ∧ (∀ j, mj_r G' a j = mj_r G a j) ∧ ∀ j, mj_i G' a j = mj_i G a j) :
    ∀ {i r p e sn}, tx_P i A G r w p e sn → tx_P i B G' r w p e sn
  | 0, _, _, _, _, h => h
  | i + 1, r, p, e, sn, h => by
    rcases h with h | ⟨h1, h2, h3, h4, h5, h6, m, h7, h8⟩
    · exact Or.inl h
    · obtain ⟨g1, g2, g3, g4⟩ := hG r h1
      refine Or.inr ⟨hAB r h1, h2, g1.trans h3, h4, h5, (g4 4).trans h6, m, ?_, ?_⟩
      · rw [g3]
        rcases h7 with h7 | ⟨a, l, b⟩
        · exact Or.inl h7
        · exact Or.inr ⟨a, l, tx_E_mono w hAB hG (Nat.le_refl _) b⟩
      · rw [g3]
        exact tx_P_mono w hAB hG h8
/-- how reading parameters ends -/
def rd_XP (rd x y : Nat) (w : Nat → Nat) (p i : Nat) (sn : Nat → Prop) (G : mj_G) : Nat ⊕ Nat → mj_G → Prop
  | .inl e, G' => fx_F rd x y G G' ∧ rd_O G' rd e ∧ tx_P i (fe_I (mj_n G) (mj_n G')) G' (mj_r G' x y) w p e sn ∧ mj_n G' + 2 * p ≤ mj_n G + 2 * e ∧ mj_u G' + 11 * mj_n G + p ≤ mj_u G + 11 * mj_n G' + e
  | .inr e, G' => fx_F rd x y G G' ∧ mj_i G' rd 5 = nI e ∧ mj_n G' + 2 * p ≤ mj_n G + 2 * e + 3 ∧ mj_u G' + 11 * mj_n G + p ≤ mj_u G + 11 * mj_n G' + e
def rd_okP (n p : Nat) (res : Nat ⊕ Nat) : Prop := match res with
  | .inl q => p ≤ q ∧ q ≤ n
  | .inr e => p ≤ e ∧ e ≤ n
section JP
variable {w : Nat → Nat} {n : Nat}
theorem jp_link {d rd r1 r3 x y N : Nat} {S i : Int32} {G : mj_G} {K : mj_G → Prop} (hL : rd_L r1 r3 x y) (hx : mj_k G x = 6) (h : Rd_readParameters_7 (d + 1) rd r1 S N i (mj_pR G x y N) K) :
    mm_br (r3 = 0) ((mj_k G r1 = 6) ∧ ∀ G32, G32 = mj_pR G r1 7 N → Rd_readParameters_7 (d + 1) rd r1 S N i G32 K) ((mj_k G r3 = 6) ∧ ∀ G30, G30 = mj_pR G r3 10 N → Rd_readParameters_7 (d + 1) rd r1 S N i G30 K) := by
  rcases hL with ⟨h1, h2, h3⟩ | ⟨h1, h2, h3⟩
  · subst h2 h3
    refine z_bt h1 ⟨hx, ?_⟩
    rintro _ rfl
    exact h
  · subst h2 h3
    refine z_bf h1 ⟨hx, ?_⟩
    rintro _ rfl
    exact h
/-- the model at a } that must be -/
theorem jp_mod {d e : Nat} {x : Int32} {G : mj_G} {f : mm_F} {K : Bool → mm_F → Prop} (hd : 1 ≤ d) (hS : mm_S G) (hW : tx_W w n) (hT : pt_T f w n) (he : e ≤ n) (hx : x = nI 1) (h : K (rd_fin w (.inl e)).1 (pt_a f (rd_fin w (.inl e)).2)) : mm_br (x = (nI 0)) (K false (pt_a f e)) (m_takes G d (nI 125) (pt_a f e) (fun v2 f1 => mm_br (v2 = true) (K true f1) (K false f1))) := by
  subst hx
  refine z_bf (by decide) (c_takes hS hW hT hd he (by decide) (fun q => z_bt rfl ?_) (fun q => z_bf (by decide) ?_))
  · rw [show rd_fin w (.inl e) = (true, e + 1) from if_pos q] at h
    exact h
  · rw [show rd_fin w (.inl e) = (false, e) from if_neg q] at h
    exact h
theorem jp_modF {d : Nat} {S i : Int32} {G : mj_G} {f : mm_F} {K : Bool → mm_F → Prop} (hd : 15 ≤ d) (hS : mm_S G) (h : K false f) : m_takesParameters_6 G (d + 1) S (nI 0) i f K := by
  refine w_m_takesParameters_6 hS hd ?_
  exact z_br (fun _ => z_bt rfl h) (fun _ => z_bt rfl (z_bt rfl h))
/-- at most m parameters from p on -/
theorem jp_L (hW : tx_W w n) : ∀ (m p : Nat) (sn : Nat → Prop), p ≤ n → m ≤ 3 → ∃ res, rd_okP n p res ∧
    (∀ d G rd r1 r3 x y S K, 4 * n + 60 ≤ d → cs_S G → rd_R G rd w n → rd_O G rd p → rd_L r1 r3 x y → mj_k G x = 6 → x < mj_n G → mj_r G x y = 0 → (∀ i, i < 26 → (bt S i ↔ sn (97 + i))) → (∀ G', cs_S G' → rd_XP rd x y w p m sn G res G' → K G') → Rd_readParameters_7 (d + 1) rd r1 S r3 (nI (3 - m)) G K) ∧
    (∀ d G f S K, 4 * n + 60 ≤ d → mm_S G → pt_T f w n → (∀ i, i < 26 → (bt S i ↔ sn (97 + i))) → K (rd_fin w res).1 (pt_a f (rd_fin w res).2) → m_takesParameters_6 G (d + 1) S (nI 1) (nI (3 - m)) (pt_a f p) K)
  | 0, p, sn, hp, _ => by
    refine ⟨.inl p, ⟨Nat.le_refl _, hp⟩, fun d G rd r1 r3 x y S K hd hS hR hO hL hx hxn h0 hb hK => ?_, fun d G f S K hd hS hT hb hK => ?_⟩
    · refine w_Rd_readParameters_7 hS (by omega) (z_bt (by decide) (hK G hS ⟨fx_of fe_rfl, hO, ⟨h0, rfl⟩, Nat.le_refl _, Nat.le_refl _⟩))
    · refine w_m_takesParameters_6 hS (by omega) (z_bt (by decide) ?_)
      exact jp_mod (by omega) hS hW hT hp rfl hK
  | m + 1, p, sn, hp, hm => by
    have hn := hW.1
    have hw := tx_le hW p
    have hw1 := tx_le hW (p + 1)
    have hi : nI (3 - (m + 1)) = nI (2 - m) := by rw [show 3 - (m + 1) = 2 - m by omega]
    have hi1 : nI (2 - m) + nI 1 = nI (3 - m) := by rw [z_add, show 2 - m + 1 = 3 - m by omega]
    rw [hi]
    have hge : ¬ nI 3 ≤ nI (2 - m) := by rw [z_le (by omega) (by omega)]; omega
    by_cases hLp : tx_L (w p)
    · have hpn : p < n := tx_in hW (by have := hLp.1; omega)
      have hb26 : w p - 97 < 26 := by have := hLp.1; have := hLp.2; omega
      have hb97 : 97 + (w p - 97) = w p := by have := hLp.1; omega
      -- the class up to the letter
      have cls0 : ∀ d G rd r1 r3 S K, 4 * n + 60 ≤ d → cs_S G → rd_R G rd w n → rd_O G rd p →
          mm_br (((mm_shr S (nI (w p - 97))) &&& (nI 1)) = (nI 0)) (∀ G10, G10 = mj_al G 6 11 (fun _ => 0) → (mj_k G10 rd = 8) ∧ Nd_init d (mj_n G) (nI 2) (mj_i G10 rd 2) (mj_i G10 rd 4) G10 (fun G12 => (mj_k G12 (mj_n G) = 6) ∧ ∀ G14, G14 = mj_pI G12 (mj_n G) 4 (nI (w p - 97)) → (mj_k G14 rd = 8) ∧ ∀ G16, G16 = mj_pI G14 rd 4 ((mj_i G14 rd 4) + (nI 1)) → Rd_sign d rd (mj_i G16 rd 4) G16 (fun v18 G17 => mm_br (v18 = (nI 61)) ((mj_k G17 rd = 8) ∧ ∀ G24, G24 = mj_pI G17 rd 4 ((mj_i G17 rd 4) + (nI 1)) → Rd_readPrimary d rd (nI 0) G24 (fun v26 G25 => (mj_k G25 (mj_n G) = 6) ∧ ∀ G28, G28 = mj_pR G25 (mj_n G) 6 v26 → mm_br (r3 = 0) ((mj_k G28 r1 = 6) ∧ ∀ G32, G32 = mj_pR G28 r1 7 (mj_n G) → Rd_readParameters_7 (d + 1) rd r1 (S ||| (mm_shl (nI 1) (nI (w p - 97)))) (mj_n G) (nI (3 - m)) G32 K) ((mj_k G28 r3 = 6) ∧ ∀ G30, G30 = mj_pR G28 r3 10 (mj_n G) → Rd_readParameters_7 (d + 1) rd r1 (S ||| (mm_shl (nI 1) (nI (w p - 97)))) (mj_n G) (nI (3 - m)) G30 K))) (mm_br (r3 = 0) ((mj_k G17 r1 = 6) ∧ ∀ G22, G22 = mj_pR G17 r1 7 (mj_n G) → Rd_readParameters_7 (d + 1) rd r1 (S ||| (mm_shl (nI 1) (nI (w p - 97)))) (mj_n G) (nI (3 - m)) G22 K) ((mj_k G17 r3 = 6) ∧ ∀ G20, G20 = mj_pR G17 r3 10 (mj_n G) → Rd_readParameters_7 (d + 1) rd r1 (S ||| (mm_shl (nI 1) (nI (w p - 97)))) (mj_n G) (nI (3 - m)) G20 K))))) ((mj_k G rd = 8) ∧ Rd_reject d rd G (fun G34 => K G34)) →
          Rd_readParameters_7 (d + 1) rd r1 S r3 (nI (2 - m)) G K := by
        intro d G rd r1 r3 S K hd hS hR hO h
        refine w_Rd_readParameters_7 hS (by omega) (z_bf hge ⟨hR.2.1, c_failed hS hR hO (z_bf (by decide) ⟨hR.2.1, ?_⟩)⟩)
        rw [hO.1]
        refine c_sign hS hR (by omega) (z_bt (by rw [z_12029 (by omega)]; exact hLp) ⟨hR.2.1, ?_⟩)
        rw [hO.1]
        refine c_sign hS hR (by omega) ?_
        rw [z_sub hLp.1, hi1]
        exact h
      have mod0 : ∀ d G f S K, 4 * n + 60 ≤ d → mm_S G → pt_T f w n →
          mm_br ((S &&& (mm_shl (nI 1) (nI (w p - 97)))) = (nI 0)) (m_takesParameters_68 G (d + 1) (S ||| (mm_shl (nI 1) (nI (w p - 97)))) (nI 1) (nI (2 - m)) (nI p) (nI 1) (pt_a f p) K) (m_takesParameters_68 G (d + 1) (S ||| (mm_shl (nI 1) (nI (w p - 97)))) (nI 0) (nI (2 - m)) (nI p) (nI 0) (pt_a f p) K) →
          m_takesParameters_6 G (d + 1) S (nI 1) (nI (2 - m)) (pt_a f p) K := by
        intro d G f S K hd hS hT h
        refine w_m_takesParameters_6 hS (by omega) (z_bf hge (z_bf (by decide) (c_next hS hW hT hp ?_)))
        rw [tx_nxL hW]
        refine z_bt hLp (c_next hS hW hT hp ?_)
        rw [show tx_nx w n p = nI (w p) from if_pos hpn, z_sub hLp.1, pt_a3]
        exact h
      by_cases hsn : sn (w p)
      · refine ⟨.inr p, ⟨Nat.le_refl _, hp⟩, fun d G rd r1 r3 x y S K hd hS hR hO hL hx hxn h0 hb hK => ?_, fun d G f S K hd hS hT hb hK => ?_⟩
        · refine cls0 d G rd r1 r3 S K hd hS hR hO (z_bf ?_ ⟨hR.2.1, c_reject hS hR hO ?_⟩)
          · rw [bt_0r (by omega), hb _ hb26, hb97]
            exact fun q => q hsn
          · refine hK _ (cs_pI hS) ⟨fx_of (fe_pI (by decide)), z_iIs, ?_, ?_⟩
            · show mj_n G + 2 * p ≤ _
              omega
            · show mj_u G + 11 * mj_n G + p ≤ mj_u G + 11 * mj_n G + p
              omega
        · refine mod0 d G f S K hd hS hT (z_bf ?_ ?_)
          · rw [bt_and (by omega), hb _ hb26, hb97]
            exact fun q => q hsn
          · refine w_m_takesParameters_68 hS (z_bt rfl ?_)
            rw [z_add, z_add, pt_aa]
            exact jp_modF (by omega) hS hK
      · -- the letter is new
        have hb' : ∀ S : Int32, (∀ i, i < 26 → (bt S i ↔ sn (97 + i))) → ∀ i, i < 26 → (bt (S ||| (mm_shl (nI 1) (nI (w p - 97)))) i ↔ (fun c => sn c ∨ c = w p) (97 + i)) := fun S hb i hi26 => by
          rw [bt_or (by omega) (by omega), hb i hi26]
          have : i = w p - 97 ↔ 97 + i = w p := by have := hLp.1; omega
          rw [this]
        have cls1 : ∀ d G rd r1 r3 x y S K, 4 * n + 60 ≤ d → cs_S G → rd_R G rd w n → rd_O G rd p → rd_L r1 r3 x y → mj_k G x = 6 → x < mj_n G → (∀ i, i < 26 → (bt S i ↔ sn (97 + i))) →
            (∀ H, H = mj_pI (mj_pI (nd_N G (nI 2) (mj_i G rd 2) (nI p)) (mj_n G) 4 (nI (w p - 97))) rd 4 (nI (p + 1)) → fe_F rd G H → cs_S H → rd_O H rd (p + 1) → mj_k H (mj_n G) = 6 → mj_i H (mj_n G) 4 = nI (w p - 97) → (∀ j, mj_r H (mj_n G) j = 0) → mj_n H = mj_n G + 1 → mj_u H = mj_u G + 11 →
              mm_br (w (p + 1) = 61) ((mj_k H rd = 8) ∧ ∀ G24, G24 = mj_pI H rd 4 (nI (p + 2)) → Rd_readPrimary d rd (nI 0) G24 (fun v26 G25 => (mj_k G25 (mj_n G) = 6) ∧ (mj_k (mj_pR G25 (mj_n G) 6 v26) x = 6) ∧ Rd_readParameters_7 (d + 1) rd r1 (S ||| (mm_shl (nI 1) (nI (w p - 97)))) (mj_n G) (nI (3 - m)) (mj_pR (mj_pR G25 (mj_n G) 6 v26) x y (mj_n G)) K)) (Rd_readParameters_7 (d + 1) rd r1 (S ||| (mm_shl (nI 1) (nI (w p - 97)))) (mj_n G) (nI (3 - m)) (mj_pR H x y (mj_n G)) K)) →
            Rd_readParameters_7 (d + 1) rd r1 S r3 (nI (2 - m)) G K := by
          intro d G rd r1 r3 x y S K hd hS hR hO hL hx hxn hb h
          have hrd := hR.2.2.2.1
          have hne : rd ≠ mj_n G := by omega
          refine cls0 d G rd r1 r3 S K hd hS hR hO (z_bt ?_ ?_)
          · rw [bt_0r (by omega), hb _ hb26, hb97]
            exact hsn
          · rintro _ rfl
            refine ⟨(z_kAn hne).trans hR.2.1, ?_⟩
            rw [z_iAn hne, z_iAn hne, hO.1]
            refine c_newNd hS ⟨nd_k, ?_⟩
            rintro _ rfl
            refine ⟨z_kIa.trans ((nd_kn hne).trans hR.2.1), ?_⟩
            have e4 : mj_i (mj_pI (nd_N G (nI 2) (mj_i G rd 2) (nI p)) (mj_n G) 4 (nI (w p - 97))) rd 4 = nI p := (z_iIn hne).trans ((nd_in hne).trans hO.1)
            rw [e4, z_add]
            rintro _ rfl
            have hF : fe_F rd G (mj_pI (mj_pI (nd_N G (nI 2) (mj_i G rd 2) (nI p)) (mj_n G) 4 (nI (w p - 97))) rd 4 (nI (p + 1))) := fe_trans (fe_nI nd_F (Nat.le_refl _)) (fe_pI (by decide))
            have hSH : cs_S (mj_pI (mj_pI (nd_N G (nI 2) (mj_i G rd 2) (nI p)) (mj_n G) 4 (nI (w p - 97))) rd 4 (nI (p + 1))) := cs_pI (cs_pI (nd_S hS))
            have hOH : rd_O (mj_pI (mj_pI (nd_N G (nI 2) (mj_i G rd 2) (nI p)) (mj_n G) 4 (nI (w p - 97))) rd 4 (nI (p + 1))) rd (p + 1) := ⟨z_iIs, (z_iIm (by decide)).trans ((z_iIn hne).trans ((nd_in hne).trans hO.2))⟩
            have h' := h _ rfl hF hSH hOH (z_kIa.trans (z_kIa.trans nd_k)) ((z_iIn (Ne.symm hne)).trans z_iIs) (fun j => z_rIa.trans (z_rIa.trans nd_r)) rfl rfl
            have hRH := fe_R hR hF
            have hxH : mj_k (mj_pI (mj_pI (nd_N G (nI 2) (mj_i G rd 2) (nI p)) (mj_n G) 4 (nI (w p - 97))) rd 4 (nI (p + 1))) x = 6 := (hF.2 x hxn).1.trans hx
            rw [hOH.1]
            refine c_sign hSH hRH (by omega) ?_
            rw [z_eq (by omega) (by omega)]
            refine z_br (fun hc => ⟨hRH.2.1, ?_⟩) (fun hc => jp_link hL hxH (h'.2 hc))
            rw [hOH.1, z_add]
            rintro _ rfl
            have h2 := (h'.1 hc).2 _ rfl
            refine mj_X_mono h2 ?_
            rintro o G1 ⟨v, e1, hS1, h3, h4, h5⟩
            refine ⟨v, e1, hS1, h3, ?_⟩
            rintro _ rfl
            exact jp_link hL h4 h5
        have mod1 : ∀ d G f S K, 4 * n + 60 ≤ d → mm_S G → pt_T f w n → (∀ i, i < 26 → (bt S i ↔ sn (97 + i))) →
            mm_br (w (p + 1) = 61) (m_takesPrimary G d (pt_a f (p + 2)) (fun v24 f23 => mm_br (v24 = true) (m_takesParameters_6 G (d + 1) (S ||| (mm_shl (nI 1) (nI (w p - 97)))) (nI 1) (nI (3 - m)) f23 K) (m_takesParameters_6 G (d + 1) (S ||| (mm_shl (nI 1) (nI (w p - 97)))) (nI 0) (nI (3 - m)) f23 K))) (m_takesParameters_6 G (d + 1) (S ||| (mm_shl (nI 1) (nI (w p - 97)))) (nI 1) (nI (3 - m)) (pt_a f (p + 1)) K) →
            m_takesParameters_6 G (d + 1) S (nI 1) (nI (2 - m)) (pt_a f p) K := by
          intro d G f S K hd hS hT hb h
          refine mod0 d G f S K hd hS hT (z_bt ?_ ?_)
          · rw [bt_and (by omega), hb _ hb26, hb97]
            exact hsn
          · refine w_m_takesParameters_68 hS (z_bf (by decide) ?_)
            rw [z_add, pt_aa, hi1]
            exact c_takes hS hW hT (by omega) (by omega) (by decide) (fun hc => z_bt rfl (h.1 hc)) (fun hc => z_bf (by decide) (h.2 hc))
        -- from the letter, or its default, to the others
        have go : ∀ q d G rd r1 r3 x y S K H res, 4 * n + 60 ≤ d → cs_S G → rd_R G rd w n → rd_L r1 r3 x y → mj_k G x = 6 → x < mj_n G → (∀ i, i < 26 → (bt S i ↔ sn (97 + i))) →
            fe_F rd G H → cs_S H → rd_O H rd q → mj_k H (mj_n G) = 6 → mj_i H (mj_n G) 4 = nI (w p - 97) → mj_r H (mj_n G) 10 = 0 → mj_n G < mj_n H → p < q →
            ((¬ w (p + 1) = 61 ∧ q = p + 1 ∧ mj_r H (mj_n G) 6 = 0) ∨ (w (p + 1) = 61 ∧ ∃ l, tx_E l (fe_I (mj_n G + 1) (mj_n H)) H (mj_r H (mj_n G) 6) w (p + 2) q true)) →
            mj_n H + 2 * p ≤ mj_n G + 2 * q → mj_u H + 11 * mj_n G + p ≤ mj_u G + 11 * mj_n H + q →
            (∀ d G rd r1 r3 x y S K, 4 * n + 60 ≤ d → cs_S G → rd_R G rd w n → rd_O G rd q → rd_L r1 r3 x y → mj_k G x = 6 → x < mj_n G → mj_r G x y = 0 → (∀ i, i < 26 → (bt S i ↔ (fun c => sn c ∨ c = w p) (97 + i))) → (∀ G', cs_S G' → rd_XP rd x y w q m (fun c => sn c ∨ c = w p) G res G' → K G') → Rd_readParameters_7 (d + 1) rd r1 S r3 (nI (3 - m)) G K) →
            (∀ G', cs_S G' → rd_XP rd x y w p (m + 1) sn G res G' → K G') →
            Rd_readParameters_7 (d + 1) rd r1 (S ||| (mm_shl (nI 1) (nI (w p - 97)))) (mj_n G) (nI (3 - m)) (mj_pR H x y (mj_n G)) K := by
          intro q d G rd r1 r3 x y S K H res hd hS hR hL hx hxn hb hF hSH hO hkN h4 h10 hnH hpq hD hbn hbu s3 hK
          have hrd := hR.2.2.2.1
          have hne : rd ≠ mj_n G := by omega
          have hxN : x ≠ mj_n G := by omega
          have hxr : ¬ x = rd := fun q => by have := hR.2.1; rw [← q, hx] at this; omega
          have hkx : mj_k H x = 6 := (hF.2 x hxn).1.trans hx
          have hFx : fx_F rd x y G (mj_pR H x y (mj_n G)) := fx_trans (fx_of hF) fx_set
          refine s3 d _ rd r1 (mj_n G) (mj_n G) 10 _ K hd (cs_pR hSH hkx rfl) (fx_R hR hFx hxr) hO (Or.inr ⟨by have := hS.1; omega, rfl, rfl⟩) hkN hnH ((z_rRn (Ne.symm hxN)).trans h10) (hb' S hb) (fun G' hS' hX' => ?_)
          cases res with
          | inr e =>
            obtain ⟨y1, y2, y4, y5⟩ := hX'
            have y4' : mj_n G' + 2 * q ≤ mj_n H + 2 * e + 3 := y4
            have y5' : mj_u G' + 11 * mj_n H + q ≤ mj_u H + 11 * mj_n G' + e := y5
            exact hK _ hS' ⟨fx_new hFx y1 (Nat.le_refl _), y2, by omega, by omega⟩
          | inl e =>
            obtain ⟨y1, y2, y3, y4, y5⟩ := hX'
            have y4' : mj_n G' + 2 * q ≤ mj_n H + 2 * e := y4
            have y5' : mj_u G' + 11 * mj_n H + q ≤ mj_u H + 11 * mj_n G' + e := y5
            have hle2 : mj_n H ≤ mj_n G' := y1.1
            obtain ⟨b1, b2, b3, b4, b5⟩ := y1.2 (mj_n G) hnH
            obtain ⟨c1, c2, c3, c4, c5⟩ := y1.2 x (by show x < mj_n H; omega)
            have hxv : mj_r G' x y = mj_n G := (c3 y (fun q => hxN q.1)).trans z_rRs
            refine hK _ hS' ⟨fx_new hFx y1 (Nat.le_refl _), y2, ?_, by omega, by omega⟩
            rw [hxv]
            refine Or.inr ⟨⟨Nat.le_refl _, by omega⟩, by have := hS.1; omega, b1.trans hkN, hLp, hsn, (b4 4 (fun q => hne q.1.symm)).trans h4, q, ?_, ?_⟩
            · rw [b3 6 (fun q => by have := q.2; omega), show mj_r (mj_pR H x y (mj_n G)) (mj_n G) 6 = mj_r H (mj_n G) 6 from z_rRn (Ne.symm hxN)]
              rcases hD with hD | ⟨hD, l, hT⟩
              · exact Or.inl hD
              · refine Or.inr ⟨hD, l, tx_E_mono w (fun a ha => ⟨by have := ha.1; omega, by have := ha.2; omega⟩) (fun a ha => ?_) (Nat.le_refl _) hT⟩
                have ha1 := ha.1
                have ha2 := ha.2
                obtain ⟨d1, d2, d3, d4, -⟩ := y1.2 a ha2
                exact ⟨d1, d2, fun j => (d3 j (fun q => by have := q.1; omega)).trans (z_rRn (by omega)), fun j => d4 j (fun q => by have := q.1; omega)⟩
            · refine tx_P_mono w (fun a ha => ⟨?_, ha.2⟩) (fun a ha => ⟨rfl, rfl, fun _ => rfl, fun _ => rfl⟩) y3
              have : mj_n H ≤ a := ha.1
              omega
        by_cases h61 : w (p + 1) = 61
        · have hpn1 : p + 1 < n := tx_in hW (by omega)
          obtain ⟨res0, r1, r2, r3⟩ := (je_all hW n).1 (p + 2) (by omega) (by omega)
          cases res0 with
          | inr e =>
            have re1 := r1.1
            have re2 := r1.2
            refine ⟨.inr e, ⟨by omega, by omega⟩, fun d G rd a1 a3 x y S K hd hS hR hO hL hx hxn h0 hb hK => ?_, fun d G f S K hd hS hT hb hK => ?_⟩
            · refine cls1 d G rd a1 a3 x y S K hd hS hR hO hL hx hxn hb (fun H _ hF hSH hOH hkN h4 hr0 hnH huH => ?_)
              have hrd := hR.2.2.2.1
              have hne : rd ≠ mj_n G := by omega
              have hxr : ¬ x = rd := fun q => by have := hR.2.1; rw [← q, hx] at this; omega
              refine z_bt h61 ⟨(fe_R hR hF).2.1, ?_⟩
              rintro _ rfl
              refine r2 d _ rd 0 _ (by omega) (cs_pI hSH) (fe_R hR (fe_trans hF (fe_pI (by decide)))) (rd_O4 hOH) (by omega) (fun v G2 hS2 hX2 => ?_)
              obtain ⟨x1, x2, x4, x5⟩ := hX2
              have x4' : mj_n G2 + 2 * (p + 2) ≤ mj_n H + 2 * e + 1 := x4
              have x5' : mj_u G2 + 11 * mj_n H + (p + 2) ≤ mj_u H + 11 * mj_n G2 + e := x5
              have hF2 : fe_F rd G G2 := fe_trans hF (fe_trans (fe_pI (by decide)) x1)
              have hkN2 : mj_k G2 (mj_n G) = 6 := (x1.2 (mj_n G) (by show mj_n G < mj_n H; omega)).1.trans hkN
              have hkx2 : mj_k G2 x = 6 := (hF2.2 x hxn).1.trans hx
              have hFx : fx_F rd x y G (mj_pR (mj_pR G2 (mj_n G) 6 v) x y (mj_n G)) := fx_trans (fx_of (fe_nR hF2 (Nat.le_refl _))) fx_set
              refine ⟨hkN2, hkx2, ?_⟩
              have hS3 : cs_S (mj_pR (mj_pR G2 (mj_n G) 6 v) x y (mj_n G)) := cs_pR (cs_pR hS2 hkN2 rfl) hkx2 rfl
              have hR3 := fx_R hR hFx hxr
              have hend : K (mj_pR (mj_pR G2 (mj_n G) 6 v) x y (mj_n G)) := by
                refine hK _ hS3 ⟨hFx, x2, ?_, ?_⟩
                · show mj_n G2 + 2 * p ≤ _
                  omega
                · show mj_u G2 + 11 * mj_n G + p ≤ mj_u G + 11 * mj_n G2 + e
                  omega
              exact w_Rd_readParameters_7 hS3 (by omega) (z_br (fun _ => hend) (fun _ => ⟨hR3.2.1, c_failedF hS3 hR3 x2 (by omega) (z_bt rfl hend)⟩))
            · refine mod1 d G f S K hd hS hT hb (z_bt h61 (r3 d G f _ (by omega) hS hT (z_bf (fun h => nomatch h) ?_)))
              exact jp_modF (by omega) hS hK
          | inl q =>
            have re1 := r1.1
            have re2 := r1.2
            obtain ⟨res, s1, s3, s4⟩ := jp_L hW m q (fun c => sn c ∨ c = w p) re2 (by omega)
            refine ⟨res, ?_, fun d G rd a1 a3 x y S K hd hS hR hO hL hx hxn h0 hb hK => ?_, fun d G f S K hd hS hT hb hK => ?_⟩
            · cases res with
              | inl e => exact ⟨by have := s1.1; omega, s1.2⟩
              | inr e => exact ⟨by have := s1.1; omega, s1.2⟩
            · refine cls1 d G rd a1 a3 x y S K hd hS hR hO hL hx hxn hb (fun H _ hF hSH hOH hkN h4 hr0 hnH huH => ?_)
              have hrd := hR.2.2.2.1
              have hne : rd ≠ mj_n G := by omega
              refine z_bt h61 ⟨(fe_R hR hF).2.1, ?_⟩
              rintro _ rfl
              refine r2 d _ rd 0 _ (by omega) (cs_pI hSH) (fe_R hR (fe_trans hF (fe_pI (by decide)))) (rd_O4 hOH) (by omega) (fun v G2 hS2 hX2 => ?_)
              obtain ⟨x1, x2, ⟨l, x3⟩, x4, x5⟩ := hX2
              have x4' : mj_n G2 + 2 * (p + 2) + 1 ≤ mj_n H + 2 * q := x4
              have x5' : mj_u G2 + 11 * mj_n H + (p + 2) ≤ mj_u H + 11 * mj_n G2 + q := x5
              have hF2 : fe_F rd G G2 := fe_trans hF (fe_trans (fe_pI (by decide)) x1)
              have hle : mj_n H ≤ mj_n G2 := x1.1
              obtain ⟨a1', a2', a3', a4', -⟩ := x1.2 (mj_n G) (by show mj_n G < mj_n H; omega)
              have hkN2 : mj_k G2 (mj_n G) = 6 := a1'.trans hkN
              have hkx2 : mj_k G2 x = 6 := (hF2.2 x hxn).1.trans hx
              refine ⟨hkN2, hkx2, ?_⟩
              refine go q d G rd a1 a3 x y S K (mj_pR G2 (mj_n G) 6 v) res hd hS hR hL hx hxn hb (fe_nR hF2 (Nat.le_refl _)) (cs_pR hS2 hkN2 rfl) x2 hkN2 ((a4' 4 (fun q => hne q.1.symm)).trans ((z_iIn (Ne.symm hne)).trans h4)) ((z_rRm (by decide)).trans ((a3' 10).trans (hr0 10))) (by show mj_n G < mj_n G2; omega) (by omega) (Or.inr ⟨h61, l, ?_⟩) (by show mj_n G2 + 2 * p ≤ _; omega) (by show mj_u G2 + 11 * mj_n G + p ≤ mj_u G + 11 * mj_n G2 + q; omega) s3 hK
              rw [z_rRs]
              refine tx_E_mono w (fun a ha => ⟨?_, ha.2⟩) (fun a ha => ?_) (Nat.le_refl _) x3
              · have : mj_n H ≤ a := ha.1
                exact ⟨rfl, rfl, fun j => z_rRn (by omega), fun j => rfl⟩
              · have : mj_n H ≤ a := ha.1
                omega
            · refine mod1 d G f S K hd hS hT hb (z_bt h61 (r3 d G f _ (by omega) hS hT (z_bt rfl ?_)))
              exact s4 d G f _ K hd hS hT (hb' S hb) hK
        · obtain ⟨res, s1, s3, s4⟩ := jp_L hW m (p + 1) (fun c => sn c ∨ c = w p) (by omega) (by omega)
          refine ⟨res, ?_, fun d G rd a1 a3 x y S K hd hS hR hO hL hx hxn h0 hb hK => ?_, fun d G f S K hd hS hT hb hK => ?_⟩
          · cases res with
            | inl e => exact ⟨by have := s1.1; omega, s1.2⟩
            | inr e => exact ⟨by have := s1.1; omega, s1.2⟩
          · refine cls1 d G rd a1 a3 x y S K hd hS hR hO hL hx hxn hb (fun H _ hF hSH hOH hkN h4 hr0 hnH huH => ?_)
            refine z_bf h61 ?_
            exact go (p + 1) d G rd a1 a3 x y S K H res hd hS hR hL hx hxn hb hF hSH hOH hkN h4 (hr0 10) (by omega) (by omega) (Or.inl ⟨h61, rfl, hr0 6⟩) (by omega) (by omega) s3 hK
          · exact mod1 d G f S K hd hS hT hb (z_bf h61 (s4 d G f _ K hd hS hT (hb' S hb) hK))
    · refine ⟨.inl p, ⟨Nat.le_refl _, hp⟩, fun d G rd r1 r3 x y S K hd hS hR hO hL hx hxn h0 hb hK => ?_, fun d G f S K hd hS hT hb hK => ?_⟩
      · have hend : K G := hK G hS ⟨fx_of fe_rfl, hO, Or.inl ⟨h0, rfl, hLp⟩, Nat.le_refl _, Nat.le_refl _⟩
        refine w_Rd_readParameters_7 hS (by omega) (z_bf hge ⟨hR.2.1, c_failed hS hR hO (z_bf (by decide) ⟨hR.2.1, ?_⟩)⟩)
        rw [hO.1]
        exact c_sign hS hR (by omega) (z_bf (by rw [z_12029 (by omega)]; exact hLp) hend)
      · refine w_m_takesParameters_6 hS (by omega) (z_bf hge (z_bf (by decide) (c_next hS hW hT hp ?_)))
        rw [tx_nxL hW]
        exact z_bf hLp (jp_mod (by omega) hS hW hT hp rfl hK)
end JP
