/-! WHERE A VALUE MAY BE SAFE, by the class, and that it may be so there alone -/
section E02
variable {G G0 : mj_G} {n : Nat} {w : Nat → Nat} {A : Nat → Prop} {ch : Int32} {D : Nat → rv} {I : Nat → Nat → rv}
theorem xs_safe (hS : cs_S G) (hW : tx_W w n) (hA : ∀ a, A a → mj_k G a = mj_k G0 a ∧ (∀ j, mj_r G a j = mj_r G0 a j) ∧ ∀ j, mj_i G a j = mj_i G0 a j) (hD : da D I) : ∀ {l r p q pr dep}, tx_E l A G0 r w p q pr → q ≤ n → dep + (q - p) ≤ 80 → ∃ v : Bool, (∀ d K, q - p + 20 ≤ d → K v G → Fo_mayBeSafe d r ch (nI dep) G K) ∧ (v = false → ∀ {M x : Nat} {B S : Nat → Nat} {V : Nat → Nat → Option rv}, (∀ l, l < 26 → rv_in D (e_vl D B V l x)) → (∀ l, l < 26 → ¬ bt ch l → tme (e_vl D B V l x)) → ∀ {m : Nat} {ra rd : Nat → Int32} {e : Int32} {v' : rv} {ra1 rd1 : Nat → Int32}, FN D I B V M S x G0 m r ra rd e v' ra1 rd1 → tme v')
  | 0, _, _, _, _, _, h, _, _ => h.elim
  | l + 1, r, p, q, pr, dep, h, hq, hdep => by
    have hn := hW.1
    obtain ⟨hlt, -⟩ := tx_E_ch h
    obtain ⟨hAr, hr0, hk0, h⟩ := h
    obtain ⟨g1, g2, g3⟩ := hA r hAr
    have hk : mj_k G r = 1 := g1.trans hk0
    have cls : ∀ d K, 18 ≤ d → mm_br ((mj_i G r 0) = nI 1) (K false G) (mm_br ((mj_i G r 0) = nI 2) (K true G) (mm_br ((mj_i G r 0) = nI 3) (K (qb (q_2003 ch (mj_i G r 1))) G) (mm_br ((mj_i G r 0) = nI 4) (K (qb (q_2003 ch (mj_i G r 1))) G) (mm_br ((mj_i G r 0) = nI 114) (K true G) (Fo_mayBeSafe d (mj_r G r 4) ch (nI (dep + 1)) G (fun v3 G2 => mm_br (v3 = true) (K true G2) ((mj_k G2 r = 1) ∧ Fo_mayBeSafe d (mj_r G2 r 5) ch (nI (dep + 1)) G2 (fun v6 G5 => mm_br (v6 = true) (K true G5) (K false G5))))))))) → Fo_mayBeSafe (d + 1) r ch (nI dep) G K := fun d K hd h => by
      refine w_Fo_mayBeSafe hS (by omega) (z_bf hr0 ?_)
      rw [z_lt (by omega) (by omega), z_add]
      exact z_bt (by omega) ⟨hk, h⟩
    have none0 : ∀ d K dep', 18 ≤ d → K false G → Fo_mayBeSafe d 0 ch dep' G K := fun d K dep' hd h => by
      obtain ⟨d, rfl⟩ : ∃ e, d = e + 1 := ⟨d - 1, by omega⟩
      exact w_Fo_mayBeSafe hS (by omega) (z_bt rfl h)
    have prt : ∀ (c : Nat) (vl vr : Bool), mj_i G r 0 = nI c → 5 ≤ c → c ≤ 126 → c ≠ 114 → (∀ d K, q - p + 19 ≤ d → K vl G → Fo_mayBeSafe d (mj_r G r 4) ch (nI (dep + 1)) G K) → (∀ d K, q - p + 19 ≤ d → K vr G → Fo_mayBeSafe d (mj_r G r 5) ch (nI (dep + 1)) G K) → ∀ d K, q - p + 20 ≤ d → K (vl || vr) G → Fo_mayBeSafe d r ch (nI dep) G K := fun c vl vr hc h5 hc2 hc3 hl hr d K hd hK => by
      obtain ⟨d, rfl⟩ : ∃ e, d = e + 1 := ⟨d - 1, by omega⟩
      refine cls d K (by omega) ?_
      have e : ∀ {x : Nat}, x ≤ 126 → (mj_i G r 0 = nI x) = (c = x) := fun hx => by rw [hc, z_eq (by omega) (by omega)]
      rw [e (by decide), e (by decide), e (by decide), e (by decide), e (by decide)]
      refine z_bf (by omega) (z_bf (by omega) (z_bf (by omega) (z_bf (by omega) (z_bf hc3 (hl d _ (by omega) ?_)))))
      cases vl with
      | true => exact z_bt rfl hK
      | false =>
        refine z_bf (by decide) ⟨hk, hr d _ (by omega) ?_⟩
        cases vr with
        | true => exact z_bt rfl hK
        | false => exact z_bf (by decide) hK
    have hw := tx_le hW p
    rcases h with ⟨m, a1, a2, a3, a4, a5, a6, a7⟩ | ⟨a1, a2, a3, a4, a5⟩ | ⟨a1, a2, a3, a4, a5, a6, a7⟩ | ⟨a1, a2, a3, a4, a5, -⟩ | ⟨a1, a2, a3, a4, a5⟩ | ⟨a1, m, a2, a3, a4, a5, a6, a7, a8⟩ | ⟨-, m, a1, a2, a3, a4, a5, a6, a7⟩ | ⟨-, m, a1, a2, a3, a4, a5, a6, a7⟩
    · -- a number
      refine ⟨false, fun d K hd hK => ?_, ?_⟩
      · obtain ⟨d, rfl⟩ : ∃ e, d = e + 1 := ⟨d - 1, by omega⟩
        exact cls d K (by omega) (z_bt ((g3 0).trans a6) hK)
      · intro hv M x B S V hVin hVT m ra rd e v' ra1 rd1 hf
        cases m with
        | zero => exact hf.elim
        | succ m =>
          rcases hf with ⟨k2, rfl, rfl, rfl, rfl⟩ | ⟨k2, rfl, rfl, rfl, rfl⟩ | ⟨k2, l2, m1, m2, rfl, rfl, rfl, rfl⟩ | ⟨k2, l2, m2, m1, m3, m4, m5, rfl, rfl, rfl, rfl⟩ | ⟨k2, v2, h2, rfl⟩ | ⟨c2, e2, v2, k2, hc2, h2, q2⟩ | ⟨k2, e2, v2, ra2, rd2, h2, q2⟩ | ⟨c2, e2, v2, ra2, rd2, k2, hc2, h2, q2⟩
          · exact tme_N
          · exact absurd (nkd a6 k2 (by decide) (by decide)) (by decide)
          · exact absurd (nkd a6 k2 (by decide) (by decide)) (by decide)
          · exact absurd (nkd a6 k2 (by decide) (by decide)) (by decide)
          · exact absurd (nkd a6 k2 (by decide) (by decide)) (by decide)
          · exact absurd (nkd a6 k2 (by decide) (by omega)) (by omega)
          · exact absurd (nkd a6 k2 (by decide) (by decide)) (by decide)
          · exact absurd (nkd a6 k2 (by decide) (tO_b hc2)).symm (tO_n hc2 (by omega))
    · -- a variable
      have hL : 97 ≤ w p ∧ w p ≤ 122 := a1
      refine ⟨qb (q_2003 ch (nI (w p - 97))), fun d K hd hK => ?_, ?_⟩
      · obtain ⟨d, rfl⟩ : ∃ e, d = e + 1 := ⟨d - 1, by omega⟩
        refine cls d K (by omega) ?_
        rw [g3 0, g3 1, a4, a5]
        exact z_bf (by decide) (z_bf (by decide) (z_bt rfl hK))
      · intro hv M x B S V hVin hVT m ra rd e v' ra1 rd1 hf
        cases m with
        | zero => exact hf.elim
        | succ m =>
          rcases hf with ⟨k2, rfl, rfl, rfl, rfl⟩ | ⟨k2, rfl, rfl, rfl, rfl⟩ | ⟨k2, l2, m1, m2, rfl, rfl, rfl, rfl⟩ | ⟨k2, l2, m2, m1, m3, m4, m5, rfl, rfl, rfl, rfl⟩ | ⟨k2, v2, h2, rfl⟩ | ⟨c2, e2, v2, k2, hc2, h2, q2⟩ | ⟨k2, e2, v2, ra2, rd2, h2, q2⟩ | ⟨c2, e2, v2, ra2, rd2, k2, hc2, h2, q2⟩
          · exact absurd (nkd a4 k2 (by decide) (by decide)) (by decide)
          · exact absurd (nkd a4 k2 (by decide) (by decide)) (by decide)
          · obtain rfl := nkd a5 m1 (by omega) (by omega)
            refine hVT _ m2 (fun q => ?_)
            rw [← z_2003 (by omega)] at q
            rw [q] at hv
            exact absurd hv (by decide)
          · exact absurd (nkd a4 k2 (by decide) (by decide)) (by decide)
          · exact absurd (nkd a4 k2 (by decide) (by decide)) (by decide)
          · exact absurd (nkd a4 k2 (by decide) (by omega)) (by omega)
          · exact absurd (nkd a4 k2 (by decide) (by decide)) (by decide)
          · exact absurd (nkd a4 k2 (by decide) (tO_b hc2)).symm (tO_n hc2 (by omega))
    · -- an item
      have hL : 97 ≤ w p ∧ w p ≤ 122 := a1
      refine ⟨qb (q_2003 ch (nI (w p - 97))), fun d K hd hK => ?_, ?_⟩
      · obtain ⟨d, rfl⟩ : ∃ e, d = e + 1 := ⟨d - 1, by omega⟩
        refine cls d K (by omega) ?_
        rw [g3 0, g3 1, a5, a6]
        exact z_bf (by decide) (z_bf (by decide) (z_bf (by decide) (z_bt rfl hK)))
      · intro hv M x B S V hVin hVT m ra rd e v' ra1 rd1 hf
        cases m with
        | zero => exact hf.elim
        | succ m =>
          rcases hf with ⟨k2, rfl, rfl, rfl, rfl⟩ | ⟨k2, rfl, rfl, rfl, rfl⟩ | ⟨k2, l2, m1, m2, rfl, rfl, rfl, rfl⟩ | ⟨k2, l2, m2, m1, m3, m4, m5, rfl, rfl, rfl, rfl⟩ | ⟨k2, v2, h2, rfl⟩ | ⟨c2, e2, v2, k2, hc2, h2, q2⟩ | ⟨k2, e2, v2, ra2, rd2, h2, q2⟩ | ⟨c2, e2, v2, ra2, rd2, k2, hc2, h2, q2⟩
          · exact absurd (nkd a5 k2 (by decide) (by decide)) (by decide)
          · exact absurd (nkd a5 k2 (by decide) (by decide)) (by decide)
          · exact absurd (nkd a5 k2 (by decide) (by decide)) (by decide)
          · exact tme_it hD (hVin _ m4)
          · exact absurd (nkd a5 k2 (by decide) (by decide)) (by decide)
          · exact absurd (nkd a5 k2 (by decide) (by omega)) (by omega)
          · exact absurd (nkd a5 k2 (by decide) (by decide)) (by decide)
          · exact absurd (nkd a5 k2 (by decide) (tO_b hc2)).symm (tO_n hc2 (by omega))
    · -- a text
      refine ⟨true, fun d K hd hK => ?_, fun q => absurd q (by decide)⟩
      obtain ⟨d, rfl⟩ : ∃ e, d = e + 1 := ⟨d - 1, by omega⟩
      refine cls d K (by omega) ?_
      rw [g3 0, a5]
      exact z_bf (by decide) (z_bt rfl hK)
    · -- not
      obtain ⟨b1, -⟩ := tx_E_ch a5
      obtain ⟨v, v1, z1⟩ := xs_safe hS hW hA hD (dep := dep + 1) a5 hq (by omega)
      refine ⟨v || false, prt 33 v false ((g3 0).trans a3) (by decide) (by decide) (by decide) (fun d K hd hK => by rw [g2 4]; exact v1 d K (by omega) hK) (fun d K hd hK => by rw [g2 5, a4]; exact none0 d K _ (by omega) hK), ?_⟩
      · intro hv M x B S V hVin hVT m ra rd e v' ra1 rd1 hf
        cases m with
        | zero => exact hf.elim
        | succ m =>
          rcases hf with ⟨k2, rfl, rfl, rfl, rfl⟩ | ⟨k2, rfl, rfl, rfl, rfl⟩ | ⟨k2, l2, m1, m2, rfl, rfl, rfl, rfl⟩ | ⟨k2, l2, m2, m1, m3, m4, m5, rfl, rfl, rfl, rfl⟩ | ⟨k2, v2, h2, rfl⟩ | ⟨c2, e2, v2, k2, hc2, h2, q2⟩ | ⟨k2, e2, v2, ra2, rd2, h2, q2⟩ | ⟨c2, e2, v2, ra2, rd2, k2, hc2, h2, q2⟩
          · exact absurd (nkd a3 k2 (by decide) (by decide)) (by decide)
          · exact absurd (nkd a3 k2 (by decide) (by decide)) (by decide)
          · exact absurd (nkd a3 k2 (by decide) (by decide)) (by decide)
          · exact absurd (nkd a3 k2 (by decide) (by decide)) (by decide)
          · exact tme_N
          · exact absurd (nkd a3 k2 (by decide) (by omega)) (by omega)
          · exact absurd (nkd a3 k2 (by decide) (by decide)) (by decide)
          · exact absurd (nkd a3 k2 (by decide) (tO_b hc2)).symm (tO_n hc2 (by omega))
    · -- an operator
      obtain ⟨b1, -⟩ := tx_E_ch a7
      obtain ⟨b2, -⟩ := tx_E_ch a8
      obtain ⟨v, v1, z1⟩ := xs_safe hS hW hA hD (dep := dep + 1) a7 (by omega) (by omega)
      have hm5 : 5 ≤ w m ∧ w m ≠ 114 := by unfold tx_O at a4; omega
      obtain ⟨v', v1', z2⟩ := xs_safe hS hW hA hD (dep := dep + 1) a8 (by omega) (by omega)
      refine ⟨v || v', prt (w m) v v' ((g3 0).trans a6) hm5.1 (tx_le hW m) hm5.2 (fun d K hd hK => by rw [g2 4]; exact v1 d K (by omega) hK) (fun d K hd hK => by rw [g2 5]; exact v1' d K (by omega) hK), ?_⟩
      · intro hv M x B S V hVin hVT m ra rd e v' ra1 rd1 hf
        cases m with
        | zero => exact hf.elim
        | succ m =>
          rcases hf with ⟨k2, rfl, rfl, rfl, rfl⟩ | ⟨k2, rfl, rfl, rfl, rfl⟩ | ⟨k2, l2, m1, m2, rfl, rfl, rfl, rfl⟩ | ⟨k2, l2, m2, m1, m3, m4, m5, rfl, rfl, rfl, rfl⟩ | ⟨k2, v2, h2, rfl⟩ | ⟨c2, e2, v2, k2, hc2, h2, q2⟩ | ⟨k2, e2, v2, ra2, rd2, h2, q2⟩ | ⟨c2, e2, v2, ra2, rd2, k2, hc2, h2, q2⟩
          · exact absurd (nkd a6 k2 (tO_b a4) (by decide)) (tO_n a4 (by omega))
          · exact absurd (nkd a6 k2 (tO_b a4) (by decide)) (tO_n a4 (by omega))
          · exact absurd (nkd a6 k2 (tO_b a4) (by decide)) (tO_n a4 (by omega))
          · exact absurd (nkd a6 k2 (tO_b a4) (by decide)) (tO_n a4 (by omega))
          · exact absurd (nkd a6 k2 (tO_b a4) (by decide)) (tO_n a4 (by omega))
          · exact absurd (nkd a6 k2 (tO_b a4) (by omega)) (tO_n a4 (by omega))
          · exact absurd (nkd a6 k2 (tO_b a4) (by decide)) (tO_n a4 (by omega))
          · rw [Bool.or_eq_false_iff] at hv
            have t1 := z1 hv.1 hVin hVT h2
            rcases q2 with ⟨-, -, rfl, -⟩ | ⟨-, -, -, rfl, -⟩ | ⟨-, -, e3, v3, h3, q3⟩
            · exact tme_0
            · by_cases q : c2 = 38
              · rw [if_pos q]; exact tme_N
              · rw [if_neg q]; exact t1
            · rcases q3 with ⟨-, -, rfl⟩ | ⟨-, -, rfl⟩
              · exact tme_0
              · by_cases q : c2 = 63
                · rw [if_pos q]; exact z2 hv.2 hVin hVT h3
                · rw [if_neg q]; exact tme_op t1 (z2 hv.2 hVin hVT h3)
    · -- a plain filter
      obtain ⟨b1, -⟩ := tx_E_ch a7
      obtain ⟨v, v1, z1⟩ := xs_safe hS hW hA hD (dep := dep + 1) a7 (by omega) (by omega)
      by_cases h114 : w (m + 1) = 114
      · refine ⟨true, fun d K hd hK => ?_, fun q => absurd q (by decide)⟩
        obtain ⟨d, rfl⟩ : ∃ e, d = e + 1 := ⟨d - 1, by omega⟩
        refine cls d K (by omega) ?_
        rw [g3 0, a5, h114]
        exact z_bf (by decide) (z_bf (by decide) (z_bf (by decide) (z_bf (by decide) (z_bt rfl hK))))
      refine ⟨v || false, prt (w (m + 1)) v false ((g3 0).trans a5) (by omega) (tx_le hW _) h114 (fun d K hd hK => by rw [g2 4]; exact v1 d K (by omega) hK) (fun d K hd hK => by rw [g2 5, a6]; exact none0 d K _ (by omega) hK), ?_⟩
      · intro hv M x B S V hVin hVT m ra rd e v' ra1 rd1 hf
        cases m with
        | zero => exact hf.elim
        | succ m =>
          rcases hf with ⟨k2, rfl, rfl, rfl, rfl⟩ | ⟨k2, rfl, rfl, rfl, rfl⟩ | ⟨k2, l2, m1, m2, rfl, rfl, rfl, rfl⟩ | ⟨k2, l2, m2, m1, m3, m4, m5, rfl, rfl, rfl, rfl⟩ | ⟨k2, v2, h2, rfl⟩ | ⟨c2, e2, v2, k2, hc2, h2, q2⟩ | ⟨k2, e2, v2, ra2, rd2, h2, q2⟩ | ⟨c2, e2, v2, ra2, rd2, k2, hc2, h2, q2⟩
          · exact absurd (nkd a5 k2 (by omega) (by decide)) (by omega)
          · exact absurd (nkd a5 k2 (by omega) (by decide)) (by omega)
          · exact absurd (nkd a5 k2 (by omega) (by decide)) (by omega)
          · exact absurd (nkd a5 k2 (by omega) (by decide)) (by omega)
          · exact absurd (nkd a5 k2 (by omega) (by decide)) (by omega)
          · rw [Bool.or_false] at hv
            obtain rfl := nkd a5 k2 (by omega) (by omega)
            rcases q2 with ⟨-, -, rfl⟩ | ⟨-, -, rfl⟩
            · exact tme_fi (z1 hv hVin hVT h2) h114
            · exact tme_0
          · exact absurd (nkd a5 k2 (by omega) (by decide)) (by omega)
          · exact absurd (nkd a5 k2 (by omega) (tO_b hc2)).symm (tO_n hc2 (by omega))
    · -- otherwise
      obtain ⟨b1, -⟩ := tx_E_ch a6
      obtain ⟨b2, -⟩ := tx_E_ch a7
      obtain ⟨v, v1, z1⟩ := xs_safe hS hW hA hD (dep := dep + 1) a6 (by omega) (by omega)
      obtain ⟨v', v1', z2⟩ := xs_safe hS hW hA hD (dep := dep + 1) a7 hq (by omega)
      refine ⟨v || v', prt 100 v v' ((g3 0).trans a5) (by decide) (by decide) (by decide) (fun d K hd hK => by rw [g2 4]; exact v1 d K (by omega) hK) (fun d K hd hK => by rw [g2 5]; exact v1' d K (by omega) hK), ?_⟩
      · intro hv M x B S V hVin hVT m ra rd e v' ra1 rd1 hf
        cases m with
        | zero => exact hf.elim
        | succ m =>
          rcases hf with ⟨k2, rfl, rfl, rfl, rfl⟩ | ⟨k2, rfl, rfl, rfl, rfl⟩ | ⟨k2, l2, m1, m2, rfl, rfl, rfl, rfl⟩ | ⟨k2, l2, m2, m1, m3, m4, m5, rfl, rfl, rfl, rfl⟩ | ⟨k2, v2, h2, rfl⟩ | ⟨c2, e2, v2, k2, hc2, h2, q2⟩ | ⟨k2, e2, v2, ra2, rd2, h2, q2⟩ | ⟨c2, e2, v2, ra2, rd2, k2, hc2, h2, q2⟩
          · exact absurd (nkd a5 k2 (by decide) (by decide)) (by decide)
          · exact absurd (nkd a5 k2 (by decide) (by decide)) (by decide)
          · exact absurd (nkd a5 k2 (by decide) (by decide)) (by decide)
          · exact absurd (nkd a5 k2 (by decide) (by decide)) (by decide)
          · exact absurd (nkd a5 k2 (by decide) (by decide)) (by decide)
          · exact absurd (nkd a5 k2 (by decide) (by omega)) (by omega)
          · rw [Bool.or_eq_false_iff] at hv
            rcases q2 with ⟨-, -, h3⟩ | ⟨-, -, -, rfl, -⟩ | ⟨-, -, rfl, -⟩
            · exact z2 hv.2 hVin hVT h3
            · exact z1 hv.1 hVin hVT h2
            · exact tme_0
          · exact absurd (nkd a5 k2 (by decide) (tO_b hc2)).symm (tO_n hc2 (by omega))
end E02
