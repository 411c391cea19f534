/-! BODIES ARE READ: all of them, by both sides alike -/
section BA
variable {w : Nat → Nat} {n : Nat}
theorem jt_fin {rd T B M p m s t : Nat} {e : Nat} {hm b pa : Int32} {L La : List (Nat × Nat)} {G0 G : mj_G} {K : Nat → mj_G → Prop} {k N : Nat} {res : Nat ⊕ Nat} (hres : res = .inl m) (hS : cs_S G) (hT : tg_S G0 G rd w n T B M hm b N p e m ((L ++ [(p, N)]) ++ La) (t + 1 + La.length) pa) (h123 : w p = 123) (hTx : tx_T (w (p + 1))) (h125 : w e = 125) (hpe : p + 2 ≤ e) (ha : tb_a k (fe_I (N + 1) (mj_n G)) G hm b N w p e m La)
    (hK : ∀ r G', cs_S G' → rt_X rd T B M w p hm b L t pa G0 res r G' → K r G') : K N G := by
  subst hres
  obtain ⟨c1, c2, c3, c4, c5, c6, c7, c8, c9, c10, c11, c12, c13, c14, c15, c16, c17⟩ := hT
  subst c4
  refine hK _ G hS ⟨rfl, c3, c5, c2, c12, ⟨La, k, ⟨by omega, c8, c10, c11, h123, hTx, c9, e, hpe, c13, h125, ha⟩, ?_⟩, c16, c17⟩
  rw [List.append_assoc] at c14
  exact c14
theorem jt_finF {rd T B M p t : Nat} {e : Nat} {hm b pa : Int32} {L : List (Nat × Nat)} {G0 G : mj_G} {K : Nat → mj_G → Prop} {N : Nat} {res : Nat ⊕ Nat} (hres : res = .inr e) (hS : cs_S G) (hF : tg_F G0 G rd w n T B M hm N p e)
    (hK : ∀ r G', cs_S G' → rt_X rd T B M w p hm b L t pa G0 res r G' → K r G') : K N G := by
  subst hres
  obtain ⟨h1, h2, h3, h4, h4', h5, h6, h7, h8⟩ := hF
  exact hK _ G hS ⟨h2, h6, h7, h8⟩
theorem mh_br2 {K : Bool → mm_F → Prop} {b : Bool} {f : mm_F} (h : K b f) : mm_br (b = true) (mm_br (true = true) (K true f) (K false f)) (mm_br (false = true) (K true f) (K false f)) := by
  cases b
  · exact z_bf (by decide) (z_bf (by decide) h)
  · exact z_bt rfl (z_bt rfl h)
/-- tags, where shorter bodies are read -/
theorem jt_all (hW : tx_W w n) {k : Nat} (ih : ∀ j, j < k → jb_B w n j) {p : Nat} (hp : p < n) (hk : n - p ≤ k) (h123 : w p = 123) : ∃ res, (p + 1 ≤ rd_q res ∧ rd_q res ≤ n) ∧ jt_C w n k p res ∧ jt_M w n k p res := by
  have hn := hW.1
  by_cases hTx : tx_T (w (p + 1))
  case neg =>
    refine ⟨.inr (p + 1), ⟨Nat.le_refl _, hp⟩, fun d G rd T B M hm b dep L t pa K hd hS hC hO hdep hnz ht hK => ?_, fun d G f K hd hS hT hK => ?_⟩
    · obtain ⟨d, rfl⟩ : ∃ e, d = e + 1 := ⟨d - 1, by omega⟩
      have hrn := hC.1.2.2.2.1
      refine c_tag0 hS hC hO ht (by omega) hp hdep (fun _ => hK _ _ (cs_pI (nd_S (cs_pI hS))) ⟨rb_of_fe (fe_trans (fe_trans (fe_pI (by decide)) nd_F) (fe_pI (by decide))), z_iIs, by show mj_n G + 1 + _ ≤ _; omega, by show mj_u G + 11 + _ + _ ≤ _ + 11 * (mj_n G + 1) + _; omega⟩) (fun h => absurd h hTx)
    · obtain ⟨d, rfl⟩ : ∃ e, d = e + 1 := ⟨d - 1, by omega⟩
      exact c_takesTag hS hW hT (by omega) hp (fun h => absurd h hTx) (fun _ => hK)
  have hp1 : p + 2 ≤ n := tx_in hW (k := p + 1) (by unfold tx_T at hTx; omega)
  obtain ⟨hres, hok, hHC, hHM⟩ := jh_all hW hp1 hTx
  by_cases hbad : ∃ e, (hres = .inr e ∨ (hres = .inl e ∧ ¬ w e = 125))
  · obtain ⟨e, he⟩ := hbad
    have hb : p + 2 ≤ e ∧ e ≤ n := by
      rcases he with rfl | ⟨rfl, -⟩
      · exact hok
      · exact hok
    refine ⟨.inr e, ⟨by show p + 1 ≤ e; omega, hb.2⟩, fun d G rd T B M hm b dep L t pa K hd hS hC hO hdep hnz ht hK => ?_, fun d G f K hd hS hT hK => ?_⟩
    · obtain ⟨d, rfl⟩ : ∃ e, d = e + 2 := ⟨d - 2, by omega⟩
      refine jt_cls (by omega) hS hC hO hp hdep h123 hnz ht hTx hok hHC (fun e2 G' h2 hS' hF => ?_) (fun e2 G' h2 h125 => ?_)
      · have : e2 = e := by
          rcases he with rfl | ⟨rfl, -⟩
          · rcases h2 with h2 | ⟨h2, -⟩ <;> cases h2
            rfl
          · rcases h2 with h2 | ⟨h2, -⟩ <;> cases h2
            rfl
        rw [this] at hF
        exact jt_finF rfl hS' hF hK
      · rcases he with rfl | ⟨rfl, h⟩
        · cases h2
        · cases h2
          exact absurd h125 h
    · obtain ⟨d, rfl⟩ : ∃ e, d = e + 1 := ⟨d - 1, by omega⟩
      refine c_takesTag hS hW hT (by omega) hp (fun _ => ?_) (fun h => absurd hTx h)
      refine hHM d G f _ (by omega) hS hT ?_
      rcases he with rfl | ⟨rfl, h⟩
      · exact hK
      · rw [show rd_fin w (.inl e) = (false, e) from if_neg h]
        exact hK
  obtain ⟨e, rfl, h125⟩ : ∃ e, hres = .inl e ∧ w e = 125 := by
    cases hres with
    | inl e =>
      refine ⟨e, rfl, ?_⟩
      apply Decidable.byContradiction
      exact fun h => hbad ⟨e, Or.inr ⟨rfl, h⟩⟩
    | inr e => exact absurd ⟨e, Or.inl rfl⟩ hbad
  have hpe : p + 2 ≤ e := hok.1
  have hen : e + 1 ≤ n := tx_in hW (k := e) (by omega)
  have hnoF : ∀ e2, ¬ ((.inl e : Nat ⊕ Nat) = .inr e2 ∨ ((.inl e : Nat ⊕ Nat) = .inl e2 ∧ ¬ w e2 = 125)) := fun e2 h => by
    rcases h with h | ⟨h, h'⟩
    · cases h
    · cases h
      exact h' h125
  have hw1 := tx_le hW (p + 1)
  -- the model's way behind the head
  have mod : ∀ (d : Nat) (G : mj_G) (f : mm_F) (K : Bool → mm_F → Prop), 4 * n + 80 ≤ d → mm_S G → pt_T f w n → mb_H (w (p + 1)) G d (pt_a f (e + 1)) K → m_takesTag G (d + 1) (pt_a f (p + 1)) K := fun d G f K hd hS hT h => by
    refine c_takesTag hS hW hT (by omega) hp (fun _ => ?_) (fun h => absurd hTx h)
    refine hHM d G f _ (by omega) hS hT ?_
    rw [show rd_fin w (.inl e) = (true, e + 1) from if_pos h125]
    exact h
  obtain ⟨bres, b1, b2, b3, b4⟩ := ih (n - (e + 1)) (by omega) (e + 1) 1 (by decide) hen (Nat.le_refl _)
  by_cases cA : ¬ tx_B (w (p + 1))
  · refine ⟨.inl (e + 1), ⟨by show p + 1 ≤ e + 1; omega, hen⟩, fun d G rd T B M hm b dep L t pa K hd hS hC hO hdep hnz ht hK => ?_, fun d G f K hd hS hT hK => ?_⟩
    · obtain ⟨d, rfl⟩ : ∃ e, d = e + 2 := ⟨d - 2, by omega⟩
      refine jt_cls (by omega) hS hC hO hp hdep h123 hnz ht hTx hok hHC (fun e2 G' h2 => absurd h2 (hnoF e2)) (fun e2 G' h2 h125' hS' hT' r8 r9 => ?_)
      cases h2
      refine c_bodies hS' hT'.1.1.2.1 hT'.2.2.2.2.2.2.2.1 hT'.2.2.2.2.2.2.2.2.1 hw1 (fun q => absurd (by unfold tx_B; omega) cA) (fun q => absurd (by unfold tx_B; omega) cA) (fun q => absurd (by unfold tx_B; omega) cA) (fun _ => ?_)
      refine jt_fin (n := n) (s := 0) (La := []) (k := 0) rfl hS' ?_ h123 hTx h125 hpe (Or.inl ⟨cA, rfl, rfl, r8, r9⟩) hK
      rw [List.append_nil]
      exact hT'
    · obtain ⟨d, rfl⟩ : ∃ e, d = e + 1 := ⟨d - 1, by omega⟩
      refine mod d G f K (by omega) hS hT ?_
      unfold mb_H
      unfold tx_B at cA
      rw [if_neg (by omega), if_neg (by omega), if_neg (by omega)]
      exact hK
  have cB : tx_B (w (p + 1)) := Classical.byContradiction cA
  by_cases c1 : w (p + 1) = 35 ∨ w (p + 1) = 36 ∨ w (p + 1) = 38 ∨ w (p + 1) = 107
  · -- one body
    have r0 : p + 1 ≤ rd_q (rd_cl w bres) ∧ rd_q (rd_cl w bres) ≤ n := by
      cases bres with
      | inl q =>
        have hb1 : e + 1 ≤ q := b1.1
        by_cases h : w (q + 2) = 125
        · rw [show rd_cl w (.inl q) = .inl (q + 3) from if_pos h]
          have := tx_in hW (k := q + 2) (by omega)
          exact ⟨by show p + 1 ≤ q + 3; omega, by show q + 3 ≤ n; omega⟩
        · rw [show rd_cl w (.inl q) = .inr (q + 2) from if_neg h]
          have h1 : q + 1 < n := by
            rcases b2 q rfl with ⟨h, -⟩ | ⟨-, h | h⟩
            · exact absurd h (by decide)
            · exact tx_in hW (by omega)
            · exact tx_in hW (by omega)
          exact ⟨by show p + 1 ≤ q + 2; omega, by show q + 2 ≤ n; omega⟩
      | inr q => exact ⟨by have := b1.1; show p + 1 ≤ q; omega, b1.2⟩
    refine ⟨rd_cl w bres, r0, fun d G rd T B M hm b dep L t pa K hd hS hC hO hdep hnz ht hK => ?_, fun d G f K hd hS hT hK => ?_⟩
    · obtain ⟨d, rfl⟩ : ∃ e, d = e + 2 := ⟨d - 2, by omega⟩
      refine jt_cls (by omega) hS hC hO hp hdep h123 hnz ht hTx hok hHC (fun e2 G' h2 => absurd h2 (hnoF e2)) (fun e2 G' h2 h125' hS' hT' r8 r9 => ?_)
      cases h2
      refine c_bodies hS' hT'.1.1.2.1 hT'.2.2.2.2.2.2.2.1 hT'.2.2.2.2.2.2.2.2.1 hw1 (fun _ => ?_) (fun q => absurd q (by omega)) (fun q => absurd q (by omega)) (fun q => absurd cB q)
      refine jt_body (fl := 8) hS' (by omega) (Or.inl rfl) (by omega) (by omega) (by decide) (by omega) r8 b1 b2 b3 hT' (fun q G2 hb hq hqn hS2 hx sm hr hi hle => ?_) (fun v G2 hv hS2 hF => ?_)
      · obtain ⟨L', k', x1, x2⟩ := hx
        subst hb
        have h59 : w q = 123 ∧ w (q + 1) = 59 := by
          rcases b2 q rfl with ⟨h, -⟩ | ⟨h0, h | h⟩
          · exact absurd h (by decide)
          · exact ⟨h0, h.1⟩
          · exact absurd h.2 (by decide)
        refine jt_fin (n := n) (s := 0) (La := L') (k := k') (if_pos hq) hS2 x2 h123 hTx h125 hpe (Or.inr (Or.inl ⟨cB, by omega, (hr 9 (by decide)).trans r9, q, ?_, h59.1, h59.2, hq, rfl⟩)) hK
        rw [hi 3]
        exact x1
      · exact jt_finF (rd_cl_ce (by rcases hv with ⟨q, h1, -, h2⟩ | ⟨q, h1, -⟩; exact Or.inl ⟨q, h1, h2⟩; exact Or.inr ⟨q, h1⟩)) hS2 hF hK
    · obtain ⟨d, rfl⟩ : ∃ e, d = e + 2 := ⟨d - 2, by omega⟩
      refine mod (d + 1) G f K (by omega) hS hT ?_
      unfold mb_H
      rw [if_neg (by omega), if_neg (by omega), if_pos c1]
      exact jm_closed hS hT (by omega) b2 b4 (mh_br hK)
  -- two bodies, or one that may be alone
  have c63 : w (p + 1) = 63 ∨ w (p + 1) = 42 ∨ w (p + 1) = 43 := by unfold tx_B at cB; omega
  have c35 : ¬ w (p + 1) = 35 := by omega
  obtain ⟨E, hE⟩ : ∃ E, (E = 3 ∧ ¬ w (p + 1) = 43) ∨ (E = 2 ∧ w (p + 1) = 43) := by
    by_cases h : w (p + 1) = 43
    · exact ⟨2, Or.inr ⟨rfl, h⟩⟩
    · exact ⟨3, Or.inl ⟨rfl, h⟩⟩
  obtain ⟨fres, f1, f2, f3, f4⟩ := ih (n - (e + 1)) (by omega) (e + 1) E (by omega) hen (Nat.le_refl _)
  have f2' : ∀ q, fres = .inl q → w q = 123 ∧ (w (q + 1) = 59 ∨ w (q + 1) = 58) ∧ (E = 2 → w (q + 1) = 58) ∧ q + 1 < n ∧ e + 1 ≤ q := fun q hq => by
    have hq1 := f1
    rw [hq] at hq1
    rcases f2 q hq with ⟨h, -⟩ | ⟨h0, h | h⟩
    · exact absurd h (by omega)
    · exact ⟨h0, Or.inl h.1, fun q => by omega, tx_in hW (by omega), hq1.1⟩
    · exact ⟨h0, Or.inr h.1, fun _ => h.1, tx_in hW (by omega), hq1.1⟩
  by_cases two : ∃ q, fres = .inl q ∧ w (q + 2) = 125 ∧ w (q + 1) = 58
  · obtain ⟨q, rfl, q125, q58⟩ := two
    obtain ⟨q0, -, -, q3, q4⟩ := f2' q rfl
    have hq3 : q + 3 ≤ n := tx_in hW (k := q + 2) (by omega)
    obtain ⟨sres, s1, s2, s3, s4⟩ := ih (n - (q + 3)) (by omega) (q + 3) 1 (by decide) hq3 (Nat.le_refl _)
    have r0 : p + 1 ≤ rd_q (rd_cl w sres) ∧ rd_q (rd_cl w sres) ≤ n := by
      cases sres with
      | inl q2 =>
        have hb1 : q + 3 ≤ q2 := s1.1
        by_cases h : w (q2 + 2) = 125
        · rw [show rd_cl w (.inl q2) = .inl (q2 + 3) from if_pos h]
          have := tx_in hW (k := q2 + 2) (by omega)
          exact ⟨by show p + 1 ≤ q2 + 3; omega, by show q2 + 3 ≤ n; omega⟩
        · rw [show rd_cl w (.inl q2) = .inr (q2 + 2) from if_neg h]
          have h1 : q2 + 1 < n := by
            rcases s2 q2 rfl with ⟨h, -⟩ | ⟨-, h | h⟩
            · exact absurd h (by decide)
            · exact tx_in hW (by omega)
            · exact tx_in hW (by omega)
          exact ⟨by show p + 1 ≤ q2 + 2; omega, by show q2 + 2 ≤ n; omega⟩
      | inr q2 => exact ⟨by have := s1.1; show p + 1 ≤ q2; omega, s1.2⟩
    refine ⟨rd_cl w sres, r0, fun d G rd T B M hm b dep L t pa K hd hS hC hO hdep hnz ht hK => ?_, fun d G f K hd hS hT hK => ?_⟩
    · obtain ⟨d, rfl⟩ : ∃ e, d = e + 2 := ⟨d - 2, by omega⟩
      refine jt_cls (by omega) hS hC hO hp hdep h123 hnz ht hTx hok hHC (fun e2 G' h2 => absurd h2 (hnoF e2)) (fun e2 G' h2 h125' hS' hT' r8 r9 => ?_)
      cases h2
      rw [if_neg c35]
      -- the second body
      have snd : ∀ v G2, cs_S G2 → v = nI 58 → (∃ L' k', tb_B k' (fe_I (mj_n G + 1) (mj_n G2)) G2 hm b (mj_r G2 (mj_n G) 8) w (e + 1) q L' ∧ tg_S G G2 rd w n T B M hm b (mj_n G) p e (q + 3) ((L ++ [(p, mj_n G)]) ++ L') (t + 1 + L'.length) pa) → mj_r G2 (mj_n G) 9 = 0 → Rd_readBody d rd (nI 1) b (nI (dep + 1)) G2 (fun v G3 => (mj_k G3 (mj_n G) = 6) ∧ ∀ G6, G6 = mj_pR G3 (mj_n G) 9 v → (mj_k G6 rd = 8) ∧ Rd_leave d rd G6 (fun _ G8 => K (mj_n G) G8)) := fun v G2 hS2 _ hx h9 => by
        obtain ⟨La, k1, x1, x2⟩ := hx
        refine jt_body (fl := 9) hS2 (by omega) (Or.inr rfl) (by omega) (by omega) (by decide) (by omega) h9 s1 s2 s3 x2 (fun q2 G3 hb hq2 hqn2 hS3 hy sm hr hi hle => ?_) (fun v G3 hv hS3 hF => ?_)
        · obtain ⟨Lb, k2, y1, y2⟩ := hy
          subst hb
          have h59 : w q2 = 123 ∧ w (q2 + 1) = 59 := by
            rcases s2 q2 rfl with ⟨h, -⟩ | ⟨h0, h | h⟩
            · exact absurd h (by decide)
            · exact ⟨h0, h.1⟩
            · exact absurd h.2 (by decide)
          refine jt_fin (n := n) (s := 0) (La := La ++ Lb) (k := k1 + k2) (if_pos hq2) hS3 ?_ h123 hTx h125 hpe (Or.inr (Or.inr ⟨c63, q, q2, La, Lb, ?_, q0, q58, q125, ?_, h59.1, h59.2, hq2, rfl, rfl⟩)) hK
          · rw [← List.append_assoc, List.length_append, ← Nat.add_assoc]
            exact y2
          · rw [hr 8 (by decide)]
            exact tb_mono w (fun a ha => ⟨ha.1, by have := ha.2; omega⟩) sm (by omega) x1
          · exact tb_mono w (fun _ h => h) (fun a _ => ⟨rfl, rfl, fun _ => rfl, fun _ => rfl⟩) (by omega) y1
        · exact jt_finF (rd_cl_ce (by rcases hv with ⟨q, h1, -, h2⟩ | ⟨q, h1, -⟩; exact Or.inl ⟨q, h1, h2⟩; exact Or.inr ⟨q, h1⟩)) hS3 hF hK
      refine c_bodies hS' hT'.1.1.2.1 hT'.2.2.2.2.2.2.2.1 hT'.2.2.2.2.2.2.2.2.1 hw1 (fun q => absurd q c1) (fun h42 => ?_) (fun h43 => ?_) (fun q => absurd cB q)
      · have e3 : E = 3 := by omega
        subst e3
        refine jt_body (fl := 8) hS' (by omega) (Or.inl rfl) (by omega) (by omega) (by decide) (by omega) r8 f1 f2 f3 hT' (fun q' G2 hb hq hqn hS2 hx sm hr hi hle => ?_) (fun v G2 hv hS2 hF => ?_)
        · cases hb
          exact z_bt (by rw [q58]) ⟨hx.choose_spec.choose_spec.2.1.1.2.1, snd (nI (w (q + 1))) G2 hS2 (by rw [q58]) hx ((hr 9 (by decide)).trans r9)⟩
        · rcases hv with ⟨q', h1, -, h2⟩ | ⟨q', h1, -⟩
          · cases h1
            exact absurd q125 h2
          · cases h1
      · have e2 : E = 2 := by omega
        subst e2
        refine jt_body (fl := 8) hS' (by omega) (Or.inl rfl) (by omega) (by omega) (by decide) (by omega) r8 f1 f2 f3 hT' (fun q' G2 hb hq hqn hS2 hx sm hr hi hle => ?_) (fun v G2 hv hS2 hF => ?_)
        · cases hb
          exact ⟨hx.choose_spec.choose_spec.2.1.1.2.1, snd (nI (w (q + 1))) G2 hS2 (by rw [q58]) hx ((hr 9 (by decide)).trans r9)⟩
        · rcases hv with ⟨q', h1, -, h2⟩ | ⟨q', h1, -⟩
          · cases h1
            exact absurd q125 h2
          · cases h1
    · obtain ⟨d, rfl⟩ : ∃ e, d = e + 3 := ⟨d - 3, by omega⟩
      refine mod (d + 2) G f K (by omega) hS hT ?_
      unfold mb_H
      rcases hE with ⟨rfl, h⟩ | ⟨rfl, h⟩
      · rw [if_pos (by omega)]
        refine w_m_takesChoice hS (f4 (d + 1) G f _ (by omega) hS hT ⟨fun h => absurd h (by decide), fun _ => ⟨fun _ => ?_, fun h => absurd q125 h⟩⟩)
        rw [if_neg (by omega)]
        exact z_bf (by decide) (z_bt rfl (jm_closed hS hT (by omega) s2 s4 (mh_br2 hK)))
      · rw [if_neg (by omega), if_pos h]
        refine f4 (d + 2) G f _ (by omega) hS hT ⟨fun h => absurd h (by decide), fun _ => ⟨fun _ => ?_, fun h => absurd q125 h⟩⟩
        rw [if_neg (by omega)]
        exact z_bt rfl (jm_closed hS hT (by omega) s2 s4 (mh_br hK))
  · -- no second body
    have no2 : ∀ q, fres = .inl q → w (q + 2) = 125 → w (q + 1) = 59 ∧ E = 3 := fun q hq h => by
      obtain ⟨-, h1, h2, -⟩ := f2' q hq
      have h3 : ¬ w (q + 1) = 58 := fun h4 => two ⟨q, hq, h, h4⟩
      rcases hE with ⟨h4, -⟩ | ⟨h4, -⟩
      · exact ⟨by omega, h4⟩
      · exact absurd (h2 h4) h3
    have r0 : p + 1 ≤ rd_q (rd_cl w fres) ∧ rd_q (rd_cl w fres) ≤ n := by
      cases fres with
      | inl q =>
        obtain ⟨-, -, -, g4, g5⟩ := f2' q rfl
        by_cases h : w (q + 2) = 125
        · rw [show rd_cl w (.inl q) = .inl (q + 3) from if_pos h]
          have := tx_in hW (k := q + 2) (by omega)
          exact ⟨by show p + 1 ≤ q + 3; omega, by show q + 3 ≤ n; omega⟩
        · rw [show rd_cl w (.inl q) = .inr (q + 2) from if_neg h]
          exact ⟨by show p + 1 ≤ q + 2; omega, by show q + 2 ≤ n; omega⟩
      | inr q => exact ⟨by have := f1.1; show p + 1 ≤ q; omega, f1.2⟩
    have hce : rd_ce w fres ≤ 80 := by
      cases fres with
      | inl q =>
        obtain ⟨-, -, -, g4, g5⟩ := f2' q rfl
        show q + 2 ≤ 80
        omega
      | inr q => have := f1.2; show q ≤ 80; omega
    refine ⟨rd_cl w fres, r0, fun d G rd T B M hm b dep L t pa K hd hS hC hO hdep hnz ht hK => ?_, fun d G f K hd hS hT hK => ?_⟩
    · obtain ⟨d, rfl⟩ : ∃ e, d = e + 2 := ⟨d - 2, by omega⟩
      refine jt_cls (by omega) hS hC hO hp hdep h123 hnz ht hTx hok hHC (fun e2 G' h2 => absurd h2 (hnoF e2)) (fun e2 G' h2 h125' hS' hT' r8 r9 => ?_)
      cases h2
      rw [if_neg c35]
      have bad : ∀ (v : Int32) (G2 : mj_G), ((∃ q, fres = .inl q ∧ v = nI (w (q + 1)) ∧ ¬ w (q + 2) = 125) ∨ ∃ e, fres = .inr e ∧ v = nI 0) → rd_cl w fres = .inr (rd_ce w fres) := fun v G2 hv => rd_cl_ce (by rcases hv with ⟨q, h1, -, h2⟩ | ⟨q, h1, -⟩; exact Or.inl ⟨q, h1, h2⟩; exact Or.inr ⟨q, h1⟩)
      refine c_bodies hS' hT'.1.1.2.1 hT'.2.2.2.2.2.2.2.1 hT'.2.2.2.2.2.2.2.2.1 hw1 (fun q => absurd q c1) (fun h42 => ?_) (fun h43 => ?_) (fun q => absurd cB q)
      · have e3 : E = 3 := by omega
        subst e3
        refine jt_body (fl := 8) hS' (by omega) (Or.inl rfl) (by omega) (by omega) (by decide) (by omega) r8 f1 f2 f3 hT' (fun q G2 hb hq hqn hS2 hx sm hr hi hle => ?_) (fun v G2 hv hS2 hF => ?_)
        · obtain ⟨L', k', x1, x2⟩ := hx
          subst hb
          obtain ⟨h59, -⟩ := no2 q rfl hq
          refine z_bf (by rw [h59]; decide) ?_
          refine jt_fin (n := n) (s := 0) (La := L') (k := k') (if_pos hq) hS2 x2 h123 hTx h125 hpe (Or.inr (Or.inl ⟨cB, by omega, (hr 9 (by decide)).trans r9, q, ?_, (f2' q rfl).1, h59, hq, rfl⟩)) hK
          rw [if_neg c35]
          exact x1
        · have hb := bad v G2 hv
          refine z_br (fun _ => ⟨hF.1.1.2.1, ?_⟩) (fun _ => jt_finF hb hS2 hF hK)
          exact jt_bodyF hS2 (by omega) (Or.inr rfl) hce hF (fun G3 hS3 hF3 => jt_finF hb hS3 hF3 hK)
      · have e2 : E = 2 := by omega
        subst e2
        refine jt_body (fl := 8) hS' (by omega) (Or.inl rfl) (by omega) (by omega) (by decide) (by omega) r8 f1 f2 f3 hT' (fun q G2 hb hq hqn hS2 hx sm hr hi hle => ?_) (fun v G2 hv hS2 hF => ?_)
        · exact absurd (no2 q hb hq).2 (by decide)
        · have hb := bad v G2 hv
          exact ⟨hF.1.1.2.1, jt_bodyF hS2 (by omega) (Or.inr rfl) hce hF (fun G3 hS3 hF3 => jt_finF hb hS3 hF3 hK)⟩
    · obtain ⟨d, rfl⟩ : ∃ e, d = e + 2 := ⟨d - 2, by omega⟩
      refine mod (d + 1) G f K (by omega) hS hT ?_
      unfold mb_H
      have mpost : ∀ (E : Nat) (K2 : Int32 → mm_F → Prop), E ≠ 0 → (∀ q, fres = .inl q → w (q + 2) = 125 → K2 (nI (if w (q + 1) = 59 then 2 else 3)) (pt_a f (q + 3))) → (∀ v, (v = 0 ∨ v = 1) → rd_cl w fres = .inr (rd_ce w fres) → K2 (nI v) (pt_a f (rd_ce w fres))) → jb_post w E f K2 fres := fun E K2 hE0 h1 h2 => by
        cases fres with
        | inl q => exact ⟨fun h => absurd h hE0, fun _ => ⟨fun h => h1 q rfl h, fun h => h2 0 (Or.inl rfl) (if_neg h)⟩⟩
        | inr q => exact fun v hv => h2 v (by omega) rfl
      rcases hE with ⟨rfl, h⟩ | ⟨rfl, h⟩
      · rw [if_pos (by omega)]
        refine w_m_takesChoice hS (f4 d G f _ (by omega) hS hT (mpost 3 _ (by decide) (fun q hq h => ?_) (fun v hv hb => ?_)))
        · subst hq
          rw [if_pos (no2 q rfl h).1]
          rw [show rd_cl w (.inl q) = .inl (q + 3) from if_pos h] at hK
          exact z_bt rfl (z_bt rfl hK)
        · rw [hb] at hK
          have hK' : K false (pt_a f (rd_ce w fres)) := hK
          refine z_bf ?_ (z_bf ?_ (z_bf (by decide) hK'))
          all_goals (rcases hv with rfl | rfl <;> decide)
      · rw [if_neg (by omega), if_pos h]
        refine f4 (d + 1) G f _ (by omega) hS hT (mpost 2 _ (by decide) (fun q hq h => absurd (no2 q hq h).2 (by decide)) (fun v hv hb => ?_))
        rw [hb] at hK
        refine z_bf ?_ hK
        rcases hv with rfl | rfl <;> decide
end BA
