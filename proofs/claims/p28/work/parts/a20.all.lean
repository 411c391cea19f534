/-! SOUNDNESS: whatever a run of the small machine says, the real one does -/
theorem rj_LR.putN {κ : rj_E} {lsB : Array Slot} {nL k : Nat} {ls : List (Option mj_V)} {l : List (Nat × Value)} {w : Value} (hn : ls.length = nL) (hl : ∀ k v, mj_g ls k = some v → (k, rj_vm κ v) ∈ l)
    (h : lv_has lsB nL ((k, w) :: l.filter (fun q => !(q.1 == k) && !(q.1 + 1 == k && q.2.category == 2)))) : rj_LR κ lsB nL (mj_p (mj_cl0 ls k) k none) := by
  refine ⟨by rw [rj_p_len, rj_cl0_len, hn], _, h, fun j w hj => ?_⟩
  rw [rj_g_p] at hj
  split at hj
  · cases hj
  · rename_i hq
    obtain ⟨h1, h2⟩ := rj_g_cl0 hj
    have hlt := rj_g_lt h1
    refine List.mem_cons_of_mem _ (List.mem_filter.mpr ⟨hl j w h1, ?_⟩)
    have hjk : j ≠ k := fun e => hq ⟨e, by rw [rj_cl0_len]; omega⟩
    simp only [rj_cat, Bool.and_eq_true, Bool.not_eq_true', beq_eq_false_iff_ne, Bool.and_eq_false_iff, ne_eq]
    refine ⟨hjk, ?_⟩
    by_cases hL : mj_L (some w) = true
    · exact Or.inl fun e => h2 ⟨e, hL⟩
    · rw [if_neg hL]
      exact Or.inr (by decide)
section MJV
variable {p : Program} {l : Launch} {e : Env} {R : Room} {s : State} {m : MethodId} {args : Array Value} {below : List Frame} {meth : Method} {c : Code} {H : Heap} {locs : List Loc} {cells slots : Nat} {Q : State → Prop}
theorem rj_vx_imp {Q' : State → Prop} {g : JFrame} {q : Addr} (h : vx_W p l e R s m args below meth c H locs cells slots Q g q) (hq : ∀ t, Q t → Q' t) : vx_W p l e R s m args below meth c H locs cells slots Q' g q := fun T hT X => by
  obtain ⟨t, a, b⟩ := h T hT X
  exact ⟨t, a, hq t b⟩
end MJV
theorem rj_ca_w {k : Nat} (h15 : 15 ≤ k) (h18 : k < 18) : Jvm.Cond.castable (rj_R k) (rj_R k) ∈ rj_W := by
  have h : k = 15 ∨ k = 16 ∨ k = 17 := by omega
  rcases h with rfl | rfl | rfl
  · exact rj_x_ca_15
  · exact rj_x_ca_16
  · exact rj_x_ca_17
theorem rj_fit_E {k : Nat} (h15 : 15 ≤ k) (h18 : k < 18) : Bundle.fit (rj_R k) = true ∧ rj_N k = 0 := by
  have h : k = 15 ∨ k = 16 ∨ k = 17 := by omega
  rcases h with rfl | rfl | rfl <;> exact ⟨by decide +kernel, rfl⟩
set_option maxHeartbeats 1000000 in
theorem rj_WF_all (l : Launch) (f : Nat) : rj_WF l f := by
  induction f with
  | zero =>
    intro d mi pc p e R s m args below meth c H locs cells slots mc ms F κ G G9 o9 lsA ls st hok fx hA hS hR hL hfr hlo hmc hms hmcR hmsR hF1 hF2 h
    exact h.elim
  | succ f IH =>
    intro d mi pc p e R s m args below meth c H locs cells slots mc ms F κ G G9 o9 lsA ls st hok fx hA hS hR hL hfr hlo hmc hms hmcR hmsR hF1 hF2 h
    have fx' := fx
    obtain ⟨hx, hb, hml, hown, hmn, hrt, hlk, ht1, ht2, hl⟩ := fx'
    have le9 : ∀ q ls st G', rj_XF f d mi q ls st G' (fun a b => a = o9 ∧ b = G9) → mj_n G' ≤ mj_n G9 ∧ mj_u G' ≤ mj_u G9 := fun q ls st G' h => by
      obtain ⟨o, G'', ⟨-, e⟩, n1, u1, -⟩ := rj_XF_det h
      rw [← e]
      exact ⟨n1, u1⟩
    unfold rj_XF at h
    cases hat : rj_at mi pc with
    | none => rw [hat] at h; exact h.elim
    | some il =>
      obtain ⟨i, len⟩ := il
      rw [hat] at h
      dsimp only at h
      obtain ⟨hdec, hokI, hmem, hmem2⟩ := rj_at_w hok hat
      cases htg : rj_tg (mi / 1000) i with
      | some mt =>
        rw [htg] at h
        dsimp only at h
        cases htk : mj_tk (rj_na mt) [] st with
        | none => rw [htk] at h; exact h.elim
        | some ar =>
          obtain ⟨as, rest⟩ := ar
          rw [htk] at h
          dsimp only at h
          obtain ⟨hw, hrc, d', rfl, hX⟩ := h
          obtain ⟨o1, G1, hm, n1, u1, hX1⟩ := rj_XF_det hX
          have hck := List.all_eq_true.mp (List.all_eq_true.mp (rj_okC_all _ (rj_c15 hok)) _ hmem2) _ hmem
          have hle : mj_n G1 ≤ mj_n G9 ∧ mj_u G1 ≤ mj_u G9 := by
            rcases o1 with (_ | v) | k
            · exact le9 _ _ _ _ hm
            · exact le9 _ _ _ _ hm
            · obtain ⟨-, g3⟩ := hm
              split at g3
              · obtain ⟨-, -, g4⟩ := g3
                rw [g4]
                exact ⟨Nat.le_refl _, Nat.le_refl _⟩
              · exact le9 _ _ _ _ g3.2
          refine rj_W_call IH fx hA hS hR hL.size (by omega) (by omega) htg hck hdec htk hw hrc hX1 ⟨by omega, by omega⟩ ?_ ?_
          · intro v ev H' locs' a1 a2
            subst ev
            cases v with
            | none => exact IH hok fx hA a1 a2 hL hfr hlo (by omega) (by omega) hmcR hmsR hF1 hF2 hm
            | some v => exact IH hok fx hA a1 a2 hL hfr hlo (by omega) (by omega) hmcR hmsR hF1 hF2 hm
          · intro k ek hk1 k15 k18 H' locs' q ce a1 a2 c1 c2 c3
            subst ek
            obtain ⟨g2, g3⟩ := hm
            cases hhn : rj_hn mi k with
            | none =>
              rw [hhn] at g3
              obtain ⟨g1, g5, g6⟩ := g3
              subst g6
              refine rj_vx_imp (vx_out (free := rj_fr κ) (Qc := rj_Qc κ (fun a b => a = o9 ∧ b = G1)) (XC := rj_Xc κ (fun a b => a = o9 ∧ b = G1)) (mc := mc) (ms := ms) (fun x hx => (ht1 g1 x hx).elim) hlk c1 c2 c3 (fun t ht _ => ?_) a1.2.2 (by omega) (by omega)) (hF2 g1)
              refine ⟨k, G1, k15, k18, rfl, ⟨g5, rfl⟩, by rw [ht]; exact a2, ?_⟩
              rw [ht]
              exact ⟨a1.1, a1.2.1⟩
            | some qx =>
              obtain ⟨q', x⟩ := qx
              rw [hhn] at g3
              dsimp only at g3
              obtain ⟨g1, g3⟩ := g3
              obtain ⟨hpc, hct, hxl, hast⟩ := rj_hnd hok g1 hat htg hk1 (by omega) hhn
              obtain ⟨pre, suf, xx, e1, e2, e3, e4, e5, e6⟩ := rj_ct_e (args := args) hA (by omega) hct
              have h14 := rj_kd2 hok g1
              rw [h14] at hown
              refine vx_catch (own := rj_R 14) hown pre xx suf ((ht2 g1).trans e1) e2 e3 e4 e5 (hA.word (rj_ca_w k15 k18)) c1 c2 c3 ?_
              rw [e6]
              obtain ⟨hn, lv, l1, l2⟩ := hL
              rcases hast with ⟨hat2, hq⟩ | ⟨y, hy, hat2, hq⟩
              · have hdec2 := (rj_at_w hok hat2).1
                rw [show q' - hpc = 2 by omega] at hdec2
                refine lv_astore hx hb hdec2 l1 (by omega) rfl (fun ls' hl' => ?_)
                rw [hq]
                exact IH (st := []) hok fx hA a1 a2 (rj_LR.putN hn l2 hl') hfr hlo (by omega) (by omega) hmcR hmsR hF1 hF2 g3
              · have hdec2 := (rj_at_w hok hat2).1
                rw [show q' - hpc = 1 by omega] at hdec2
                refine lv_astore_n hx hb hdec2 hy l1 (by omega) rfl (fun ls' hl' => ?_)
                rw [hq]
                exact IH (st := []) hok fx hA a1 a2 (rj_LR.putN hn l2 hl') hfr hlo (by omega) (by omega) hmcR hmsR hF1 hF2 g3
      | none =>
        rw [htg] at h
        dsimp only at h
        have gen : rj_s1 (mi / 1000) (bif (rj_y mi).name == "<init>" then true else false) i len pc ls st G (fun pc ls st G => rj_XF f d mi pc ls st G (fun a b => a = o9 ∧ b = G9)) → W p l e R s m args below meth c H locs cells slots F (F0 m pc lsA (st.map (rj_vm κ))) := by
          intro h1
          obtain ⟨q, ls', st', G', a, b, cc, dd⟩ := rj_s1_dt _ h1
          have h2 := dd (fun q ls st G' => mj_n G ≤ mj_n G' ∧ mj_u G ≤ mj_u G' ∧ rj_XF f d mi q ls st G' (fun a b => a = o9 ∧ b = G9)) ⟨b, cc, a⟩
          refine rj_s1_W hx hb (hml.trans hL.size.symm) hown (fun q => ?_) hA hS hR hL (by omega) (by omega) hdec hokI (fun q ls st G' hK => ?_) ?_ h2
          · cases hbb : ((rj_y mi).name == "<init>") with
            | false => rw [hbb] at q; cases q
            | true => exact hmn (eq_of_beq hbb)
          · have := le9 _ _ _ _ hK.2.2
            exact ⟨by omega, by omega⟩
          · intro q ls' st' G' H' locs' lsA' hK a1 a2 a3
            have := le9 _ _ _ _ hK.2.2
            exact IH hok fx hA a1 a2 a3 hfr hlo (by omega) (by omega) hmcR hmsR hF1 hF2 hK.2.2
        have hq : ∀ (v : Option mj_V), (Sum.inl v : mj_O) = o9 → G = G9 → ∀ t : State, t.heap = H → s.WarmedH t.vm → rj_Qc κ (fun a b => a = o9 ∧ b = G9) args s (.returned (v.map (rj_vm κ))) t := fun v e1 e2 t ht _ => by
          refine ⟨v, G, rfl, ⟨e1, e2⟩, by rw [ht]; exact hR, ?_⟩
          rw [ht]
          exact ⟨hS.1, hS.2.1⟩
        have hret : ∀ {g : JFrame}, G = G9 → W p l e R s m args below meth c H locs cells slots (MQ below (rj_Qc κ (fun a b => a = o9 ∧ b = G9)) args s cells slots (rj_fr κ)) g → W p l e R s m args below meth c H locs cells slots F g := by
          intro g eG hW
          subst eG
          have e1 : cells = mc := by omega
          have e2 : slots = ms := by omega
          subst e1
          subst e2
          exact rj_W_imp hW hF1
        split at h
        · split at h
          · rename_i x
            obtain ⟨hro, e1, e2⟩ := h
            obtain rfl := Nat.eq_of_beq_eq_true hokI
            refine hret e2 ?_
            unfold rj_ro at hro
            split at hro
            · rename_i hr9
              exact W.zret hx hb (hrt.trans hr9) rfl (hq (some (.inl x)) e1 e2) hS.2.2 hdec hlk
            · rename_i hr9
              exact W.zret hx hb (hrt.trans hr9) (rj_nf (t := 1) (y := .boolean) rfl (by decide) hro).1 (hq (some (.inl x)) e1 e2) hS.2.2 hdec hlk
            · rename_i hr9
              exact W.zret hx hb (hrt.trans hr9) (rj_nf (t := 2) (y := .char) rfl (by decide) hro).1 (hq (some (.inl x)) e1 e2) hS.2.2 hdec hlk
            · exact hro.elim
          · exact h.elim
        · split at h
          · rename_i x
            obtain ⟨hro, e1, e2⟩ := h
            obtain rfl := Nat.eq_of_beq_eq_true hokI
            exact hret e2 (W.lret hx hb (hrt.trans hro) (hq (some (.inr (.inl x))) e1 e2) hS.2.2 hdec hlk)
          · exact h.elim
        · split at h
          · rename_i x
            obtain ⟨hro, e1, e2⟩ := h
            obtain rfl := Nat.eq_of_beq_eq_true hokI
            have hv : rj_rv κ x = .null ∨ ∃ a, rj_rv κ x = .ref a := by
              by_cases h0 : x = 0
              · subst h0; exact Or.inl rfl
              · exact Or.inr ⟨_, rj_rvn h0⟩
            have hr9 : ∃ rt, rj_rt mi = some rt ∧ ((∃ n, rt = .object n) ∨ ∃ t, rt = .array t) := by
              unfold rj_rr at hro
              split at hro
              · rename_i n hr; exact ⟨_, hr, Or.inl ⟨n, rfl⟩⟩
              · rename_i n hr; exact ⟨_, hr, Or.inr ⟨n, rfl⟩⟩
              · cases hro
            obtain ⟨rt, r1, r2⟩ := hr9
            exact hret e2 (W.aret hx hb (hrt.trans r1) r2 hv (hq (some (.inr (.inr x))) e1 e2) hS.2.2 hdec hlk)
          · exact h.elim
        · split at h
          · obtain ⟨hro, e1, e2⟩ := h
            obtain rfl := Nat.eq_of_beq_eq_true hokI
            exact hret e2 (W.vret hx hb (hrt.trans hro) (hq none e1 e2) hS.2.2 hdec hlk)
          · exact h.elim
        · rename_i k
          cases hcl : rj_cl (mi / 1000) k with
          | none => rw [hcl] at h; exact h.elim
          | some E =>
            rw [hcl] at h
            dsimp only at h
            cases hb15 : Nat.ble 15 E with
            | false =>
              rw [hb15] at h
              exact gen h
            | true =>
              rw [hb15] at h
              obtain ⟨rfl, hkd, hd8, e1, e2⟩ := h
              have h15 := Nat.le_of_ble_eq_true hb15
              obtain ⟨hclw, h18, hn2, hn14⟩ := rj_cl_w hcl
              obtain ⟨t1, t2, t3⟩ := rj_thr hok hkd hat hcl h15
              have h12 := rj_kd1 hok hkd hat hcl h15
              obtain rfl := Nat.eq_of_beq_eq_true hokI
              rw [h12] at hown hclw
              have d3 := (rj_at_w hok t1).1
              have d4 := (rj_at_w hok t2).1
              have d7 := (rj_at_w hok t3).1
              subst e2
              have en : mj_n (mj_al G (E + 1) 6 (fun _ => 0)) = mj_n G + 1 := rfl
              have eu : mj_u (mj_al G (E + 1) 6 (fun _ => 0)) = mj_u G + 6 := rfl
              rw [en] at hmc
              rw [eu] at hms
              have hA' := hA
              obtain ⟨-, -, -, hU, hN, -⟩ := hA'
              refine rj_W_imp (rj_throw0 (names := rj_tn) (own := rj_R 12) (cls := rj_R E) (ic := rj_tc E) (A := fun q => rj_eb κ ≤ q) (mc := mc) (ms := ms) (free := rj_fr κ) (Qc := rj_Qc κ (fun a b => a = o9 ∧ b = mj_al G (E + 1) 6 (fun _ => 0))) (XC := rj_Xc κ (fun a b => a = o9 ∧ b = mj_al G (E + 1) 6 (fun _ => 0))) hx hb hl hown (rj_fit_E h15 h18).1 (by decide +kernel)
                (hA.word hclw) (hA.word (rj_qc_w h18 hn2 hn14).1) (fun w hw => hA.word (rj_tw_E h15 h18 hw).1) (fun w hw => ?_) hU hN hS (hL.size.trans hml.symm) hdec d3 d4 d7 (fun x hx => (ht1 hkd x hx).elim) ?_ ?_ (by omega) (by omega) hlk (fun t hal hsz hpre hce => ?_) hS.2.2 (by omega) (by omega)) (hF2 hkd)
              · rcases List.mem_cons.mp hw with rfl | hw
                · rfl
                · rcases List.mem_cons.mp hw with rfl | hw
                  · rfl
                  · exact (rj_tw_E h15 h18 hw).2
              · show 2 + 3 < R.frames
                omega
              · show 0 + (13 * (2 + 1) + 42) ≤ R.locals
                omega
              · obtain ⟨ce, c1, c2, c3⟩ := hce
                refine ⟨E, _, h15, h18, rfl, ⟨e1, rfl⟩, ?_, ?_⟩
                · refine (hR.new (by omega) hsz hpre ⟨fun _ => ?_, fun h20 => ?_⟩).1
                  · rw [rj_al_ks, Nat.add_sub_cancel]
                    refine ⟨h18, hn2, hn14, ce, c1, c2, ?_, fun j hj => by rw [(rj_fit_E h15 h18).2] at hj; omega⟩
                    exact Option.some.inj (c3.symm.trans (hA.1.1 E h18 hn2 hn14).2.1)
                  · rw [rj_al_ks] at h20
                    omega
                · refine ⟨by rw [hsz]; exact Nat.le_succ_of_le hS.1, fun q h1 h2 => ?_⟩
                  rw [hpre q (Nat.lt_of_lt_of_le h1 hS.1)]
                  exact hS.2.1 q h1 h2
        · exact gen h
