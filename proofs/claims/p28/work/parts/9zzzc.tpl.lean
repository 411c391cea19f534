/-! THE CALLS OF THE LAW: template -/
/-- tags up to a place -/
def ctb (w : Nat → Nat) (k : Nat) : Nat := if w k = 123 ∧ w (k + 1) ≠ 58 ∧ w (k + 1) ≠ 59 then 1 else 0
def ct (w : Nat → Nat) : Nat → Nat
  | 0 => 0
  | i + 1 => ct w i + ctb w i
section ZZZC1
variable {w : Nat → Nat} {n p q : Nat}
theorem ctb_0 {k : Nat} (h : w k ≠ 123) : ctb w k = 0 := if_neg (fun q => h q.1)
theorem ct_n : ∀ {m p : Nat}, (∀ j, p ≤ j → j < p + m → w j ≠ 123) → ct w (p + m) = ct w p
  | 0, _, _ => rfl
  | m + 1, p, h => by
    show ct w (p + m) + ctb w (p + m) = ct w p
    rw [ctb_0 (h (p + m) (by omega) (by omega)), ct_n (m := m) (fun j a b => h j a (by omega))]
    rfl
theorem ct_m {e : Nat} (h : tx_M w p e) (hp : p ≤ e) : ct w e = ct w p := by
  have := ct_n (w := w) (m := e - p) (p := p) (fun j a b => h j a (by omega))
  rw [show p + (e - p) = e by omega] at this
  exact this
theorem ct_2 {q : Nat} (h : w q = 123) (h1 : w (q + 1) = 58 ∨ w (q + 1) = 59) (h2 : w (q + 2) = 125) : ct w (q + 3) = ct w q := by
  show ct w q + ctb w q + ctb w (q + 1) + ctb w (q + 2) = ct w q
  rw [show ctb w q = 0 from if_neg (fun t => by omega), ctb_0 (by omega), ctb_0 (by omega)]
  rfl
/-- a body's tags, counted; no { is the last -/
theorem ct_b {A : Nat → Prop} {G : mj_G} {hm : Int32} (hW : tx_W w n) : ∀ {k b r p q L}, tb_B k A G hm b r w p q L → q ≤ n → ct w q = ct w p + L.length ∧ ∀ j, p ≤ j → j < q → w j = 123 → j + 1 < n
  | 0, _, _, _, _, _, h, _ => h.elim
  | k + 1, b, r, p, q, L, h, hq => by
    have hle := tb_le h
    rcases h with ⟨-, rfl, rfl⟩ | ⟨-, -, -, -, -, a1, -, -, -, -, h⟩ | ⟨-, -, -, -, -, a1, aT, -, e, m, L1, L2, he, hH, h125, rfl, h13, h14⟩
    · exact ⟨rfl, fun j x1 x2 => absurd x1 (by omega)⟩
    · obtain ⟨i1, i2⟩ := ct_b hW h hq
      refine ⟨?_, fun j x1 x2 x3 => ?_⟩
      · rw [i1]
        show ct w p + ctb w p + _ = _
        rw [ctb_0 a1]
        omega
      · by_cases t : j = p
        · rw [t] at x3; exact absurd x3 a1
        · exact i2 j (by omega) x2 x3
    · have hl2 := tb_le h13
      have sk := tb_sk hH h125
      have c58 : w (p + 1) ≠ 58 ∧ w (p + 1) ≠ 59 := by clear h14; unfold tx_T at aT; omega
      have hen : e < n := tx_in hW (by omega)
      obtain ⟨i1, i2⟩ := ct_b hW h13 hq
      have e1 : ct w (e + 1) = ct w p + 1 := by
        rw [ct_m sk (by omega)]
        show ct w p + ctb w p = _
        rw [show ctb w p = 1 from if_pos ⟨a1, c58.1, c58.2⟩]
      have b0 : ∀ j, p ≤ j → j < e + 1 → w j = 123 → j + 1 < n := fun j x1 x2 x3 => by
        by_cases t : j = p
        · omega
        · exact absurd x3 (sk j (by omega) (by omega))
      have ll : ((p, r) :: (L1 ++ L2)).length = 1 + L1.length + L2.length := by
        rw [List.length_cons, List.length_append]
        omega
      rw [ll]
      rcases h14 with ⟨b1, rfl, rfl, -⟩ | ⟨b1, -, -, q1, b2, b3, b4, b5, rfl⟩ | ⟨b1, q1, q2, La, Lb, b2, b3, b4, b5, b6, b7, b8, b9, rfl, rfl⟩
      · refine ⟨by rw [i1, e1]; show _ = ct w p + (1 + 0 + L2.length); omega, fun j x1 x2 x3 => ?_⟩
        by_cases t : j < e + 1
        · exact b0 j x1 t x3
        · exact i2 j (by omega) x2 x3
      · have hl3 := tb_le b2
        obtain ⟨j1, j2⟩ := ct_b hW b2 (by omega)
        refine ⟨by rw [i1, ct_2 b3 (Or.inr b4) b5, j1, e1]; omega, fun j x1 x2 x3 => ?_⟩
        by_cases t : j < e + 1
        · exact b0 j x1 t x3
        · by_cases t1 : j < q1
          · exact j2 j (by omega) t1 x3
          · by_cases t2 : j < q1 + 3
            · have : j = q1 := by
                rcases (by omega : j = q1 ∨ j = q1 + 1 ∨ j = q1 + 2) with y | y | y
                · exact y
                · rw [y] at x3; omega
                · rw [y] at x3; omega
              omega
            · exact i2 j (by omega) x2 x3
      · have hl3 := tb_le b2
        have hl4 := tb_le b6
        obtain ⟨j1, j2⟩ := ct_b hW b2 (by omega)
        obtain ⟨y1, y2⟩ := ct_b hW b6 (by omega)
        refine ⟨by rw [i1, ct_2 b7 (Or.inr b8) b9, y1, ct_2 b3 (Or.inl b4) b5, j1, e1, List.length_append]; omega, fun j x1 x2 x3 => ?_⟩
        by_cases t : j < e + 1
        · exact b0 j x1 t x3
        · by_cases t1 : j < q1
          · exact j2 j (by omega) t1 x3
          · by_cases t2 : j < q1 + 3
            · rcases (by omega : j = q1 ∨ j = q1 + 1 ∨ j = q1 + 2) with y | y | y
              · omega
              · rw [y] at x3; omega
              · rw [y] at x3; omega
            · by_cases t3 : j < q2
              · exact y2 j (by omega) t3 x3
              · by_cases t4 : j < q2 + 3
                · rcases (by omega : j = q2 ∨ j = q2 + 1 ∨ j = q2 + 2) with y | y | y
                  · omega
                  · rw [y] at x3; omega
                  · rw [y] at x3; omega
                · exact i2 j (by omega) x2 x3
/-- a whole text's tags -/
theorem ct_all {A : Nat → Prop} {G : mj_G} {hm b : Int32} {pa : Int32} {k r s0 : Nat} {L : List (Nat × Nat)} (hW : tx_W w n) (hP : tp_P w s0 pa) (hB : tb_B k A G hm b r w s0 n L) : ct w n = L.length + (if s0 = 0 then 0 else 1) ∧ ∀ j, j < n → w j = 123 → j + 1 < n := by
  obtain ⟨i1, i2⟩ := ct_b hW hB (Nat.le_refl _)
  rcases hP with ⟨rfl, -⟩ | ⟨rfl, c0, c1, c2, c3, -⟩
  · refine ⟨by rw [i1, if_pos rfl]; show 0 + _ = _; omega, fun j hj x => i2 j (Nat.zero_le _) hj x⟩
  · have c2' : 48 ≤ w 2 ∧ w 2 ≤ 57 := c2
    have h3 : 3 < n := tx_in hW (by omega)
    have e4 : ct w 4 = 1 := by
      show 0 + ctb w 0 + ctb w 1 + ctb w 2 + ctb w 3 = 1
      rw [show ctb w 0 = 1 from if_pos ⟨c0, by show w 1 ≠ 58; omega, by show w 1 ≠ 59; omega⟩, ctb_0 (by omega), ctb_0 (by omega), ctb_0 (by omega)]
    refine ⟨by rw [i1, e4, if_neg (by decide)]; omega, fun j hj x => ?_⟩
    by_cases t : j < 4
    · rcases (by omega : j = 0 ∨ j = 1 ∨ j = 2 ∨ j = 3) with rfl | rfl | rfl | rfl <;> omega
    · exact i2 j (by omega) hj x
end ZZZC1
/-- the world with another template -/
def wo_t (u : wo) (t : Nat) (w : Nat → Nat) (n p r : Nat) (L : List (Nat × Nat)) (A : Nat → Prop) (H : mj_G) : wo := (u.1, (g_u (u_w u) t w, g_u (u_n u) t n, g_u (u_pa u) t p, g_u (u_bd u) t r), (g_u (u_L u) t L, u.2.2.1.2.1, u.2.2.1.2.2), ((A, H), u.2.2.2.2))
def ls_p (s : lst) (t p r : Nat) (L : List (Nat × Nat)) (A : Nat → Prop) (H : mj_G) : lst := (wo_t s.1 t (ls_w s) (ls_n s) p r L A H, kf0 s.2.1, s.2.2.1, s.2.2.2.1, s.2.2.2.2.1, (0, fun _ => 0), s.2.2.2.2.2.2)
/-- a template's parent by its text -/
def pa_t (w : Nat → Nat) (p : Nat) : Prop := p ≤ 10 ∧ ((p = 0 ∧ ¬ (w 0 = 123 ∧ w 1 = 60)) ∨ (w 0 = 123 ∧ w 1 = 60 ∧ tx_D (w 2) ∧ p = w 2 - 48 + 1))
section ZZZC
variable {s : lst} {u : wo} {ρ ρ' : Nat → Nat} {G G1 G' Gm H : mj_G} {f f' : mm_F} {a t t' t0 n l m c p r : Nat} {w : Nat → Nat} {d : Nat} {L : List (Nat × Nat)} {A : Nat → Prop}
theorem tm_ne (h : tmC u ρ G t') (hne : t' ≠ t) : tmC (wo_t u t w n p r L A H) ρ G t' := by
  have e1 : u_pa (wo_t u t w n p r L A H) t' = u_pa u t' := g_un hne
  have e2 : u_bd (wo_t u t w n p r L A H) t' = u_bd u t' := g_un hne
  have e3 : u_w (wo_t u t w n p r L A H) t' = u_w u t' := g_un hne
  have e4 : u_L (wo_t u t w n p r L A H) t' = u_L u t' := g_un hne
  unfold tmC u_qb u_qm at h ⊢
  rw [e1, e2, e3, e4]
  exact h
/-- a template told, by the class -/
theorem c_tpl {K : Int32 ⊕ Nat → mj_G → Prop} {q : Nat} (h : LC s ρ G) (hs : LQ s) (hc : rw_C (ls_w s) (ls_n s) (.inl q)) (ht : t < 10) (hd : 1000 ≤ d)
    (hK : ∀ p r L A H, LC (ls_p s t p r L A H) (ro_0 ρ (mj_n G)) H → LQ (ls_p s t p r L A H) → yF G H → pa_t (ls_w s) p → (∀ j, j < ls_n s → ls_w s j = 123 → j + 1 < ls_n s) → K (.inl (nI (ct (ls_w s) (ls_n s)))) H) : Tq_template d (nI t) G K := by
  obtain ⟨d, rfl⟩ : ∃ y, d = y + 1 := ⟨d - 1, by omega⟩
  have hG := hh_n h.1
  have hS := h.1.1
  have hn := hs.2.1.1
  refine iv_cI (iv_hb h.1.2.2.1) ?_
  show Tq_template (d + 1) (nI t) G (fun r G' => iv_J (mj_u G) G' → K r G')
  refine w_Tq_template hS (by omega) ?_
  rw [z_lt (by omega) (by decide), z_lt (by omega) (by decide)]
  refine z_bf (by omega) (z_bt ht ?_)
  rintro _ rfl
  rw [show mj_i (mj_al G 8 6 (fun _ => 0)) 3 1 = nI (ls_n s) from (z_iAn (by omega)).trans h.2.2.2.2.2.1.1]
  refine c_Rd_init hS (by omega) ⟨rk_k.1, hc d G (nI t) _ (by omega) hS hs.2.1 h.2.2.2.2.2.1.2 (fun v5 G4 s4 F4 rx n4 u4 X => ⟨rx.1.2.1, ?_⟩)⟩
  obtain ⟨-, x5, s0, pa, L, k, hP, hB, hN⟩ := X
  obtain ⟨rx1, rx2, rx3, rx4, rx5, rx6, rx7, rx8, rx9, rx10, rx11, rx12, rx13, rx14, rx15, rx16, rx17⟩ := rx
  rw [x5, rx2]
  refine z_bt rfl ⟨rx4, ?_⟩
  intro G8 e8
  have r83 : mj_r G8 (mj_n G) 3 = mj_n G + 1 := by rw [e8, z_rRn (by omega)]; exact rx2
  have k8 : ∀ c, mj_k G8 c = mj_k G4 c := fun c => by rw [e8]; rfl
  have s8 : cs_S G8 := by rw [e8]; exact cs_pRg s4 (by omega)
  have F8 : fn_F G G8 := by rw [e8]; exact fn_R F4 (by omega)
  rw [r83]
  refine z_ixi ht (by decide) ⟨Or.inr (by rw [k8, rx4, cs_k (K := 40) s8 rfl]), ?_⟩
  rintro _ rfl
  have s12 : cs_S (mj_pR G8 7 t (mj_n G + 1)) := cs_pRx s8 rfl (by unfold cs_w; decide)
  refine c_forget s12 (fun G13 s13 F13 n13 u13 z13 i13 k13 r13 => ?_)
  rintro _ rfl
  have rT : ∀ c j, c ≠ 7 → ¬ (1597 ≤ c ∧ c ≤ 1669) → mj_r (mj_pI G13 3 1 (nI 0)) c j = mj_r G8 c j := fun c j q1 q2 => (r13 c j (by omega)).trans (z_rRn q1)
  have iT : ∀ c j, c ≠ 3 → mj_i (mj_pI G13 3 1 (nI 0)) c j = mj_i G4 c j := fun c j q => (z_iIn q).trans ((i13 c j).trans (by rw [e8]; rfl))
  have kT : ∀ c, mj_k (mj_pI G13 3 1 (nI 0)) c = mj_k G4 c ∧ mj_l (mj_pI G13 3 1 (nI 0)) c = mj_l G4 c := fun c => ⟨(k13 c).1.trans (k8 c), (k13 c).2.trans (by rw [e8]; rfl)⟩
  have r8 : ∀ c j, ¬ (c = mj_n G + 1 ∧ j = 0) → mj_r G8 c j = mj_r G4 c j := fun c j q => by rw [e8]; exact if_neg q
  have r80 : mj_r G8 (mj_n G + 1) 0 = v5 := by rw [e8]; exact z_rRs
  have r7 : mj_r (mj_pI G13 3 1 (nI 0)) 7 t = mj_n G + 1 := (r13 7 t (by omega)).trans z_rRs
  have nH : mj_n (mj_pI G13 3 1 (nI 0)) = mj_n G4 := n13.trans (by rw [e8]; rfl)
  have uH : mj_u (mj_pI G13 3 1 (nI 0)) = mj_u G4 := u13.trans (by rw [e8]; rfl)
  have FH : g3 3 t G (mj_pI G13 3 1 (nI 0)) := g3_t (g3_fn F8) (g3_t (g3_R (Or.inr (Or.inl ⟨rfl, rfl⟩))) (g3_t (F13 3 t) (g3_I (Or.inr rfl))))
  have z31 : mj_i (mj_pI G13 3 1 (nI 0)) 3 1 = nI 0 := z_iIs
  have z13' : ∀ i, i < 10 → mj_r (mj_pI G13 3 1 (nI 0)) (1597 + 8 * i) 0 = 0 := z13
  have sH : cs_S (mj_pI G13 3 1 (nI 0)) := cs_pI s13
  generalize mj_pI G13 3 1 (nI 0) = H at rT iT kT r7 nH uH FH z31 z13' sH ⊢
  have kN : mj_k H (mj_n G) = 8 := (kT _).1.trans rx1.2.1
  have eT : mj_r H (mj_n G) 3 = mj_n G + 1 := (rT _ _ (by omega) (by omega)).trans r83
  rw [eT]
  refine ⟨kN, (kT _).1.trans rx4, fun hJ => ?_⟩
  obtain ⟨t1, t2, t3, t4, t5⟩ := hN
  obtain ⟨c1, c2⟩ := ct_all hs.2.1 hP hB
  rw [show mj_i H (mj_n G + 1) 2 = nI (ct (ls_w s) (ls_n s)) from (iT _ _ (by omega)).trans (t2.trans (by rw [c1]))]
  have hpa : ∃ p, pa_t (ls_w s) p ∧ pa = sh p := by
    rcases hP with ⟨-, y1, y2⟩ | ⟨-, y1, y2, y3, -, y4⟩
    · exact ⟨0, ⟨by decide, Or.inl ⟨rfl, y2⟩⟩, y1⟩
    · have y3' : 48 ≤ ls_w s 2 ∧ ls_w s 2 ≤ 57 := y3
      exact ⟨ls_w s 2 - 48 + 1, ⟨by omega, Or.inr ⟨y1, y2, y3, rfl⟩⟩, y4⟩
  obtain ⟨p, hp, epa⟩ := hpa
  have ha : gA 3 := Or.inl rfl
  have hbH := iv_end hJ (by omega)
  obtain ⟨g1, g2⟩ := hh_g3 (ρ' := ro_0 ρ (mj_n G)) h ha FH sH hbH ro_0e
  have hAo := fA_g3 (ρ' := ro_0 ρ (mj_n G)) hS ha FH ro_0e h.2.1.1.2.2.2.1
  have hBH : tb_B k (fun c => u_A (ls_u s) c ∨ (mj_n G + 4 ≤ c ∧ c < mj_n G4)) H (nI t) (Int32.ofInt (-1)) v5 (ls_w s) s0 (ls_n s) L := tb_mono _ (fun c hc => Or.inr hc) (fun c hc => ⟨(kT c).1, (kT c).2, fun j => (rT c j (by have := hc.1; omega) (by have := hc.1; omega)).trans (r8 c j (by have := hc.1; omega)), fun j => iT c j (by have := hc.1; omega)⟩) (Nat.le_refl _) hB
  have fx : ∀ cc g, q_nd (tl_fx (ls_w s) cc (48 + g) L) = tl_fd (ls_w s) cc g L := fun cc g => by
    rw [tl_fd_x]
    cases tl_fx (ls_w s) cc (48 + g) L <;> rfl
  have fxn : ∀ cc g x, tl_fx (ls_w s) cc (48 + g) L = some x → x.2 ≠ 0 := fun cc g x q => tb_nz hB x (tl_fx_in q).1
  refine hK p v5 L (fun c => u_A (ls_u s) c ∨ (mj_n G + 4 ≤ c ∧ c < mj_n G4)) H ⟨g1, wC_of (fun t' ht' => ?_) (fun c hc => ?_) (fun j hj => ?_) g2, fgC_0 z13', yO_g3 hS ha FH h.2.2.2.1, yB_g3 hS ha FH h.2.2.2.2.1, ⟨z31, fun k hk => absurd hk (Nat.not_lt_zero k)⟩, yS_g3 hS ha FH h.2.2.2.2.2.2⟩ ⟨⟨hs.1.1, hs.1.2.1, hs.1.2.2.1, fun T hT => ?_⟩, tx_W0, hs.2.2⟩ (yR_F (yR_g3 (cc := 167) (e := 1949) h ha FH (by omega) (by omega)) (by decide) (by decide)) hp c2
  · by_cases q : t' = t
    · subst q
      have e1 : u_pa (wo_t (ls_u s) t' (ls_w s) (ls_n s) p v5 L (fun c => u_A (ls_u s) c ∨ (mj_n G + 4 ≤ c ∧ c < mj_n G4)) H) t' = p := g_us
      have e2 : u_bd (wo_t (ls_u s) t' (ls_w s) (ls_n s) p v5 L (fun c => u_A (ls_u s) c ∨ (mj_n G + 4 ≤ c ∧ c < mj_n G4)) H) t' = v5 := g_us
      have e3 : u_w (wo_t (ls_u s) t' (ls_w s) (ls_n s) p v5 L (fun c => u_A (ls_u s) c ∨ (mj_n G + 4 ≤ c ∧ c < mj_n G4)) H) t' = ls_w s := g_us
      have e4 : u_L (wo_t (ls_u s) t' (ls_w s) (ls_n s) p v5 L (fun c => u_A (ls_u s) c ∨ (mj_n G + 4 ≤ c ∧ c < mj_n G4)) H) t' = L := g_us
      show tmC (wo_t (ls_u s) t' (ls_w s) (ls_n s) p v5 L (fun c => u_A (ls_u s) c ∨ (mj_n G + 4 ≤ c ∧ c < mj_n G4)) H) (ro_0 ρ (mj_n G)) H t'
      have a4 : mj_r H (mj_n G + 1) 4 = mj_n G + 2 := (rT _ _ (by omega) (by omega)).trans ((r8 _ _ (by omega)).trans rx5)
      have a5 : mj_r H (mj_n G + 1) 5 = mj_n G + 3 := (rT _ _ (by omega) (by omega)).trans ((r8 _ _ (by omega)).trans rx6)
      unfold tmC u_qb u_qm
      rw [r7, e1, e2, e3, e4]
      refine ⟨⟨Or.inr (by omega), ro_0i (by omega) (by omega), by omega, (kT _).1.trans rx4, (iT _ _ (by omega)).trans (t1.trans epa), (rT _ _ (by omega) (by omega)).trans r80, hp.1⟩, fun j hj => ?_, fun g hg => ?_, fun i hi => ?_⟩
      · rcases hj with e | e
        · subst e
          rw [a4]
          exact ⟨Or.inr (by omega), ro_0i (by omega) (by omega), by omega, by rw [(kT _).1, rx7]; decide, (kT _).2.trans rx9⟩
        · subst e
          rw [a5]
          exact ⟨Or.inr (by omega), ro_0i (by omega) (by omega), by omega, by rw [(kT _).1, rx8]; decide, (kT _).2.trans rx10⟩
      · rw [a4, a5, fx, fx]
        exact ⟨⟨(rT _ _ (by omega) (by omega)).trans ((r8 _ _ (by omega)).trans (t4 g hg)), fxn 35 g⟩, (rT _ _ (by omega) (by omega)).trans ((r8 _ _ (by omega)).trans (t5 g hg)), fxn 36 g⟩
      · rw [iT _ _ (by omega)]
        exact t3 i hi
    · exact tm_ne (tm_g3 (t0 := t) hS ha FH ro_0e q (show tmC (ls_u s) ρ G t' from wC_to h.2.1 ht')) q
  · rcases hc with hc | hc
    · obtain ⟨y1, y2, y3, -⟩ := hAo c hc
      exact ⟨y1, y2, y3, rfl, rfl, fun _ => rfl, fun _ => rfl⟩
    · exact ⟨by omega, by omega, ro_0i (by omega) (by omega), rfl, rfl, fun _ => rfl, fun _ => rfl⟩
  · obtain ⟨o1, o2, o3⟩ := h.2.1.1.2.2.2.2 j hj
    exact ⟨o1, o2, fm_g3 hS ha FH ro_0e hj (by omega) o2 o3⟩
  · by_cases q : T = t
    · subst q
      show tx_W (g_u (u_w (ls_u s)) T (ls_w s) T) (g_u (u_n (ls_u s)) T (ls_n s) T) ∧ g_u (u_pa (ls_u s)) T p T ≤ 10 ∧ ∃ s1 k1, tp_P (g_u (u_w (ls_u s)) T (ls_w s) T) s1 (sh (g_u (u_pa (ls_u s)) T p T)) ∧ tb_B k1 (fun c => u_A (ls_u s) c ∨ (mj_n G + 4 ≤ c ∧ c < mj_n G4)) H (nI T) (Int32.ofInt (-1)) (g_u (u_bd (ls_u s)) T v5 T) (g_u (u_w (ls_u s)) T (ls_w s) T) s1 (g_u (u_n (ls_u s)) T (ls_n s) T) (g_u (u_L (ls_u s)) T L T)
      rw [g_us, g_us, g_us, g_us, g_us]
      exact ⟨hs.2.1, hp.1, s0, k, by rw [← epa]; exact hP, hBH⟩
    · show tx_W (g_u (u_w (ls_u s)) t (ls_w s) T) (g_u (u_n (ls_u s)) t (ls_n s) T) ∧ g_u (u_pa (ls_u s)) t p T ≤ 10 ∧ ∃ s1 k1, tp_P (g_u (u_w (ls_u s)) t (ls_w s) T) s1 (sh (g_u (u_pa (ls_u s)) t p T)) ∧ tb_B k1 (fun c => u_A (ls_u s) c ∨ (mj_n G + 4 ≤ c ∧ c < mj_n G4)) H (nI T) (Int32.ofInt (-1)) (g_u (u_bd (ls_u s)) t v5 T) (g_u (u_w (ls_u s)) t (ls_w s) T) s1 (g_u (u_n (ls_u s)) t (ls_n s) T) (g_u (u_L (ls_u s)) t L T)
      rw [g_un q, g_un q, g_un q, g_un q, g_un q]
      obtain ⟨y1, y2, s1, k1, y3, y4⟩ := hs.1.2.2.2 T hT
      exact ⟨y1, y2, s1, k1, y3, tb_mono _ (fun c hc => Or.inl hc) (fun c hc => (hAo c hc).2.2.2) (Nat.le_refl _) y4⟩
end ZZZC
