/-! TEXTS ARE READ AS TEMPLATES, by both sides alike -/
/-- what was there is as it was -/
def fn_F (G G' : mj_G) : Prop := mj_n G ≤ mj_n G' ∧ ∀ a, a < mj_n G → mj_k G' a = mj_k G a ∧ mj_l G' a = mj_l G a ∧ (∀ j, mj_r G' a j = mj_r G a j) ∧ ∀ j, mj_i G' a j = mj_i G a j
theorem fn_rfl {G : mj_G} : fn_F G G := ⟨Nat.le_refl _, fun _ _ => ⟨rfl, rfl, fun _ => rfl, fun _ => rfl⟩⟩
theorem fn_al {G : mj_G} {kd len : Nat} {row : Nat → Int32} : fn_F G (mj_al G kd len row) := by
  refine ⟨Nat.le_succ _, fun a ha => ?_⟩
  have hne : a ≠ mj_n G := by omega
  exact ⟨if_neg hne, if_neg hne, fun _ => if_neg hne, fun _ => if_neg hne⟩
theorem fn_trans {G G1 G2 : mj_G} (h1 : fn_F G G1) (h2 : fn_F G1 G2) : fn_F G G2 := by
  refine ⟨Nat.le_trans h1.1 h2.1, fun a ha => ?_⟩
  obtain ⟨a1, a2, a3, a4⟩ := h1.2 a ha
  obtain ⟨b1, b2, b3, b4⟩ := h2.2 a (Nat.lt_of_lt_of_le ha h1.1)
  exact ⟨b1.trans a1, b2.trans a2, fun j => (b3 j).trans (a3 j), fun j => (b4 j).trans (a4 j)⟩
theorem fn_I {G G1 : mj_G} {a k : Nat} {x : Int32} (h : fn_F G G1) (ha : mj_n G ≤ a) : fn_F G (mj_pI G1 a k x) := by
  refine ⟨h.1, fun b hb => ?_⟩
  obtain ⟨a1, a2, a3, a4⟩ := h.2 b hb
  exact ⟨a1, a2, a3, fun j => (z_iIn (by omega)).trans (a4 j)⟩
theorem fn_R {G G1 : mj_G} {a k v : Nat} (h : fn_F G G1) (ha : mj_n G ≤ a) : fn_F G (mj_pR G1 a k v) := by
  refine ⟨h.1, fun b hb => ?_⟩
  obtain ⟨a1, a2, a3, a4⟩ := h.2 b hb
  exact ⟨a1, a2, fun j => (z_rRn (by omega)).trans (a3 j), a4⟩
theorem fn_A {G G1 : mj_G} {kd len : Nat} {row : Nat → Int32} (h : fn_F G G1) : fn_F G (mj_al G1 kd len row) := fn_trans h fn_al
theorem fn_rb {G G1 G' : mj_G} {rd T B M x y : Nat} (h : fn_F G G1) (h2 : rb_F rd T B M x y G1 G') (h3 : mj_n G ≤ rd) (h4 : mj_n G ≤ T) (h5 : mj_n G ≤ B) (h6 : mj_n G ≤ M) (h7 : mj_n G ≤ x) : fn_F G G' := by
  refine ⟨Nat.le_trans h.1 h2.1, fun a ha => ?_⟩
  obtain ⟨a1, a2, a3, a4⟩ := h.2 a ha
  obtain ⟨b1, b2, b3, b4⟩ := h2.2 a (Nat.lt_of_lt_of_le ha h.1)
  exact ⟨b1.trans a1, b2.trans a2, fun j => (b3 j (fun q => by have := q.1; omega) (by omega) (by omega)).trans (a3 j), fun j => (b4 j (fun q => by have := q.1; omega) (by omega)).trans (a4 j)⟩
section FT
variable {w : Nat → Nat} {n : Nat}
/-- the reader, its template and that one's rows, as they are made -/
def rk_G (G : mj_G) (c hm : Int32) : mj_G := mj_pI (mj_pI (mj_pR (mj_pI (mj_pR (mj_pR (mj_al (mj_pR (mj_al (mj_pI (mj_al (mj_al G 8 6 (fun _ => 0)) 11 6 (fun _ => 0)) (mj_n G + 1) 1 (Int32.ofInt (-1))) 35 10 (fun _ => 0)) (mj_n G + 1) 4 (mj_n G + 2)) 35 10 (fun _ => 0)) (mj_n G + 1) 5 (mj_n G + 3)) (mj_n G) 3 (mj_n G + 1)) (mj_n G) 5 (Int32.ofInt (-1))) (mj_n G) 0 4) (mj_n G) 1 c) (mj_n G) 2 hm
theorem rk_n {G : mj_G} {c hm : Int32} : mj_n (rk_G G c hm) = mj_n G + 4 := rfl
theorem rk_u {G : mj_G} {c hm : Int32} : mj_u (rk_G G c hm) = mj_u G + 32 := rfl
theorem rk_F {G : mj_G} {c hm : Int32} : fn_F G (rk_G G c hm) := by
  have e1 : fn_F G (mj_al (mj_al G 8 6 (fun _ => 0)) 11 6 (fun _ => 0)) := fn_A (fn_A fn_rfl)
  have e2 := fn_I (a := mj_n G + 1) (k := 1) (x := Int32.ofInt (-1)) e1 (by omega)
  have e3 := fn_R (a := mj_n G + 1) (k := 4) (v := mj_n G + 2) (fn_A (kd := 35) (len := 10) (row := fun _ => 0) e2) (by omega)
  have e4 := fn_R (a := mj_n G + 1) (k := 5) (v := mj_n G + 3) (fn_A (kd := 35) (len := 10) (row := fun _ => 0) e3) (by omega)
  exact fn_I (fn_I (fn_R (fn_I (fn_R e4 (Nat.le_refl _)) (Nat.le_refl _)) (Nat.le_refl _)) (Nat.le_refl _)) (Nat.le_refl _)
theorem rk_S {G : mj_G} {c hm : Int32} (hS : cs_S G) : cs_S (rk_G G c hm) := by
  have h := hS.1
  have e1 : cs_S (mj_pR (mj_al (mj_pI (mj_al (mj_al G 8 6 (fun _ => 0)) 11 6 (fun _ => 0)) (mj_n G + 1) 1 (Int32.ofInt (-1))) 35 10 (fun _ => 0)) (mj_n G + 1) 4 (mj_n G + 2)) := cs_pRg (cs_al (cs_pI (cs_al (cs_al hS)))) (by omega)
  exact cs_pI (cs_pI (cs_pRg (cs_pI (cs_pRg (cs_pRg (cs_al e1) (by omega)) (by omega))) (by omega)))
theorem rk_k {G : mj_G} {c hm : Int32} : mj_k (rk_G G c hm) (mj_n G) = 8 ∧ mj_k (rk_G G c hm) (mj_n G + 1) = 11 ∧ mj_k (rk_G G c hm) (mj_n G + 2) = 35 ∧ mj_k (rk_G G c hm) (mj_n G + 3) = 35 ∧ mj_l (rk_G G c hm) (mj_n G + 2) = 10 ∧ mj_l (rk_G G c hm) (mj_n G + 3) = 10 := by
  have a1 : mj_n G ≠ mj_n G + 1 := by omega
  have a2 : mj_n G ≠ mj_n G + 2 := by omega
  have a3 : mj_n G ≠ mj_n G + 3 := by omega
  have a4 : mj_n G + 1 ≠ mj_n G + 2 := by omega
  have a5 : mj_n G + 1 ≠ mj_n G + 3 := by omega
  have a6 : mj_n G + 2 ≠ mj_n G + 3 := by omega
  refine ⟨?_, ?_, ?_, ?_, ?_, ?_⟩
  · exact (if_neg a3).trans ((if_neg a2).trans ((if_neg a1).trans (if_pos rfl)))
  · exact (if_neg a5).trans ((if_neg a4).trans (if_pos rfl))
  · exact (if_neg a6).trans (if_pos rfl)
  · exact if_pos rfl
  · exact (if_neg a6).trans (if_pos rfl)
  · exact if_pos rfl
theorem rk_rn {G : mj_G} {c hm : Int32} : mj_r (rk_G G c hm) (mj_n G) 3 = mj_n G + 1 ∧ mj_r (rk_G G c hm) (mj_n G) 0 = 4 ∧ mj_r (rk_G G c hm) (mj_n G + 1) 4 = mj_n G + 2 ∧ mj_r (rk_G G c hm) (mj_n G + 1) 5 = mj_n G + 3 ∧ mj_r (rk_G G c hm) (mj_n G + 1) 0 = 0 ∧ (∀ j, mj_r (rk_G G c hm) (mj_n G + 2) j = 0) ∧ ∀ j, mj_r (rk_G G c hm) (mj_n G + 3) j = 0 := by
  have a1 : mj_n G + 1 ≠ mj_n G := by omega
  have a2 : mj_n G + 2 ≠ mj_n G := by omega
  have a3 : mj_n G + 3 ≠ mj_n G := by omega
  have a4 : mj_n G + 2 ≠ mj_n G + 1 := by omega
  have a5 : mj_n G + 3 ≠ mj_n G + 1 := by omega
  have a6 : mj_n G + 2 ≠ mj_n G + 3 := by omega
  have a7 : mj_n G + 1 ≠ mj_n G + 3 := by omega
  have a8 : mj_n G + 1 ≠ mj_n G + 2 := by omega
  refine ⟨?_, ?_, ?_, ?_, ?_, fun j => ?_, fun j => ?_⟩
  · exact (if_neg (fun q => absurd q.2 (by decide))).trans (if_pos ⟨rfl, rfl⟩)
  · exact if_pos ⟨rfl, rfl⟩
  · exact (if_neg (fun q => a1 q.1)).trans ((if_neg (fun q => a1 q.1)).trans ((if_neg (fun q => absurd q.2 (by decide))).trans ((if_neg a7).trans (if_pos ⟨rfl, rfl⟩))))
  · exact (if_neg (fun q => a1 q.1)).trans ((if_neg (fun q => a1 q.1)).trans (if_pos ⟨rfl, rfl⟩))
  · exact (if_neg (fun q => a1 q.1)).trans ((if_neg (fun q => a1 q.1)).trans ((if_neg (fun q => absurd q.2 (by decide))).trans ((if_neg a7).trans ((if_neg (fun q => absurd q.2 (by decide))).trans ((if_neg a8).trans (if_pos rfl))))))
  · exact (if_neg (fun q => a2 q.1)).trans ((if_neg (fun q => a2 q.1)).trans ((if_neg (fun q => a4 q.1)).trans ((if_neg a6).trans ((if_neg (fun q => a4 q.1)).trans (if_pos rfl)))))
  · exact (if_neg (fun q => a3 q.1)).trans ((if_neg (fun q => a3 q.1)).trans ((if_neg (fun q => a5 q.1)).trans (if_pos rfl)))
theorem rk_i {G : mj_G} {c hm : Int32} : mj_i (rk_G G c hm) (mj_n G) 1 = c ∧ mj_i (rk_G G c hm) (mj_n G) 2 = hm ∧ mj_i (rk_G G c hm) (mj_n G) 4 = nI 0 ∧ mj_i (rk_G G c hm) (mj_n G) 5 = Int32.ofInt (-1) ∧ mj_i (rk_G G c hm) (mj_n G + 1) 1 = Int32.ofInt (-1) ∧ mj_i (rk_G G c hm) (mj_n G + 1) 2 = nI 0 ∧ mj_i (rk_G G c hm) (mj_n G + 1) 3 = nI 0 := by
  have a1 : mj_n G + 1 ≠ mj_n G := by omega
  have a2 : mj_n G ≠ mj_n G + 1 := by omega
  have b2 : mj_n G ≠ mj_n G + 2 := by omega
  have b3 : mj_n G ≠ mj_n G + 3 := by omega
  have c2 : mj_n G + 1 ≠ mj_n G + 2 := by omega
  have c3 : mj_n G + 1 ≠ mj_n G + 3 := by omega
  have n2 : ∀ {x : Nat} {i j : Nat}, ¬ i = j → ¬ (x = x ∧ i = j) := fun h q => h q.2
  refine ⟨?_, ?_, ?_, ?_, ?_, ?_, ?_⟩
  · exact (if_neg (n2 (by decide))).trans (if_pos ⟨rfl, rfl⟩)
  · exact if_pos ⟨rfl, rfl⟩
  · exact (if_neg (n2 (by decide))).trans ((if_neg (n2 (by decide))).trans ((if_neg (n2 (by decide))).trans ((if_neg b3).trans ((if_neg b2).trans ((if_neg (fun q => a2 q.1)).trans ((if_neg a2).trans (if_pos rfl)))))))
  · exact (if_neg (n2 (by decide))).trans ((if_neg (n2 (by decide))).trans (if_pos ⟨rfl, rfl⟩))
  · exact (if_neg (fun q => a1 q.1)).trans ((if_neg (fun q => a1 q.1)).trans ((if_neg (fun q => a1 q.1)).trans ((if_neg c3).trans ((if_neg c2).trans (if_pos ⟨rfl, rfl⟩)))))
  · exact (if_neg (fun q => a1 q.1)).trans ((if_neg (fun q => a1 q.1)).trans ((if_neg (fun q => a1 q.1)).trans ((if_neg c3).trans ((if_neg c2).trans ((if_neg (n2 (by decide))).trans (if_pos rfl))))))
  · exact (if_neg (fun q => a1 q.1)).trans ((if_neg (fun q => a1 q.1)).trans ((if_neg (fun q => a1 q.1)).trans ((if_neg c3).trans ((if_neg c2).trans ((if_neg (n2 (by decide))).trans (if_pos rfl))))))
theorem c_Rd_init {d : Nat} {c hm : Int32} {G : mj_G} {K : mj_G → Prop} (hS : cs_S G) (hd : 1 ≤ d) (h : K (rk_G G c hm)) : Rd_init d (mj_n G) 4 c hm (mj_al G 8 6 (fun _ => 0)) K := by
  obtain ⟨d, rfl⟩ : ∃ e, d = e + 1 := ⟨d - 1, by omega⟩
  have k0 : mj_k (mj_al G 8 6 (fun _ => 0)) (mj_n G) = 8 := z_kAs
  have a1 : mj_n G ≠ mj_n G + 1 := by omega
  have a2 : mj_n G ≠ mj_n G + 2 := by omega
  have a3 : mj_n G ≠ mj_n G + 3 := by omega
  have a4 : mj_n G + 1 ≠ mj_n G + 2 := by omega
  have a5 : mj_n G + 1 ≠ mj_n G + 3 := by omega
  refine w_Rd_init (cs_al hS) ⟨by rw [k0]; decide, ?_⟩
  rintro _ rfl
  have k1 : mj_k (mj_al (mj_al G 8 6 (fun _ => 0)) 11 6 (fun _ => 0)) (mj_n G + 1) = 11 := if_pos rfl
  refine w_Te_init (cs_al (cs_al hS)) ⟨by show mj_k _ (mj_n G + 1) ≠ 0; rw [k1]; decide, k1, ?_⟩
  rintro _ rfl
  rintro _ rfl
  refine ⟨(if_neg a4).trans k1, ?_⟩
  rintro _ rfl
  rintro _ rfl
  refine ⟨(if_neg a5).trans ((if_neg a4).trans k1), ?_⟩
  rintro _ rfl
  refine ⟨(if_neg a3).trans ((if_neg a2).trans ((if_neg a1).trans k0)), ?_⟩
  rintro _ rfl
  rintro _ rfl
  rintro _ rfl
  rintro _ rfl
  rintro _ rfl
  exact h
/-- a text as a template: the way ahead of its body, and its parent -/
def tp_P (w : Nat → Nat) (s : Nat) (pa : Int32) : Prop := (s = 0 ∧ pa = Int32.ofInt (-1) ∧ ¬ (w 0 = 123 ∧ w 1 = 60)) ∨ (s = 4 ∧ w 0 = 123 ∧ w 1 = 60 ∧ tx_D (w 2) ∧ w 3 = 125 ∧ pa = nI (w 2 - 48))
/-- how reading a whole text ends: rd reads, T is the template -/
def rw_X (w : Nat → Nat) (n : Nat) (hm : Int32) (G : mj_G) : Nat ⊕ Nat → Nat → mj_G → Prop
  | .inl q, r, G' => q = n ∧ mj_i G' (mj_n G) 5 = Int32.ofInt (-1) ∧ ∃ s pa L k, tp_P w s pa ∧ tb_B k (fe_I (mj_n G + 4) (mj_n G')) G' hm (Int32.ofInt (-1)) r w s n L ∧ tn_S G' (mj_n G + 1) (mj_n G + 2) (mj_n G + 3) w L (L.length + (if s = 0 then 0 else 1)) pa
  | .inr e, _, G' => e ≤ n ∧ mj_i G' (mj_n G) 5 = nI e
def rw_C (w : Nat → Nat) (n : Nat) (res : Nat ⊕ Nat) : Prop := ∀ d G hm K, 8 * n + 100 ≤ d → cs_S G → tx_W w n → (∀ k, k < n → mj_i G 4 k = nI (w k)) →
  (∀ r G', cs_S G' → fn_F G G' → rx_C G' (mj_n G) w n (mj_n G + 1) (mj_n G + 2) (mj_n G + 3) hm → mj_n G' ≤ mj_n G + 2 * n + 7 → mj_u G' ≤ mj_u G + 23 * n + 109 → rw_X w n hm G res r G' → K r G') → Rd_readBody d (mj_n G) (nI 0) (Int32.ofInt (-1)) (nI 0) (rk_G G (nI n) hm) K
def rw_M (w : Nat → Nat) (n : Nat) (res : Nat ⊕ Nat) : Prop := ∀ d G f K, 8 * n + 100 ≤ d → mm_S G → pt_T f w n → (∀ p, K (match res with | .inl _ => Int32.ofInt (-1) | .inr e => nI e) (pt_a f p)) → m_faultOf G d f K
theorem rw_rx {G : mj_G} {hm : Int32} (hS : cs_S G) (hW : tx_W w n) (h4 : ∀ k, k < n → mj_i G 4 k = nI (w k)) : rx_C (rk_G G (nI n) hm) (mj_n G) w n (mj_n G + 1) (mj_n G + 2) (mj_n G + 3) hm := by
  have hS0 := hS.1
  obtain ⟨k1, k2, k3, k4, k5, k6⟩ := rk_k (G := G) (c := nI n) (hm := hm)
  obtain ⟨r1, r2, r3, r4, -⟩ := rk_rn (G := G) (c := nI n) (hm := hm)
  obtain ⟨i1, i2, -⟩ := rk_i (G := G) (c := nI n) (hm := hm)
  exact ⟨⟨hW, k1, hS0, by rw [rk_n]; omega, r2, i1, fun k hk => (rk_F.2 4 (by omega)).2.2.2 k |>.trans (h4 k hk)⟩, r1, i2, k2, r3, r4, k3, k4, k5, k6, by omega, by omega, by omega, by omega, by rw [rk_n]; omega, by rw [rk_n]; omega, by rw [rk_n]; omega⟩
theorem rw_tn {G : mj_G} {hm : Int32} : tn_S (rk_G G (nI n) hm) (mj_n G + 1) (mj_n G + 2) (mj_n G + 3) w [] 0 (Int32.ofInt (-1)) := by
  obtain ⟨-, -, -, -, -, r6, r7⟩ := rk_rn (G := G) (c := nI n) (hm := hm)
  obtain ⟨-, -, -, -, i5, i6, i7⟩ := rk_i (G := G) (c := nI n) (hm := hm)
  refine ⟨i5, i6, fun i hi => ?_, fun d _ => r6 d, fun d _ => r7 d⟩
  rw [i7]
  exact ⟨fun h => absurd h bt_0, fun ⟨x, hx, _⟩ => nomatch hx⟩
/-- behind the way ahead, from s on, with t tags met -/
theorem rw_body (hW : tx_W w n) {s t : Nat} {pa hm : Int32} {G G1 : mj_G} {res : Nat ⊕ Nat} {d : Nat} {K : Nat → mj_G → Prop} (hd : 8 * n + 90 ≤ d) (hS1 : cs_S G1) (hs : s ≤ n) (hB : jb_C w n (n - s) s 0 res) (hok : rd_okP n s res) (hend : ∀ q, res = .inl q → jb_end w n 0 q) (hF : fn_F G G1)
    (hC : rx_C G1 (mj_n G) w n (mj_n G + 1) (mj_n G + 2) (mj_n G + 3) hm) (hO : rd_O G1 (mj_n G) s) (ht : tn_S G1 (mj_n G + 1) (mj_n G + 2) (mj_n G + 3) w [] t pa) (htt : t = (if s = 0 then 0 else 1)) (hn1 : mj_n G1 = mj_n G + 4) (hu1 : mj_u G1 = mj_u G + 32) (hP : tp_P w s pa)
    (hK : ∀ r G', cs_S G' → fn_F G G' → rx_C G' (mj_n G) w n (mj_n G + 1) (mj_n G + 2) (mj_n G + 3) hm → mj_n G' ≤ mj_n G + 2 * n + 7 → mj_u G' ≤ mj_u G + 23 * n + 109 → rw_X w n hm G res r G' → K r G') : Rd_readBody_40 d (mj_n G) (nI 0) (Int32.ofInt (-1)) (nI 0) 0 0 (nI 0) G1 K := by
  refine hB d G1 (mj_n G) _ _ _ hm (Int32.ofInt (-1)) 0 [] t pa 0 0 (mj_n G1) 0 K (by omega) hS1 hC hO (by omega) (by omega) (Or.inl ⟨rfl, rfl, rfl⟩) (fun _ h => nomatch h) ht (fun r G' hS' hX => ?_)
  cases res with
  | inl q =>
    obtain ⟨x1, x2, -, ⟨L', k', x3, x4⟩, x5, x6⟩ := hX
    have hq : q = n := by
      rcases hend q rfl with ⟨-, h⟩ | ⟨-, ⟨-, h⟩ | ⟨-, h⟩⟩
      · exact h
      · exact absurd h (by decide)
      · exact absurd h (by decide)
    subst hq
    refine hK r G' hS' (fn_rb hF x1 (Nat.le_refl _) (by omega) (by omega) (by omega) (by omega)) (rx_K hC x1 (Or.inr (Nat.le_refl _))) (by omega) (by omega) ⟨rfl, x2.2, s, pa, L', k', hP, tb_mono w (fun a ha => ⟨by have := ha.1; omega, ha.2⟩) (fun a _ => ⟨rfl, rfl, fun _ => rfl, fun _ => rfl⟩) (Nat.le_refl _) x3, ?_⟩
    rw [← htt, Nat.add_comm L'.length t]
    exact x4
  | inr e =>
    obtain ⟨x1, x2, x5, x6⟩ := hX
    have he : e ≤ n := hok.2
    exact hK r G' hS' (fn_rb hF x1 (Nat.le_refl _) (by omega) (by omega) (by omega) (by omega)) (rx_K hC x1 (Or.inr (Nat.le_refl _))) (by omega) (by omega) ⟨he, x2⟩
theorem rw_mod {s d : Nat} {G : mj_G} {f : mm_F} {K : Int32 → mm_F → Prop} {res : Nat ⊕ Nat} (hd : 8 * n + 90 ≤ d) (hS : mm_S G) (hT : pt_T f w n) (hW : tx_W w n) (hs : s ≤ n) (hM : jb_M w n (n - s) s 0 res) (hK : ∀ p, K (match res with | .inl _ => Int32.ofInt (-1) | .inr e => nI e) (pt_a f p)) :
    m_takesBody G d (nI 0) (nI 0) (pt_a f s) (fun v2 f1 => mm_br (v2 = (nI 1)) (K ((Int32.ofInt (-1))) f1) (K (f1 1714 3) f1)) := by
  refine hM d G f _ (by omega) hS hT ?_
  cases res with
  | inl q => exact ⟨fun _ => z_bt rfl (hK q), fun h => absurd rfl h⟩
  | inr e =>
    intro v hv
    rcases hv with rfl | ⟨-, h⟩
    · refine z_bf (by decide) ?_
      rw [pt_a3]
      exact hK e
    · exact absurd rfl h
theorem rw_n (hW : tx_W w n) (h0 : ¬ (w 0 = 123 ∧ w 1 = 60)) : ∃ res, rw_C w n res ∧ rw_M w n res := by
  have hn := hW.1
  have hw2 := tx_le hW 2
  obtain ⟨res, b1, b2, b3, b4⟩ := jb_all hW n 0 0 (by decide) (Nat.zero_le _) (Nat.le_refl _)
  refine ⟨res, fun d G hm K hd hS hW' h4 hK => ?_, fun d G f K hd hS hT hK => ?_⟩
  · obtain ⟨d, rfl⟩ : ∃ e, d = e + 1 := ⟨d - 1, by omega⟩
    have hC := rw_rx (hm := hm) hS hW h4
    obtain ⟨-, -, i3, i4, -⟩ := rk_i (G := G) (c := nI n) (hm := hm)
    have lp : Rd_readBody_40 (d + 1) (mj_n G) (nI 0) (Int32.ofInt (-1)) (nI 0) 0 0 (nI 0) (rk_G G (nI n) hm) K := rw_body hW (by omega) (rk_S hS) (Nat.zero_le _) b3 b1 b2 rk_F hC ⟨i3, i4⟩ rw_tn rfl rk_n rk_u (Or.inl ⟨rfl, rfl, h0⟩) hK
    refine w_Rd_readBody (rk_S hS) ⟨hC.1.2.1, ?_⟩
    rw [i3]
    refine z_bt rfl (c_sign (rk_S hS) hC.1 (by decide) ?_)
    rw [z_eq (by have := tx_le hW 0; omega) (by decide)]
    refine z_br (fun h => ⟨hC.1.2.1, c_sign (rk_S hS) hC.1 (by decide) ?_⟩) (fun _ => lp)
    rw [z_eq (by have := tx_le hW 1; omega) (by decide)]
    exact z_bf (fun h1 => h0 ⟨h, h1⟩) lp
  · obtain ⟨d, rfl⟩ : ∃ e, d = e + 1 := ⟨d - 1, by omega⟩
    have lm := rw_mod (s := 0) (d := d) (by omega) hS hT hW (Nat.zero_le _) b4 hK
    have e2 : pt_a f 0 1714 2 = nI n := (z_u2m (by decide)).trans hT.1
    refine w_m_faultOf hS ?_
    show mm_br (pt_a f 0 1714 2 ≤ nI 1) _ _
    rw [e2, z_le (by omega) (by decide)]
    refine z_br (fun _ => lm) (fun hn1 => z_ixi (by decide) (by decide) ?_)
    rw [show mj_u2 f 1714 3 (nI 0) 1715 0 = nI (w 0) from (z_u2n (by decide)).trans (hT.2 0 (by omega)), z_eq (by have := tx_le hW 0; omega) (by decide)]
    refine z_br (fun h => z_ixi (by decide) (by decide) ?_) (fun _ => lm)
    rw [show mj_u2 f 1714 3 (nI 0) 1715 1 = nI (w 1) from (z_u2n (by decide)).trans (hT.2 1 (by omega)), z_eq (by have := tx_le hW 1; omega) (by decide)]
    exact z_bf (fun h1 => h0 ⟨h, h1⟩) lm
theorem rw_c (hW : tx_W w n) (h0 : w 0 = 123 ∧ w 1 = 60) (hn2 : 2 ≤ n) : ∀ d G hm K, 30 ≤ d → cs_S G → (∀ k, k < n → mj_i G 4 k = nI (w k)) →
    Rd_readParent d (mj_n G) (rk_G G (nI n) hm) (fun G8 => Rd_readBody_40 (d + 1) (mj_n G) (nI 0) (Int32.ofInt (-1)) (nI 0) 0 0 (nI 0) G8 K) → Rd_readBody (d + 1) (mj_n G) (nI 0) (Int32.ofInt (-1)) (nI 0) (rk_G G (nI n) hm) K := fun d G hm K hd hS h4 h => by
  have hn := hW.1
  have hw2 := tx_le hW 2
  have hC := rw_rx (hm := hm) hS hW h4
  obtain ⟨-, -, i3, i4, -⟩ := rk_i (G := G) (c := nI n) (hm := hm)
  refine w_Rd_readBody (rk_S hS) ⟨hC.1.2.1, ?_⟩
  rw [i3]
  refine z_bt rfl (c_sign (rk_S hS) hC.1 (by decide) ?_)
  refine z_bt (by rw [h0.1]) ⟨hC.1.2.1, c_sign (rk_S hS) hC.1 (by decide) ?_⟩
  exact z_bt (by rw [h0.2]) ⟨hC.1.2.1, h⟩
/-- behind {<, over any heap: the digit read, the place 3 or the fault 2 -/
theorem rw_p (hW : tx_W w n) {H : mj_G} {rd T B M d : Nat} {hm : Int32} {K : mj_G → Prop} (hd : 30 ≤ d) (hS : cs_S H) (hC : rx_C H rd w n T B M hm) (h5 : mj_i H rd 5 = Int32.ofInt (-1))
    (h : ∀ (x : Nat) (v : Int32) (G1 : mj_G), (tx_D (w 2) ∧ x = 4 ∧ v = nI (w 2 - 48)) ∨ (¬ tx_D (w 2) ∧ x = 5 ∧ v = Int32.ofInt (-1)) → cs_S G1 → (∀ x' y', rb_F rd T B M x' y' H G1) → mj_n G1 = mj_n H → mj_u G1 = mj_u H → (x = 4 → rd_O G1 rd 3) → (x = 5 → mj_i G1 rd 5 = nI 2) → mj_i G1 T 1 = v → (∀ j, j ≠ 1 → mj_i G1 T j = mj_i H T j) → (∀ a j, mj_r G1 a j = mj_r H a j) →
      Rd_pass d rd (nI 125) G1 (fun G8 => (mj_k G8 rd = 8) ∧ (mj_k G8 (mj_r G8 rd 3) = 11) ∧ ∀ G11, G11 = mj_pI G8 (mj_r G8 rd 3) 2 ((mj_i G8 (mj_r G8 rd 3) 2) + (nI 1)) → K G11)) :
    Rd_readParent (d + 1) rd H K := by
  have hw2 := tx_le hW 2
  have rT : rd ≠ T := z_kne hC.1.2.1 hC.2.2.2.1 (by decide)
  have hk8 := hC.1.2.1
  have hk11 := hC.2.2.2.1
  refine w_Rd_readParent hS ⟨hk8, ?_⟩
  rintro _ rfl
  rw [show mj_r (mj_pI H rd 4 (nI 2)) rd 3 = T from z_rIa.trans hC.2.1]
  have hR2 : rd_R (mj_pI H rd 4 (nI 2)) rd w n := fe_R hC.1 (fe_pI (by decide))
  refine c_readDigit (p := 2) (cs_pI hS) hR2 ⟨z_iIs, (z_iIm (by decide)).trans h5⟩ (by omega) (by decide) (fun hD => ⟨z_kIa.trans (z_kIa.trans hk11), ?_⟩) (fun hD => ⟨z_kIa.trans (z_kIa.trans hk11), ?_⟩)
  · rintro _ rfl
    refine ⟨z_kIa.trans (z_kIa.trans (z_kIa.trans hk8)), h 4 _ _ (Or.inl ⟨hD, rfl, rfl⟩) (cs_pI (cs_pI (cs_pI hS))) (fun x' y' => rb_trans (rb_rd (by decide)) (rb_trans (rb_rd (by decide)) rb_T)) rfl rfl (fun _ => ⟨(z_iIn rT).trans z_iIs, (z_iIn rT).trans ((z_iIm (by decide)).trans ((z_iIm (by decide)).trans h5))⟩) (fun q => absurd q (by decide)) z_iIs (fun j hj => (z_iIm hj).trans ((z_iIn (Ne.symm rT)).trans (z_iIn (Ne.symm rT)))) (fun _ _ => z_rIa.trans (z_rIa.trans z_rIa))⟩
  · rintro _ rfl
    refine ⟨z_kIa.trans (z_kIa.trans (z_kIa.trans hk8)), h 5 _ _ (Or.inr ⟨hD, rfl, rfl⟩) (cs_pI (cs_pI (cs_pI hS))) (fun x' y' => rb_trans (rb_rd (by decide)) (rb_trans (rb_rd (by decide)) rb_T)) rfl rfl (fun q => absurd q (by decide)) (fun _ => (z_iIn rT).trans z_iIs) z_iIs (fun j hj => (z_iIm hj).trans ((z_iIn (Ne.symm rT)).trans (z_iIn (Ne.symm rT)))) (fun _ _ => z_rIa.trans (z_rIa.trans z_rIa))⟩
/-- no digit -/
theorem rw_pd (hW : tx_W w n) (hD : ¬ tx_D (w 2)) {H : mj_G} {rd T B M d : Nat} {hm : Int32} {K : mj_G → Prop} (hd : 30 ≤ d) (hS : cs_S H) (hC : rx_C H rd w n T B M hm) (h5 : mj_i H rd 5 = Int32.ofInt (-1))
    (h : ∀ G1, cs_S G1 → (∀ x y, rb_F rd T B M x y H G1) → mj_n G1 = mj_n H → mj_u G1 = mj_u H → mj_i G1 rd 5 = nI 2 → K G1) : Rd_readParent (d + 1) rd H K := by
  have rT : rd ≠ T := z_kne hC.1.2.1 hC.2.2.2.1 (by decide)
  refine rw_p hW hd hS hC h5 (fun x v G1 hx hS1 F n1 u1 _ h51 _ _ _ => ?_)
  rcases hx with ⟨q, -⟩ | ⟨-, rfl, -⟩
  · exact absurd q hD
  have h52 := h51 rfl
  have C1 : rx_C G1 rd w n T B M hm := rx_K hC (F (mj_n H) 10) (Or.inr (Nat.le_refl _))
  refine c_passF hS1 C1.1 h52 (by decide) (by omega) ⟨C1.1.2.1, ?_⟩
  rw [C1.2.1]
  refine ⟨C1.2.2.2.1, ?_⟩
  rintro _ rfl
  exact h _ (cs_pI hS1) (fun x y => rb_trans (F x y) rb_T) n1 u1 ((z_iIn rT).trans h52)
/-- a digit -/
theorem rw_q (hW : tx_W w n) (hD : tx_D (w 2)) {H : mj_G} {rd T B M d : Nat} {hm : Int32} {K : mj_G → Prop} (hd : 30 ≤ d) (hS : cs_S H) (hC : rx_C H rd w n T B M hm) (h5 : mj_i H rd 5 = Int32.ofInt (-1)) (ht : tn_S H T B M w [] 0 (Int32.ofInt (-1)))
    (h1 : w 3 = 125 → ∀ G1, cs_S G1 → (∀ x y, rb_F rd T B M x y H G1) → mj_n G1 = mj_n H → mj_u G1 = mj_u H → rd_O G1 rd 4 → tn_S G1 T B M w [] 1 (nI (w 2 - 48)) → K G1)
    (h2 : ¬ w 3 = 125 → ∀ G1, cs_S G1 → (∀ x y, rb_F rd T B M x y H G1) → mj_n G1 = mj_n H → mj_u G1 = mj_u H → mj_i G1 rd 5 = nI 3 → K G1) : Rd_readParent (d + 1) rd H K := by
  have rT : rd ≠ T := z_kne hC.1.2.1 hC.2.2.2.1 (by decide)
  refine rw_p hW hd hS hC h5 (fun x v G1 hx hS1 F n1 u1 h41 _ hT1 hTj hrr => ?_)
  rcases hx with ⟨-, rfl, rfl⟩ | ⟨q, -⟩
  case inr => exact absurd hD q
  have hO1 := h41 rfl
  have C1 : rx_C G1 rd w n T B M hm := rx_K hC (F (mj_n H) 10) (Or.inr (Nat.le_refl _))
  obtain ⟨t1, t2, t3, t4, t5⟩ := ht
  have e2 : mj_i G1 T 2 = nI 0 := (hTj 2 (by decide)).trans t2
  have e4 : mj_i G1 T 3 = mj_i H T 3 := hTj 3 (by decide)
  refine c_pass (p := 3) hS1 C1.1 hO1 (by omega) (by decide) (by decide) (fun h => ?_) (fun h => ?_)
  · have e3 : mj_r (mj_pI G1 rd 4 (nI (3 + 1))) rd 3 = T := z_rIa.trans C1.2.1
    rw [e3]
    refine ⟨z_kIa.trans C1.1.2.1, z_kIa.trans C1.2.2.2.1, ?_⟩
    rintro _ rfl
    rw [show mj_i (mj_pI G1 rd 4 (nI (3 + 1))) T 2 = nI 0 from (z_iIn (Ne.symm rT)).trans e2, z_add]
    refine h1 h _ (cs_pI (cs_pI hS1)) (fun x y => rb_trans (F x y) (rb_trans (rb_rd (by decide)) rb_T)) n1 u1 ⟨(z_iIn rT).trans z_iIs, (z_iIn rT).trans ((z_iIm (by decide)).trans hO1.2)⟩ ⟨(z_iIm (by decide)).trans ((z_iIn (Ne.symm rT)).trans hT1), z_iIs, fun i hi => ?_, fun d hd => (z_rIa.trans (z_rIa.trans (hrr _ d))).trans (t4 d hd), fun d hd => (z_rIa.trans (z_rIa.trans (hrr _ d))).trans (t5 d hd)⟩
    rw [show mj_i (mj_pI (mj_pI G1 rd 4 (nI (3 + 1))) T 2 (nI (0 + 1))) T 3 = mj_i H T 3 from (z_iIm (by decide)).trans ((z_iIn (Ne.symm rT)).trans e4)]
    exact t3 i hi
  · have e3 : mj_r (mj_pI G1 rd 5 (nI 3)) rd 3 = T := z_rIa.trans C1.2.1
    rw [e3]
    refine ⟨z_kIa.trans C1.1.2.1, z_kIa.trans C1.2.2.2.1, ?_⟩
    rintro _ rfl
    exact h2 h _ (cs_pI (cs_pI hS1)) (fun x y => rb_trans (F x y) (rb_trans (rb_rd (by decide)) rb_T)) n1 u1 ((z_iIn rT).trans z_iIs)
theorem rw_d (hW : tx_W w n) (h0 : w 0 = 123 ∧ w 1 = 60) (hn2 : 2 ≤ n) (hD : ¬ tx_D (w 2)) : ∃ res, rw_C w n res ∧ rw_M w n res := by
  have hn := hW.1
  have hw2 := tx_le hW 2
  have cls := rw_c hW h0 hn2
  refine ⟨.inr 2, fun d G hm K hd hS hW' h4 hK => ?_, fun d G f K hd hS hT hK => ?_⟩
  · obtain ⟨d, rfl⟩ : ∃ e, d = e + 2 := ⟨d - 2, by omega⟩
    have hC := rw_rx (hm := hm) hS hW h4
    obtain ⟨-, -, i3, i4, -⟩ := rk_i (G := G) (c := nI n) (hm := hm)
    refine cls (d + 1) G hm K (by omega) hS h4 (rw_pd hW hD (by omega) (rk_S hS) hC i4 (fun G1 hS1 F n1 u1 h5 => ?_))
    have hn1 : mj_n G1 = mj_n G + 4 := n1.trans rk_n
    have hu1 : mj_u G1 = mj_u G + 32 := u1.trans rk_u
    have C2 : rx_C G1 (mj_n G) w n (mj_n G + 1) (mj_n G + 2) (mj_n G + 3) hm := rx_K hC (F (mj_n (rk_G G (nI n) hm)) 10) (Or.inr (Nat.le_refl _))
    exact c_loopF hS1 C2.1 h5 (by decide) (by omega) (hK 0 _ hS1 (fn_rb rk_F (F (mj_n G) 0) (Nat.le_refl _) (by omega) (by omega) (by omega) (Nat.le_refl _)) C2 (by omega) (by omega) ⟨hn2, h5⟩)
  · obtain ⟨d, rfl⟩ : ∃ e, d = e + 1 := ⟨d - 1, by omega⟩
    have e2 : pt_a f 0 1714 2 = nI n := (z_u2m (by decide)).trans hT.1
    refine w_m_faultOf hS ?_
    show mm_br (pt_a f 0 1714 2 ≤ nI 1) _ _
    rw [e2, z_le (by omega) (by decide)]
    refine z_bf (by omega) (z_ixi (by decide) (by decide) ?_)
    rw [show mj_u2 f 1714 3 (nI 0) 1715 0 = nI (w 0) from (z_u2n (by decide)).trans (hT.2 0 (by omega))]
    refine z_bt (by rw [h0.1]) (z_ixi (by decide) (by decide) ?_)
    rw [show mj_u2 f 1714 3 (nI 0) 1715 1 = nI (w 1) from (z_u2n (by decide)).trans (hT.2 1 (by omega))]
    refine z_bt (by rw [h0.2]) ?_
    rw [z_u2u]
    refine c_takesDigit (f := f) (p := 2) hS hW hT (by omega) hn2 (fun h => absurd h hD) (fun _ => z_bf (by decide) ?_)
    rw [pt_a3]
    exact hK 2
theorem rw_m (hW : tx_W w n) (h0 : w 0 = 123 ∧ w 1 = 60) (hn2 : 2 ≤ n) (hD : tx_D (w 2)) (hn3 : 3 ≤ n) : ∀ d G f K, 30 ≤ d → mm_S G → pt_T f w n → (w 3 = 125 → m_takesBody G d (nI 0) (nI 0) (pt_a f 4) (fun v17 f16 => mm_br (v17 = (nI 1)) (K ((Int32.ofInt (-1))) f16) (K (f16 1714 3) f16))) → (¬ w 3 = 125 → K (nI 3) (pt_a f 3)) → m_faultOf G (d + 1) f K := fun d G f K hd hS hT h1 h2 => by
  have hn := hW.1
  have hw2 := tx_le hW 2
  have e2 : pt_a f 0 1714 2 = nI n := (z_u2m (by decide)).trans hT.1
  refine w_m_faultOf hS ?_
  show mm_br (pt_a f 0 1714 2 ≤ nI 1) _ _
  rw [e2, z_le (by omega) (by decide)]
  refine z_bf (by omega) (z_ixi (by decide) (by decide) ?_)
  rw [show mj_u2 f 1714 3 (nI 0) 1715 0 = nI (w 0) from (z_u2n (by decide)).trans (hT.2 0 (by omega))]
  refine z_bt (by rw [h0.1]) (z_ixi (by decide) (by decide) ?_)
  rw [show mj_u2 f 1714 3 (nI 0) 1715 1 = nI (w 1) from (z_u2n (by decide)).trans (hT.2 1 (by omega))]
  refine z_bt (by rw [h0.2]) ?_
  rw [z_u2u]
  refine c_takesDigit (f := f) (p := 2) hS hW hT (by omega) hn2 (fun _ => z_bt rfl ?_) (fun h => absurd hD h)
  refine c_takes hS hW hT (by omega) hn3 (by decide) (fun h => z_bt rfl (h1 h)) (fun h => z_bf (by decide) ?_)
  rw [pt_a3]
  exact h2 h
theorem rw_all (hW : tx_W w n) : ∃ res, rw_C w n res ∧ rw_M w n res := by
  have hn := hW.1
  have hw2 := tx_le hW 2
  by_cases h0 : w 0 = 123 ∧ w 1 = 60
  case neg => exact rw_n hW h0
  have hn2 : 2 ≤ n := tx_in hW (k := 1) (by omega)
  by_cases hD : tx_D (w 2)
  case neg => exact rw_d hW h0 hn2 hD
  have hn3 : 3 ≤ n := tx_in hW (k := 2) (by have := hD.1; omega)
  have cls := rw_c hW h0 hn2
  have mod := rw_m hW h0 hn2 hD hn3
  by_cases h3 : w 3 = 125
  · have hn4 : 4 ≤ n := tx_in hW (k := 3) (by omega)
    obtain ⟨res, b1, b2, b3, b4⟩ := jb_all hW (n - 4) 4 0 (by decide) hn4 (Nat.le_refl _)
    refine ⟨res, fun d G hm K hd hS hW' h4 hK => ?_, fun d G f K hd hS hT hK => ?_⟩
    · obtain ⟨d, rfl⟩ : ∃ e, d = e + 2 := ⟨d - 2, by omega⟩
      have hC := rw_rx (hm := hm) hS hW h4
      obtain ⟨-, -, i3, i4, -⟩ := rk_i (G := G) (c := nI n) (hm := hm)
      refine cls (d + 1) G hm K (by omega) hS h4 (rw_q hW hD (by omega) (rk_S hS) hC i4 rw_tn (fun _ G1 hS1 F n1 u1 hO ht => ?_) (fun h => absurd h3 h))
      exact rw_body hW (by omega) hS1 hn4 b3 b1 b2 (fn_rb rk_F (F (mj_n G) 0) (Nat.le_refl _) (by omega) (by omega) (by omega) (Nat.le_refl _)) (rx_K hC (F (mj_n (rk_G G (nI n) hm)) 10) (Or.inr (Nat.le_refl _))) hO ht rfl (n1.trans rk_n) (u1.trans rk_u) (Or.inr ⟨rfl, h0.1, h0.2, hD, h3, rfl⟩) hK
    · obtain ⟨d, rfl⟩ : ∃ e, d = e + 1 := ⟨d - 1, by omega⟩
      exact mod d G f K (by omega) hS hT (fun _ => rw_mod (by omega) hS hT hW hn4 b4 hK) (fun h => absurd h3 h)
  · refine ⟨.inr 3, fun d G hm K hd hS hW' h4 hK => ?_, fun d G f K hd hS hT hK => ?_⟩
    · obtain ⟨d, rfl⟩ : ∃ e, d = e + 2 := ⟨d - 2, by omega⟩
      have hC := rw_rx (hm := hm) hS hW h4
      obtain ⟨-, -, i3, i4, -⟩ := rk_i (G := G) (c := nI n) (hm := hm)
      refine cls (d + 1) G hm K (by omega) hS h4 (rw_q hW hD (by omega) (rk_S hS) hC i4 rw_tn (fun h => absurd h h3) (fun _ G1 hS1 F n1 u1 h5 => ?_))
      have hn1 : mj_n G1 = mj_n G + 4 := n1.trans rk_n
      have hu1 : mj_u G1 = mj_u G + 32 := u1.trans rk_u
      have C2 : rx_C G1 (mj_n G) w n (mj_n G + 1) (mj_n G + 2) (mj_n G + 3) hm := rx_K hC (F (mj_n (rk_G G (nI n) hm)) 10) (Or.inr (Nat.le_refl _))
      exact c_loopF hS1 C2.1 h5 (by decide) (by omega) (hK 0 _ hS1 (fn_rb rk_F (F (mj_n G) 0) (Nat.le_refl _) (by omega) (by omega) (by omega) (Nat.le_refl _)) C2 (by omega) (by omega) ⟨hn3, h5⟩)
    · obtain ⟨d, rfl⟩ : ∃ e, d = e + 1 := ⟨d - 1, by omega⟩
      exact mod d G f K (by omega) hS hT (fun h => absurd h h3) (fun _ => hK 3)
end FT
