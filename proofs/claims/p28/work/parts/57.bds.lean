/-! BODIES ARE READ: the parts of a tag -/
/-- the bodies of a tag: node r at p, its head up to e, up to m -/
def tb_a (k : Nat) (A : Nat → Prop) (G : mj_G) (hm b : Int32) (r : Nat) (w : Nat → Nat) (p e m : Nat) (L1 : List (Nat × Nat)) : Prop :=
  (¬ tx_B (w (p + 1)) ∧ m = e + 1 ∧ L1 = [] ∧ mj_r G r 8 = 0 ∧ mj_r G r 9 = 0) ∨
  (tx_B (w (p + 1)) ∧ ¬ w (p + 1) = 43 ∧ mj_r G r 9 = 0 ∧ ∃ q1, tb_B k A G hm (if w (p + 1) = 35 then mj_i G r 3 else b) (mj_r G r 8) w (e + 1) q1 L1 ∧ w q1 = 123 ∧ w (q1 + 1) = 59 ∧ w (q1 + 2) = 125 ∧ m = q1 + 3) ∨
  ((w (p + 1) = 63 ∨ w (p + 1) = 42 ∨ w (p + 1) = 43) ∧ ∃ q1 q2 La Lb, tb_B k A G hm b (mj_r G r 8) w (e + 1) q1 La ∧ w q1 = 123 ∧ w (q1 + 1) = 58 ∧ w (q1 + 2) = 125 ∧ tb_B k A G hm b (mj_r G r 9) w (q1 + 3) q2 Lb ∧ w q2 = 123 ∧ w (q2 + 1) = 59 ∧ w (q2 + 2) = 125 ∧ m = q2 + 3 ∧ L1 = La ++ Lb)
/-- a tag without what follows it -/
def tb_t (k : Nat) (A : Nat → Prop) (G : mj_G) (hm b : Int32) (r : Nat) (w : Nat → Nat) (p m : Nat) (L1 : List (Nat × Nat)) : Prop :=
  r ≠ 0 ∧ mj_k G r = 6 ∧ mj_i G r 1 = hm ∧ mj_i G r 2 = nI p ∧ w p = 123 ∧ tx_T (w (p + 1)) ∧ mj_i G r 0 = nI (w (p + 1)) ∧ ∃ e, p + 2 ≤ e ∧ tb_h A G r b w p e ∧ w e = 125 ∧ tb_a k A G hm b r w p e m L1
/-- cells from lo up to hi are as they were -/
def sm_F (lo hi : Nat) (G G' : mj_G) : Prop := ∀ a, fe_I lo hi a → mj_k G' a = mj_k G a ∧ mj_l G' a = mj_l G a ∧ (∀ j, mj_r G' a j = mj_r G a j) ∧ ∀ j, mj_i G' a j = mj_i G a j
theorem tb_a_mono {A B : Nat → Prop} {G G' : mj_G} {hm b : Int32} {r k l : Nat} (w : Nat → Nat) {p e m : Nat} {L1 : List (Nat × Nat)} (hAB : ∀ a, A a → B a) (hG : ∀ a, A a → mj_k G' a = mj_k G a ∧ mj_l G' a = mj_l G a ∧ (∀ j, mj_r G' a j = mj_r G a j) ∧ ∀ j, mj_i G' a j = mj_i G a j)
    (h8 : mj_r G' r 8 = mj_r G r 8) (h9 : mj_r G' r 9 = mj_r G r 9) (h3 : mj_i G' r 3 = mj_i G r 3) (hl : k ≤ l) (h : tb_a k A G hm b r w p e m L1) : tb_a l B G' hm b r w p e m L1 := by
  unfold tb_a at h ⊢
  rw [h8, h9, h3]
  rcases h with h | ⟨a1, a2, a3, q1, a4, a5⟩ | ⟨a1, q1, q2, La, Lb, a2, a3, a4, a5, a6, a7⟩
  · exact Or.inl h
  · exact Or.inr (Or.inl ⟨a1, a2, a3, q1, tb_mono w hAB hG hl a4, a5⟩)
  · exact Or.inr (Or.inr ⟨a1, q1, q2, La, Lb, tb_mono w hAB hG hl a2, a3, a4, a5, tb_mono w hAB hG hl a6, a7⟩)
theorem tb_t_mono {A B : Nat → Prop} {G G' : mj_G} {hm b : Int32} {r k l : Nat} (w : Nat → Nat) {p m : Nat} {L1 : List (Nat × Nat)} (hAB : ∀ a, A a → B a) (hG : ∀ a, A a → mj_k G' a = mj_k G a ∧ mj_l G' a = mj_l G a ∧ (∀ j, mj_r G' a j = mj_r G a j) ∧ ∀ j, mj_i G' a j = mj_i G a j)
    (hk : mj_k G' r = mj_k G r) (hr : ∀ j, j ≠ 10 → mj_r G' r j = mj_r G r j) (hi : ∀ j, mj_i G' r j = mj_i G r j) (hl : k ≤ l) (h : tb_t k A G hm b r w p m L1) : tb_t l B G' hm b r w p m L1 := by
  obtain ⟨h1, h2, h3, h4, h5, h6, h7, e, h8, h9, h10, h11⟩ := h
  exact ⟨h1, hk.trans h2, (hi 1).trans h3, (hi 2).trans h4, h5, h6, (hi 0).trans h7, e, h8, tb_h_mono w hAB hG (hr 6 (by decide)) (hr 7 (by decide)) (hi 3) (hi 4) h9, h10, tb_a_mono w hAB hG (hr 8 (by decide)) (hr 9 (by decide)) (hi 3) hl h11⟩
theorem tb_cons {A : Nat → Prop} {G : mj_G} {hm b : Int32} {r k l : Nat} {w : Nat → Nat} {p m q : Nat} {L1 L2 : List (Nat × Nat)} (hA : A r) (h : tb_t k A G hm b r w p m L1) (h2 : tb_B l A G hm b (mj_r G r 10) w m q L2) : tb_B (k + l + 1) A G hm b r w p q ((p, r) :: (L1 ++ L2)) := by
  have same : ∀ a, A a → mj_k G a = mj_k G a ∧ mj_l G a = mj_l G a ∧ (∀ j, mj_r G a j = mj_r G a j) ∧ ∀ j, mj_i G a j = mj_i G a j := fun a _ => ⟨rfl, rfl, fun _ => rfl, fun _ => rfl⟩
  obtain ⟨a1, a2, a3, a4, a5, a6, a7, e, a8, a9, a10, a11⟩ := h
  exact Or.inr (Or.inr ⟨hA, a1, a2, a3, a4, a5, a6, a7, e, m, L1, L2, a8, a9, a10, rfl, tb_mono w (fun _ h => h) same (by omega) h2, tb_a_mono w (fun _ h => h) same rfl rfl rfl (by omega) a11⟩)
section BD
variable {w : Nat → Nat} {n : Nat}
/-- where a body may end -/
def jb_end (w : Nat → Nat) (n E q : Nat) : Prop := (E = 0 ∧ q = n) ∨ (w q = 123 ∧ ((w (q + 1) = 59 ∧ E % 2 = 1) ∨ (w (q + 1) = 58 ∧ 2 ≤ E)))
/-- how reading a body from p on ends; x: the node ahead of it, if r2 is one -/
def rb_X (rd T B M : Nat) (w : Nat → Nat) (p : Nat) (hm b : Int32) (L : List (Nat × Nat)) (t : Nat) (pa : Int32) (G : mj_G) (r1 r2 x : Nat) : Nat ⊕ Nat → Nat → mj_G → Prop
  | .inl q, r, G' => rb_F rd T B M x 10 G G' ∧ rd_O G' rd q ∧ (r2 ≠ 0 → r = r1) ∧ (∃ L' k, tb_B k (fe_I (mj_n G) (mj_n G')) G' hm b (if r2 = 0 then r else mj_r G' r2 10) w p q L' ∧ tn_S G' T B M w (L ++ L') (t + L'.length) pa) ∧ mj_n G' + 2 * p ≤ mj_n G + 2 * q ∧ mj_u G' + 11 * mj_n G + p ≤ mj_u G + 11 * mj_n G' + q
  | .inr e, _, G' => rb_F rd T B M x 10 G G' ∧ mj_i G' rd 5 = nI e ∧ mj_n G' + 2 * p ≤ mj_n G + 2 * e + 3 ∧ mj_u G' + 11 * mj_n G + p ≤ mj_u G + 11 * mj_n G' + e
/-- the node ahead -/
def rb_l (G : mj_G) (r1 r2 x : Nat) : Prop := (r2 = 0 ∧ r1 = 0 ∧ x = mj_n G) ∨ (r2 ≠ 0 ∧ x = r2 ∧ mj_k G r2 = 6 ∧ r2 < mj_n G ∧ 1768 ≤ r2 ∧ mj_r G r2 10 = 0)
def jb_C (w : Nat → Nat) (n k p E : Nat) (res : Nat ⊕ Nat) : Prop := ∀ d G rd T B M hm b dep L t pa r1 r2 x tn K, 4 * k + 4 * n + 90 ≤ d → cs_S G → rx_C G rd w n T B M hm → rd_O G rd p → dep ≤ p → tn ≤ p → rb_l G r1 r2 x → (∀ x, x ∈ L → x.2 ≠ 0) → tn_S G T B M w L t pa →
  (∀ r G', cs_S G' → rb_X rd T B M w p hm b L t pa G r1 r2 x res r G' → K r G') → Rd_readBody_40 d rd (nI E) b (nI dep) r1 r2 (nI tn) G K
def jb_post (w : Nat → Nat) (E : Nat) (f : mm_F) (K : Int32 → mm_F → Prop) : Nat ⊕ Nat → Prop
  | .inl q => (E = 0 → K (nI 1) (pt_a f q)) ∧ (E ≠ 0 → (w (q + 2) = 125 → K (nI (if w (q + 1) = 59 then 2 else 3)) (pt_a f (q + 3))) ∧ (¬ w (q + 2) = 125 → K (nI 0) (pt_a f (q + 2))))
  | .inr e => ∀ v, (v = 0 ∨ (v = 1 ∧ E ≠ 0)) → K (nI v) (pt_a f e)
def jb_M (w : Nat → Nat) (n k p E : Nat) (res : Nat ⊕ Nat) : Prop := ∀ d G f K, 4 * k + 4 * n + 90 ≤ d → mm_S G → pt_T f w n → jb_post w E f K res → m_takesBody G d (nI (E / 2)) (nI (E % 2)) (pt_a f p) K
def jb_B (w : Nat → Nat) (n k : Nat) : Prop := ∀ p E, E < 4 → p ≤ n → n - p ≤ k → ∃ res, rd_okP n p res ∧ (∀ q, res = .inl q → jb_end w n E q) ∧ jb_C w n k p E res ∧ jb_M w n k p E res
/-- how reading a tag ends -/
def rt_X (rd T B M : Nat) (w : Nat → Nat) (p : Nat) (hm b : Int32) (L : List (Nat × Nat)) (t : Nat) (pa : Int32) (G : mj_G) : Nat ⊕ Nat → Nat → mj_G → Prop
  | .inl m, r, G' => r = mj_n G ∧ rb_F rd T B M (mj_n G) 10 G G' ∧ mj_n G < mj_n G' ∧ rd_O G' rd m ∧ mj_r G' r 10 = 0 ∧ (∃ L1 k, tb_t k (fe_I (mj_n G + 1) (mj_n G')) G' hm b r w p m L1 ∧ tn_S G' T B M w (L ++ ((p, r) :: L1)) (t + 1 + L1.length) pa) ∧ mj_n G' + 2 * p ≤ mj_n G + 2 * m ∧ mj_u G' + 11 * mj_n G + p ≤ mj_u G + 11 * mj_n G' + m
  | .inr e, _, G' => rb_F rd T B M (mj_n G) 10 G G' ∧ mj_i G' rd 5 = nI e ∧ mj_n G' + 2 * p ≤ mj_n G + 2 * e + 3 ∧ mj_u G' + 11 * mj_n G + p ≤ mj_u G + 11 * mj_n G' + e
def jt_C (w : Nat → Nat) (n k p : Nat) (res : Nat ⊕ Nat) : Prop := ∀ d G rd T B M hm b dep L t pa K, 4 * k + 4 * n + 88 ≤ d → cs_S G → rx_C G rd w n T B M hm → rd_O G rd p → dep ≤ p → (∀ x, x ∈ L → x.2 ≠ 0) → tn_S G T B M w L t pa →
  (∀ r G', cs_S G' → rt_X rd T B M w p hm b L t pa G res r G' → K r G') → Rd_readTag d rd b (nI dep) G K
def jt_M (w : Nat → Nat) (n k p : Nat) (res : Nat ⊕ Nat) : Prop := ∀ d G f K, 4 * k + 4 * n + 88 ≤ d → mm_S G → pt_T f w n → K res.isLeft (pt_a f (rd_q res)) → m_takesTag G d (pt_a f (p + 1)) K
/-- within a tag: read up to s -/
def tg_S (G0 G : mj_G) (rd : Nat) (w : Nat → Nat) (n T B M : Nat) (hm b : Int32) (N p e s : Nat) (L : List (Nat × Nat)) (t : Nat) (pa : Int32) : Prop :=
  rx_C G rd w n T B M hm ∧ rd_O G rd s ∧ rb_F rd T B M (mj_n G0) 10 G0 G ∧ N = mj_n G0 ∧ N < mj_n G ∧ 1768 ≤ N ∧ (rd < N ∧ T < N ∧ B < N ∧ M < N) ∧ mj_k G N = 6 ∧ mj_i G N 0 = nI (w (p + 1)) ∧ mj_i G N 1 = hm ∧ mj_i G N 2 = nI p ∧ mj_r G N 10 = 0 ∧ tb_h (fe_I (N + 1) (mj_n G)) G N b w p e ∧ tn_S G T B M w L t pa ∧ (∀ x, x ∈ L → x.2 ≠ 0) ∧
  mj_n G + 2 * p ≤ mj_n G0 + 2 * s ∧ mj_u G + 11 * mj_n G0 + p ≤ mj_u G0 + 11 * mj_n G + s
/-- within a tag, behind a fault at e -/
def tg_F (G0 G : mj_G) (rd : Nat) (w : Nat → Nat) (n T B M : Nat) (hm : Int32) (N p e : Nat) : Prop :=
  rx_C G rd w n T B M hm ∧ rb_F rd T B M (mj_n G0) 10 G0 G ∧ N = mj_n G0 ∧ N < mj_n G ∧ 1768 ≤ N ∧ mj_k G N = 6 ∧ mj_i G rd 5 = nI e ∧ mj_n G + 2 * p ≤ mj_n G0 + 2 * e + 3 ∧ mj_u G + 11 * mj_n G0 + p ≤ mj_u G0 + 11 * mj_n G + e
/-- the fault of a body with its end -/
def rd_ce (w : Nat → Nat) : Nat ⊕ Nat → Nat
  | .inl q => q + 2
  | .inr e => e
theorem rb_nR {rd T B M x y N k v : Nat} {G0 G : mj_G} (h : rb_F rd T B M x y G0 G) (hN : mj_n G0 ≤ N) : rb_F rd T B M x y G0 (mj_pR G N k v) := by
  refine ⟨h.1, fun a ha => ?_⟩
  obtain ⟨a1, a2, a3, a4⟩ := h.2 a ha
  exact ⟨a1, a2, fun j h1 h2 h3 => (z_rRn (by omega)).trans (a3 j h1 h2 h3), a4⟩
theorem tg_w {G0 G : mj_G} {rd T B M N p e fl v : Nat} {hm : Int32} (hfl : fl = 8 ∨ fl = 9) (h : tg_F G0 G rd w n T B M hm N p e) : tg_F G0 (mj_pR G N fl v) rd w n T B M hm N p e := by
  obtain ⟨h1, h2, h3, h4, h4', h5, h6, h7, h8⟩ := h
  exact ⟨rx_K h1 (rb_set (x := N) (y := fl)) (Or.inl h5), rb_nR h2 (by omega), h3, h4, h4', h5, h6, h7, h8⟩
/-- a body of a tag, behind a fault -/
theorem jt_bodyF {G0 G : mj_G} {d rd T B M N p e fl : Nat} {E b dep hm : Int32} {K : Int32 → mj_G → Prop} (hS : cs_S G) (hd : 20 ≤ d) (hfl : fl = 8 ∨ fl = 9) (he : e ≤ 80) (hF : tg_F G0 G rd w n T B M hm N p e)
    (h : ∀ G', cs_S G' → tg_F G0 G' rd w n T B M hm N p e → K (nI 0) G') : Rd_readBody d rd E b dep G (fun v G3 => (mj_k G3 N = 6) ∧ ∀ G6, G6 = mj_pR G3 N fl v → (mj_k G6 rd = 8) ∧ Rd_leave d rd G6 (fun v9 G8 => K v9 G8)) := by
  have hF0 := hF
  obtain ⟨h1, h2, h3, h4, h4', h5, h6, h7, h8⟩ := hF
  refine c_bodyF hS h1 h6 he hd (fun G' hS' hb h5' hn hu => ?_)
  have k6 : mj_k G' N = 6 := ((hb 0 0).2 N h4).1.trans h5
  have hF' : tg_F G0 G' rd w n T B M hm N p e := ⟨rx_K h1 (hb (mj_n G) 10) (Or.inr (Nat.le_refl _)), rb_trans h2 (hb _ _), h3, by omega, h4', k6, h5', by omega, by omega⟩
  refine ⟨k6, ?_⟩
  rintro _ rfl
  have hF2 := tg_w (v := 0) hfl hF'
  have hS2 : cs_S (mj_pR G' N fl 0) := cs_pRg hS' h4'
  exact ⟨hF2.1.1.2.1, c_leaveF hS2 hF2.1.1 hF2.2.2.2.2.2.2.1 he (by omega) (h _ hS2 hF2)⟩
/-- a body of a tag -/
theorem jt_body {G0 G : mj_G} {d k rd T B M N p e s E fl dep t : Nat} {b b' hm pa : Int32} {L : List (Nat × Nat)} {res : Nat ⊕ Nat} {K : Int32 → mj_G → Prop} (hS : cs_S G) (hd : 4 * k + 4 * n + 90 ≤ d) (hfl : fl = 8 ∨ fl = 9) (hs : 1 ≤ s) (hps : p ≤ s) (hE : E ≠ 0) (hdep : dep ≤ s) (h0 : mj_r G N fl = 0)
    (hok : rd_okP n s res) (hend : ∀ q, res = .inl q → jb_end w n E q) (hB : jb_C w n k s E res) (hT : tg_S G0 G rd w n T B M hm b N p e s L t pa)
    (hY : ∀ q G', res = .inl q → w (q + 2) = 125 → q + 3 ≤ n → cs_S G' → (∃ L' k', tb_B k' (fe_I (N + 1) (mj_n G')) G' hm b' (mj_r G' N fl) w s q L' ∧ tg_S G0 G' rd w n T B M hm b N p e (q + 3) (L ++ L') (t + L'.length) pa) → sm_F (N + 1) (mj_n G) G G' → (∀ j, j ≠ fl → mj_r G' N j = mj_r G N j) → (∀ j, mj_i G' N j = mj_i G N j) → mj_n G ≤ mj_n G' → K (nI (w (q + 1))) G')
    (hN : ∀ v G', (∃ q, res = .inl q ∧ v = nI (w (q + 1)) ∧ ¬ w (q + 2) = 125) ∨ (∃ e, res = .inr e ∧ v = nI 0) → cs_S G' → tg_F G0 G' rd w n T B M hm N p (rd_ce w res) → K v G') :
    Rd_readBody d rd (nI E) b' (nI dep) G (fun v G3 => (mj_k G3 N = 6) ∧ ∀ G6, G6 = mj_pR G3 N fl v → (mj_k G6 rd = 8) ∧ Rd_leave d rd G6 (fun v9 G8 => K v9 G8)) := by
  obtain ⟨c1, c2, c3, c4, c5, c6, ⟨c7, c7', c7'', c7'''⟩, c8, c9, c10, c11, c12, c13, c14, c15, c16, c17⟩ := hT
  have hn := c1.1.1.1
  obtain ⟨d, rfl⟩ : ∃ e, d = e + 1 := ⟨d - 1, by omega⟩
  refine w_Rd_readBody hS ⟨c1.1.2.1, z_bf ?_ ?_⟩
  · rw [c2.1, z_eq (by cases res with | inl q => have := hok.1; have := hok.2; omega | inr q => have := hok.1; have := hok.2; omega) (by omega)]
    omega
  refine hB (d + 1) G rd T B M hm b' dep L t pa 0 0 (mj_n G) 0 _ hd hS c1 c2 hdep (by omega) (Or.inl ⟨rfl, rfl, rfl⟩) c15 c14 (fun r G1 hS1 hX => ?_)
  have k6 : rb_F rd T B M (mj_n G) 10 G G1 → mj_k G1 N = 6 := fun h => (h.2 N c5).1.trans c8
  cases res with
  | inl q =>
    obtain ⟨x1, x2, -, ⟨L', k', x3, x4⟩, x5, x6⟩ := hX
    rw [if_pos rfl] at x3
    have hle := x1.1
    refine ⟨k6 x1, ?_⟩
    rintro _ rfl
    have hq2 : q + 2 ≤ n := by
      rcases hend q rfl with ⟨h, -⟩ | ⟨-, h⟩
      · exact absurd h hE
      · have := tx_in c1.1.1 (k := q + 1) (by omega)
        omega
    obtain ⟨a1, a2, a3, a4⟩ := x1.2 N c5
    have C1 : rx_C G1 rd w n T B M hm := rx_K c1 x1 (Or.inr (Nat.le_refl _))
    have C2 : rx_C (mj_pR G1 N fl r) rd w n T B M hm := rx_K C1 (rb_set (x := N) (y := fl)) (Or.inl (k6 x1))
    have hS2 : cs_S (mj_pR G1 N fl r) := cs_pRg hS1 c6
    have sm : sm_F (N + 1) (mj_n G) G (mj_pR G1 N fl r) := fun a ha => by
      have ha1 := ha.1
      obtain ⟨b1, b2, b3, b4⟩ := x1.2 a ha.2
      exact ⟨b1, b2, fun j => (z_rRn (by omega)).trans (b3 j (fun q => by have := q.1; have := ha.2; omega) (by omega) (by omega)), fun j => b4 j (fun q => by have := q.1; omega) (by omega)⟩
    have Nr : ∀ j, j ≠ fl → mj_r (mj_pR G1 N fl r) N j = mj_r G N j := fun j hj => (z_rRm hj).trans (a3 j (fun q => by have := q.1; omega) (by omega) (by omega))
    have Ni : ∀ j, mj_i (mj_pR G1 N fl r) N j = mj_i G N j := fun j => a4 j (fun q => by have := q.1; omega) (by omega)
    have F2 : rb_F rd T B M (mj_n G0) 10 G0 (mj_pR G1 N fl r) := rb_nR (rb_new c3 x1 c3.1) (by omega)
    refine ⟨C2.1.2.1, c_leave hS2 C2.1 x2 (by omega) (by omega) (by omega) (fun h125 => ?_) (fun h125 => ?_)⟩
    · have hq3 : q + 3 ≤ n := tx_in c1.1.1 (k := q + 2) (by omega)
      refine hY q _ rfl h125 hq3 (cs_pI hS2) ⟨L', k', ?_, ?_⟩ (fun a ha => ?_) Nr (fun j => (z_iIn (by omega)).trans (Ni j)) hle
      · rw [show mj_r (mj_pI (mj_pR G1 N fl r) rd 4 (nI (q + 3))) N fl = r from z_rRs]
        refine tb_mono w (fun a ha => ⟨by have := ha.1; omega, ha.2⟩) (fun a ha => ?_) (Nat.le_refl _) x3
        have ha1 := ha.1
        exact ⟨rfl, rfl, fun j => z_rRn (by omega), fun j => z_iIn (by omega)⟩
      · refine ⟨rx_K C2 (rb_rd (y := fl) (by decide)) (Or.inl (k6 x1)), rd_O4 x2, rb_trans F2 (rb_rd (by decide)), c4, by show N < mj_n G1; omega, c6, ⟨c7, c7', c7'', c7'''⟩, k6 x1, (z_iIn (by omega)).trans ((Ni 0).trans c9), (z_iIn (by omega)).trans ((Ni 1).trans c10), (z_iIn (by omega)).trans ((Ni 2).trans c11), (Nr 10 (by omega)).trans c12, ?_, ?_, ?_, by show mj_n G1 + _ ≤ _; omega, by show mj_u G1 + _ + _ ≤ _ + 11 * mj_n G1 + _; omega⟩
        · refine tb_h_mono w (fun a ha => ⟨ha.1, by have := ha.2; show a < mj_n G1; omega⟩) (fun a ha => ?_) (Nr 6 (by omega)) (Nr 7 (by omega)) ((z_iIn (by omega)).trans (Ni 3)) ((z_iIn (by omega)).trans (Ni 4)) c13
          obtain ⟨b1, b2, b3, b4⟩ := sm a ha
          exact ⟨b1, b2, b3, fun j => (z_iIn (by have := ha.1; omega)).trans (b4 j)⟩
        · have rT : rd ≠ T := z_kne c1.1.2.1 c1.2.2.2.1 (by decide)
          exact tn_K x4 (fun j => z_iIn (Ne.symm rT)) (fun j => z_rRn (by omega)) (fun j => z_rRn (by omega))
        · intro y hy
          rcases List.mem_append.mp hy with hy | hy
          · exact c15 y hy
          · exact tb_nz x3 y hy
      · obtain ⟨b1, b2, b3, b4⟩ := sm a ha
        exact ⟨b1, b2, b3, fun j => (z_iIn (by have := ha.1; omega)).trans (b4 j)⟩
    · refine hN _ _ (Or.inl ⟨q, rfl, rfl, h125⟩) (cs_pI (cs_pI hS2)) ⟨rx_K C2 (rb_trans (rb_rd (y := fl) (by decide)) (rb_rd (by decide))) (Or.inl (k6 x1)), rb_trans F2 (rb_trans (rb_rd (by decide)) (rb_rd (by decide))), c4, by show N < mj_n G1; omega, c6, k6 x1, z_iIs, ?_, ?_⟩
      · show mj_n G1 + _ ≤ mj_n G0 + 2 * (q + 2) + 3
        omega
      · show mj_u G1 + _ + _ ≤ _ + 11 * mj_n G1 + (q + 2)
        omega
  | inr e' =>
    obtain ⟨x1, x2, x5, x6⟩ := hX
    have hle := x1.1
    refine ⟨k6 x1, ?_⟩
    rintro _ rfl
    have C1 : rx_C G1 rd w n T B M hm := rx_K c1 x1 (Or.inr (Nat.le_refl _))
    have hF1 : tg_F G0 G1 rd w n T B M hm N p e' := ⟨C1, rb_new c3 x1 c3.1, c4, by omega, c6, k6 x1, x2, by omega, by omega⟩
    have hF2 := tg_w (v := r) hfl hF1
    have hS2 : cs_S (mj_pR G1 N fl r) := cs_pRg hS1 c6
    exact ⟨hF2.1.1.2.1, c_leaveF hS2 hF2.1.1 hF2.2.2.2.2.2.2.1 (by have := hok.2; omega) (by omega) (hN _ _ (Or.inr ⟨e', rfl, rfl⟩) hS2 hF2)⟩
end BD
