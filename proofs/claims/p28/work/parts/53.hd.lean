/-! THE HEADS OF TAGS ARE READ, by both sides alike -/
section HF
variable {rd N : Nat} {G G0 G1 G2 G' : mj_G}
/-- G' is G, but for the reader's place and fault, the head of the node N, and what is new -/
def hn_F (rd N : Nat) (G G' : mj_G) : Prop := mj_n G ≤ mj_n G' ∧ ∀ a, a < mj_n G → mj_k G' a = mj_k G a ∧ mj_l G' a = mj_l G a ∧ (∀ j, ¬ (a = N ∧ (j = 6 ∨ j = 7)) → mj_r G' a j = mj_r G a j) ∧ ∀ j, ¬ (a = rd ∧ 4 ≤ j) → ¬ (a = N ∧ (j = 3 ∨ j = 4)) → mj_i G' a j = mj_i G a j
theorem hn_of_fe (h : fe_F rd G G') : hn_F rd N G G' := ⟨h.1, fun a ha => by
  obtain ⟨a1, a2, a3, a4, -⟩ := h.2 a ha
  exact ⟨a1, a2, fun j _ => a3 j, fun j hj _ => a4 j hj⟩⟩
theorem hn_rfl : hn_F rd N G G := hn_of_fe fe_rfl
theorem hn_of_fx (h : fx_F rd N 7 G G') : hn_F rd N G G' := ⟨h.1, fun a ha => by
  obtain ⟨a1, a2, a3, a4, -⟩ := h.2 a ha
  exact ⟨a1, a2, fun j hj => a3 j (fun q => hj ⟨q.1, Or.inr q.2⟩), fun j hj _ => a4 j hj⟩⟩
theorem hn_trans (h1 : hn_F rd N G G1) (h2 : hn_F rd N G1 G') : hn_F rd N G G' := by
  refine ⟨Nat.le_trans h1.1 h2.1, fun a ha => ?_⟩
  obtain ⟨a1, a2, a3, a4⟩ := h1.2 a ha
  obtain ⟨b1, b2, b3, b4⟩ := h2.2 a (Nat.lt_of_lt_of_le ha h1.1)
  exact ⟨b1.trans a1, b2.trans a2, fun j h => (b3 j h).trans (a3 j h), fun j h h' => (b4 j h h').trans (a4 j h h')⟩
theorem hn_rd {k : Nat} {z : Int32} (hk : 4 ≤ k) : hn_F rd N G (mj_pI G rd k z) := hn_of_fe (fe_pI hk)
theorem hn_i {k : Nat} {z : Int32} (hk : k = 3 ∨ k = 4) : hn_F rd N G (mj_pI G N k z) := ⟨Nat.le_refl _, fun a _ => ⟨rfl, rfl, fun _ _ => rfl, fun j _ h => if_neg (fun q => h ⟨q.1, by omega⟩)⟩⟩
theorem hn_r {k v : Nat} (hk : k = 6 ∨ k = 7) : hn_F rd N G (mj_pR G N k v) := ⟨Nat.le_refl _, fun a _ => ⟨rfl, rfl, fun j h => if_neg (fun q => h ⟨q.1, by omega⟩), fun j _ _ => rfl⟩⟩
theorem hn_R {w : Nat → Nat} {n : Nat} (hR : rd_R G rd w n) (h : hn_F rd N G G') (hk : mj_k G N = 6) (hN : 1768 ≤ N) : rd_R G' rd w n := by
  obtain ⟨hW, r1, r2, r3, r4, r5, r6⟩ := hR
  have hne : rd ≠ N := z_kne r1 hk (by decide)
  obtain ⟨a1, a2, a3, a4⟩ := h.2 rd r3
  obtain ⟨b1, b2, b3, b4⟩ := h.2 4 (by omega)
  have hn := h.1
  exact ⟨hW, a1.trans r1, r2, by omega, (a3 0 (fun q => hne q.1)).trans r4, (a4 1 (fun q => by have := q.2; omega) (fun q => hne q.1)).trans r5, fun k hk' => (b4 k (fun q => by have := q.1; omega) (fun q => by have := q.1; omega)).trans (r6 k hk')⟩
end HF
/-- a new node of a kind -/
def nf_N (G : mj_G) (N c : Nat) : Prop := mj_k G N = 6 ∧ 1768 ≤ N ∧ N < mj_n G ∧ mj_i G N 0 = nI c ∧ mj_i G N 3 = Int32.ofInt (-1) ∧ mj_i G N 4 = Int32.ofInt (-1) ∧ ∀ j, mj_r G N j = 0
/-- how reading the head of the tag at p ends -/
def rh_X (rd N : Nat) (b : Int32) (w : Nat → Nat) (p : Nat) (G : mj_G) : Nat ⊕ Nat → mj_G → Prop
  | .inl e, G' => hn_F rd N G G' ∧ rd_O G' rd e ∧ tb_h (fe_I (mj_n G) (mj_n G')) G' N b w p e ∧ mj_n G' + 2 * (p + 2) ≤ mj_n G + 2 * e ∧ mj_u G' + 11 * mj_n G + (p + 2) ≤ mj_u G + 11 * mj_n G' + e
  | .inr e, G' => hn_F rd N G G' ∧ mj_i G' rd 5 = nI e ∧ mj_n G' + 2 * (p + 2) ≤ mj_n G + 2 * e + 3 ∧ mj_u G' + 11 * mj_n G + (p + 2) ≤ mj_u G + 11 * mj_n G' + e
section JH
variable {w : Nat → Nat} {n : Nat}
theorem c_readPrimaryF {K : Nat → mj_G → Prop} {d rd e : Nat} {x : Int32} {G : mj_G} (hS : cs_S G) (hR : rd_R G rd w n) (h5 : mj_i G rd 5 = nI e) (he : e ≤ 80) (hd : 16 ≤ d) (h : K 0 G) : Rd_readPrimary d rd x G K := by
  obtain ⟨d, rfl⟩ : ∃ e, d = e + 1 := ⟨d - 1, by omega⟩
  exact w_Rd_readPrimary hS (by omega) ⟨hR.2.1, c_sign' hS hR fun v hv => ⟨hR.2.1, c_failedF hS hR h5 he (z_bt rfl ⟨hR.2.1, c_rejectF hS hR h5 he h⟩)⟩⟩
theorem c_readExpressionF {K : Nat → mj_G → Prop} {d rd e : Nat} {x : Int32} {G : mj_G} (hS : cs_S G) (hR : rd_R G rd w n) (h5 : mj_i G rd 5 = nI e) (he : e ≤ 80) (hd : 17 ≤ d) (h : K 0 G) : Rd_readExpression d rd x G K := by
  obtain ⟨d, rfl⟩ : ∃ e, d = e + 1 := ⟨d - 1, by omega⟩
  refine w_Rd_readExpression hS ⟨hR.2.1, c_readPrimaryF hS hR h5 he (by omega) ?_⟩
  refine w_Rd_readExpression_8 hS ⟨hR.2.1, z_br (fun _ => h) (fun _ => c_failedF hS hR h5 he (z_bt rfl h))⟩
theorem c_readArgumentsF {K : mj_G → Prop} {d rd r1 e : Nat} {G : mj_G} (hS : cs_S G) (hR : rd_R G rd w n) (h5 : mj_i G rd 5 = nI e) (he : e ≤ 80) (hd : 1 ≤ d) (h : K G) : Rd_readArguments d rd r1 G K := by
  obtain ⟨d, rfl⟩ : ∃ e, d = e + 1 := ⟨d - 1, by omega⟩
  exact w_Rd_readArguments hS ⟨hR.2.1, c_failedF hS hR h5 he (z_bt rfl h)⟩
theorem c_readParametersF {K : mj_G → Prop} {d rd r1 e : Nat} {G : mj_G} (hS : cs_S G) (hR : rd_R G rd w n) (h5 : mj_i G rd 5 = nI e) (he : e ≤ 80) (hd : 16 ≤ d) (h : K G) : Rd_readParameters d rd r1 G K := by
  obtain ⟨d, rfl⟩ : ∃ e, d = e + 1 := ⟨d - 1, by omega⟩
  exact w_Rd_readParameters hS (w_Rd_readParameters_7 hS (by omega) (z_br (fun _ => h) (fun _ => ⟨hR.2.1, c_failedF hS hR h5 he (z_bt rfl h)⟩)))
/-- the class's ways through a head, by the tag's sign -/
theorem c_head {d rd N c : Nat} {b : Int32} {G : mj_G} {K : mj_G → Prop} (hS : cs_S G) (hR : rd_R G rd w n) (hk : mj_k G N = 6) (h0 : mj_i G N 0 = nI c) (hc : c ≤ 126)
    (h1 : c = 61 ∨ c = 63 → Rd_readExpression d rd (nI 0) G (fun v G1 => (mj_k G1 N = 6) ∧ ∀ G2, G2 = mj_pR G1 N 6 v → K G2))
    (h2 : c = 42 ∨ c = 37 → Rd_readLetter d rd G (fun v G1 => (mj_k G1 N = 6) ∧ ∀ G2, G2 = mj_pI G1 N 4 v → (mj_k G2 rd = 8) ∧ Rd_readExpression d rd (nI 0) G2 (fun v G1 => (mj_k G1 N = 6) ∧ ∀ G2, G2 = mj_pR G1 N 6 v → K G2)))
    (h3 : c = 116 → Rd_readDigit d rd G (fun v G1 => (mj_k G1 N = 6) ∧ ∀ G2, G2 = mj_pI G1 N 3 v → (mj_k G2 rd = 8) ∧ Rd_readExpression d rd (nI 0) G2 (fun v G1 => (mj_k G1 N = 6) ∧ ∀ G2, G2 = mj_pR G1 N 6 v → K G2)))
    (h4 : c = 35 ∨ c = 107 ∨ c = 64 → Rd_readDigit d rd G (fun v G1 => (mj_k G1 N = 6) ∧ ∀ G2, G2 = mj_pI G1 N 3 v → K G2))
    (h5 : c = 43 ∨ c = 126 ∨ c = 45 → K G)
    (h6 : c = 94 → ∀ G1, G1 = mj_pI G N 3 b → K G1)
    (h7 : c = 36 → Rd_readDigit d rd G (fun v G1 => (mj_k G1 N = 6) ∧ ∀ G2, G2 = mj_pI G1 N 3 v → (mj_k G2 rd = 8) ∧ Rd_readParameters d rd N G2 (fun G3 => K G3)))
    (h8 : c = 33 ∨ c = 38 → Rd_readDigit d rd G (fun v G1 => (mj_k G1 N = 6) ∧ ∀ G2, G2 = mj_pI G1 N 3 v → (mj_k G2 rd = 8) ∧ Rd_readArguments d rd N G2 (fun G3 => K G3)))
    (hT : tx_T c) : Rd_readHead (d + 1) rd N b G K := by
  have hr := hR.2.1
  refine w_Rd_readHead hS ⟨hk, ?_⟩
  have e : ∀ {x : Nat}, x ≤ 126 → (mj_i G N 0 = nI x) = (c = x) := fun hx => by rw [h0, z_eq (by omega) (by omega)]
  rw [e (by decide), e (by decide), e (by decide), e (by decide), e (by decide), e (by decide), e (by decide), e (by decide), e (by decide), e (by decide), e (by decide), e (by decide)]
  refine z_br (fun q => ⟨hr, h8 (by omega)⟩) (fun _ => ?_)
  refine z_br (fun q => ⟨hr, h4 (by omega)⟩) (fun _ => ?_)
  refine z_br (fun q => ⟨hr, h7 (by omega)⟩) (fun _ => ?_)
  refine z_br (fun q => ⟨hr, h2 (by omega)⟩) (fun _ => ?_)
  refine z_br (fun q => ⟨hr, h8 (by omega)⟩) (fun _ => ?_)
  refine z_br (fun q => ⟨hr, h2 (by omega)⟩) (fun _ => ?_)
  refine z_br (fun q => ⟨hr, h1 (by omega)⟩) (fun _ => ?_)
  refine z_br (fun q => ⟨hr, h1 (by omega)⟩) (fun _ => ?_)
  refine z_br (fun q => ⟨hr, h4 (by omega)⟩) (fun _ => ?_)
  refine z_br (fun q => h6 q) (fun _ => ?_)
  refine z_br (fun q => ⟨hr, h4 (by omega)⟩) (fun _ => ?_)
  refine z_br (fun q => ⟨hr, h3 (by omega)⟩) (fun _ => ?_)
  refine h5 ?_
  unfold tx_T at hT
  omega
/-- behind an expression of a head -/
theorem rh_eo {rd N s e r : Nat} {G0 G1 G2 : mj_G} (hF : hn_F rd N G0 G1) (hn1 : mj_n G1 = mj_n G0) (hu1 : mj_u G1 = mj_u G0) (hN : N < mj_n G0) (hne : N ≠ rd) (hX : rd_X rd w s false G1 (.inl e) r G2) :
    hn_F rd N G0 (mj_pR G2 N 6 r) ∧ rd_O (mj_pR G2 N 6 r) rd e ∧ (∃ l, tx_E l (fe_I (mj_n G0) (mj_n G2)) (mj_pR G2 N 6 r) r w s e false) ∧ mj_n G2 + 2 * s ≤ mj_n G0 + 2 * e ∧ mj_u G2 + 11 * mj_n G0 + s ≤ mj_u G0 + 11 * mj_n G2 + e ∧ (∀ j, mj_i G2 N j = mj_i G1 N j) ∧ (∀ j, mj_r G2 N j = mj_r G1 N j) ∧ mj_k G2 N = mj_k G1 N := by
  obtain ⟨x1, x2, ⟨l, x3⟩, x4, x5⟩ := hX
  obtain ⟨a1, a2, a3, a4, -⟩ := x1.2 N (by omega)
  refine ⟨hn_trans hF (hn_trans (hn_of_fe x1) (hn_r (Or.inl rfl))), x2, ⟨l, ?_⟩, by omega, by omega, fun j => a4 j (fun q => hne q.1), a3, a1⟩
  rw [hn1] at x3
  refine tx_E_mono w (fun a ha => ha) (fun a ha => ?_) (Nat.le_refl _) x3
  have h1 : mj_n G0 ≤ a := ha.1
  exact ⟨rfl, rfl, fun j => z_rRn (by omega), fun j => rfl⟩
theorem rh_eF {rd N s e r : Nat} {G0 G1 G2 : mj_G} (hF : hn_F rd N G0 G1) (hn1 : mj_n G1 = mj_n G0) (hu1 : mj_u G1 = mj_u G0) (hN : N < mj_n G0) (hX : rd_X rd w s false G1 (.inr e) r G2) :
    hn_F rd N G0 (mj_pR G2 N 6 r) ∧ mj_i (mj_pR G2 N 6 r) rd 5 = nI e ∧ mj_n G2 + 2 * s ≤ mj_n G0 + 2 * e + 1 ∧ mj_u G2 + 11 * mj_n G0 + s ≤ mj_u G0 + 11 * mj_n G2 + e ∧ mj_k G2 N = mj_k G1 N := by
  obtain ⟨x1, x2, x4, x5⟩ := hX
  exact ⟨hn_trans hF (hn_trans (hn_of_fe x1) (hn_r (Or.inl rfl))), x2, by omega, by omega, (x1.2 N (by omega)).1⟩
/-! the model's ways -/
def mh_P (G : mj_G) (d : Nat) (f : mm_F) (K : Bool → mm_F → Prop) : Prop := m_takes G d (nI 125) f (fun v f1 => mm_br (v = true) (K true f1) (K false f1))
def mh_E (G : mj_G) (d : Nat) (f : mm_F) (K : Bool → mm_F → Prop) : Prop := m_takesExpression G d f (fun v f1 => mm_br (v = true) (mh_P G d f1 K) (K false f1))
def mh_H (c : Nat) (G : mj_G) (d : Nat) (f : mm_F) (K : Bool → mm_F → Prop) : Prop :=
  if c = 61 ∨ c = 63 then mh_E G d f K else if c = 42 ∨ c = 37 then m_takesLetter G d f (fun v f1 => mm_br (v = true) (mh_E G d f1 K) (K false f1)) else
  if c = 116 then m_takesDigit G d f (fun v f1 => mm_br (v = true) (mh_E G d f1 K) (K false f1)) else if c = 35 ∨ c = 107 ∨ c = 64 then m_takesDigit G d f (fun v f1 => mm_br (v = true) (mh_P G d f1 K) (K false f1)) else
  if c = 43 ∨ c = 126 ∨ c = 45 ∨ c = 94 then mh_P G d f K else if c = 36 then m_takesDigit G d f (fun v f1 => mm_br (v = true) (m_takesParameters G d f1 (fun v f2 => mm_br (v = true) (K true f2) (K false f2))) (K false f1)) else
  m_takesDigit G d f (fun v f1 => mm_br (v = true) (m_takesArguments G d f1 (fun v f2 => mm_br (v = true) (K true f2) (K false f2))) (K false f1))
def mb_H (c : Nat) (G : mj_G) (d : Nat) (f : mm_F) (K : Bool → mm_F → Prop) : Prop :=
  if c = 63 ∨ c = 42 then m_takesChoice G d f (fun v f1 => mm_br (v = true) (K true f1) (K false f1)) else
  if c = 43 then m_takesBody G d (nI 1) (nI 0) f (fun v f1 => mm_br (v = nI 3) (m_takesClosed G d f1 (fun v f2 => mm_br (v = true) (K true f2) (K false f2))) (K false f1)) else
  if c = 35 ∨ c = 36 ∨ c = 38 ∨ c = 107 then m_takesClosed G d f (fun v f1 => mm_br (v = true) (K true f1) (K false f1)) else K true f
theorem mh_br {K : Bool → mm_F → Prop} {b : Bool} {f : mm_F} (h : K b f) : mm_br (b = true) (K true f) (K false f) := by
  cases b with
  | true => exact z_bt rfl h
  | false => exact z_bf (by decide) h
theorem mh_Pw {d p : Nat} {G : mj_G} {f : mm_F} {K : Bool → mm_F → Prop} (hS : mm_S G) (hW : tx_W w n) (hT : pt_T f w n) (hd : 1 ≤ d) (hp : p ≤ n) (h : K (rd_fin w (.inl p)).1 (pt_a f (rd_fin w (.inl p)).2)) : mh_P G d (pt_a f p) K := by
  refine c_takes hS hW hT hd hp (by decide) (fun q => z_bt rfl ?_) (fun q => z_bf (by decide) ?_)
  · rw [show rd_fin w (.inl p) = (true, p + 1) from if_pos q] at h
    exact h
  · rw [show rd_fin w (.inl p) = (false, p) from if_neg q] at h
    exact h
theorem mh_Ew {d s k : Nat} {G : mj_G} {f : mm_F} {K : Bool → mm_F → Prop} {res : Nat ⊕ Nat} (hS : mm_S G) (hW : tx_W w n) (hT : pt_T f w n) (hd : 4 * k + 42 ≤ d) (hok : rd_ok n s res)
    (hm : ∀ d G f K, 4 * k + 42 ≤ d → mm_S G → pt_T f w n → K res.isLeft (pt_a f (rd_q res)) → m_takesExpression G d (pt_a f s) K) (h : K (rd_fin w res).1 (pt_a f (rd_fin w res).2)) : mh_E G d (pt_a f s) K := by
  refine hm d G f _ hd hS hT ?_
  cases res with
  | inl q => exact z_bt rfl (mh_Pw hS hW hT (by omega) hok.2 h)
  | inr e => exact z_bf (fun h => nomatch h) h
theorem mh_Fw {f : mm_F} {e : Nat} {K : Bool → mm_F → Prop} (h : K (rd_fin w (.inr e)).1 (pt_a f (rd_fin w (.inr e)).2)) : K false (pt_a f e) := h
theorem c_takes_m {d : Nat} {x : Int32} {G : mj_G} {f : mm_F} {K K2 : Bool → mm_F → Prop} (h : m_takes G d x f K) (hK : ∀ b f, K b f → K2 b f) : m_takes G d x f K2 :=
  mj_X_mono h (fun o G1 ⟨b, h1, f1, h2, h3⟩ => ⟨b, h1, f1, h2, hK _ _ h3⟩)
end JH
