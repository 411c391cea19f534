/-! A LAW'S TEXT IS READ WITHOUT FAULT: by the model, whose fault is the same -/
def qvP (w : Nat → Nat) (n p q : Nat) : Prop := q ≤ n ∧ ∃ k, ∀ d G f K, k ≤ d → mm_S G → pt_T f w n → K true (pt_a f q) → m_takesPrimary G d (pt_a f p) K
def qvX (w : Nat → Nat) (n p q : Nat) : Prop := q ≤ n ∧ ∃ k, ∀ d G f K, k ≤ d → mm_S G → pt_T f w n → K true (pt_a f q) → m_takesExpression_5 G d (nI 1) (pt_a f p) K
def qvE (w : Nat → Nat) (n p q : Nat) : Prop := q ≤ n ∧ ∃ k, ∀ d G f K, k ≤ d → mm_S G → pt_T f w n → K true (pt_a f q) → m_takesExpression G d (pt_a f p) K
/-- arguments, parameters up to the } and over it -/
def qvA (w : Nat → Nat) (n p q : Nat) : Prop := q ≤ n ∧ ∃ k, ∀ d G f K, k ≤ d → mm_S G → pt_T f w n → K true (pt_a f q) → m_takesArguments G d (pt_a f p) K
def qvM (w : Nat → Nat) (n p q : Nat) : Prop := q ≤ n ∧ ∃ k, ∀ d G f K, k ≤ d → mm_S G → pt_T f w n → K true (pt_a f q) → m_takesParameters G d (pt_a f p) K
def qvG (w : Nat → Nat) (n p q : Nat) : Prop := q ≤ n ∧ ∃ k, ∀ d G f K, k ≤ d → mm_S G → pt_T f w n → K true (pt_a f q) → m_takesTag G d (pt_a f (p + 1)) K
def qvC (w : Nat → Nat) (n p q : Nat) : Prop := q ≤ n ∧ ∃ k, ∀ d G f K, k ≤ d → mm_S G → pt_T f w n → K true (pt_a f q) → m_takesClosed G d (pt_a f p) K
def qvH (w : Nat → Nat) (n p q : Nat) : Prop := q ≤ n ∧ ∃ k, ∀ d G f K, k ≤ d → mm_S G → pt_T f w n → K true (pt_a f q) → m_takesChoice G d (pt_a f p) K
/-- a stretch of a body that may end as E says -/
def qvL (w : Nat → Nat) (n E p q : Nat) : Prop := q ≤ n ∧ ∃ k, ∀ d G f K, k ≤ d → mm_S G → pt_T f w n → m_takesBody G d (nI (E / 2)) (nI (E % 2)) (pt_a f q) K → m_takesBody G d (nI (E / 2)) (nI (E % 2)) (pt_a f p) K
section F04
variable {w : Nat → Nat} {n p q r m e E c : Nat}
theorem pp_v (hW : tx_W w n) (hL : tx_L (w p)) (h46 : w (p + 1) ≠ 46) : qvP w n p (p + 1) := by
  have hpn : p < n := tx_in hW (by unfold tx_L at hL; omega)
  unfold tx_L at hL
  refine ⟨hpn, 18, fun d G f K hd hS hT hK => ?_⟩
  obtain ⟨d, rfl⟩ : ∃ y, d = y + 1 := ⟨d - 1, by omega⟩
  exact je_mod hS hW hT (by omega) (Nat.le_of_lt hpn) (fun q => absurd q (by unfold tx_D; omega)) (fun _ => c_takes hS hW hT (by omega) hpn (by decide) (fun q => absurd q h46) (fun _ => z_bf (by decide) hK)) (fun q => absurd q (by omega)) (fun q => absurd q (by omega)) (fun q => absurd q (by omega)) (fun _ q => absurd (show tx_L (w p) by unfold tx_L; omega) q)
theorem pp_i (hW : tx_W w n) (hL : tx_L (w p)) (h46 : w (p + 1) = 46) (hD : tx_D (w (p + 2))) : qvP w n p (p + 3) := by
  have hpn : p + 2 < n := tx_in hW (by unfold tx_D at hD; omega)
  unfold tx_L at hL
  refine ⟨hpn, 18, fun d G f K hd hS hT hK => ?_⟩
  obtain ⟨d, rfl⟩ : ∃ y, d = y + 1 := ⟨d - 1, by omega⟩
  exact je_mod hS hW hT (by omega) (by omega) (fun q => absurd q (by unfold tx_D; omega)) (fun _ => c_takes hS hW hT (by omega) (by omega) (by decide) (fun _ => z_bt rfl (c_takesDigit hS hW hT (by omega) (by omega) (fun _ => z_bt rfl hK) (fun q => absurd hD q))) (fun q => absurd h46 q)) (fun q => absurd q (by omega)) (fun q => absurd q (by omega)) (fun q => absurd q (by omega)) (fun _ q => absurd (show tx_L (w p) by unfold tx_L; omega) q)
theorem pp_n (hW : tx_W w n) (hD : tx_D (w p)) (h1 : ¬ tx_D (w (p + 1))) : qvP w n p (p + 1) := by
  have hpn : p < n := tx_in hW (by unfold tx_D at hD; omega)
  refine ⟨hpn, 18, fun d G f K hd hS hT hK => ?_⟩
  obtain ⟨d, rfl⟩ : ∃ y, d = y + 1 := ⟨d - 1, by omega⟩
  refine je_mod hS hW hT (by omega) (Nat.le_of_lt hpn) (fun _ => c_digits (e := p + 1) (m := 1) (i := 0) (p := p) hS hW hT (by omega) rfl hpn (by decide) (fun j j1 j2 => ?_) (fun _ => h1) hK) (fun q => ?_) (fun q => ?_) (fun q => ?_) (fun q => ?_) (fun q => absurd hD q)
  · rw [show j = p by omega]; exact hD
  · unfold tx_D at hD; unfold tx_L at q; omega
  · unfold tx_D at hD; omega
  · unfold tx_D at hD; omega
  · unfold tx_D at hD; omega
theorem pp_q (hW : tx_W w n) (h39 : w p = 39) (hpe : p + 1 ≤ e) (hq : ∀ j, p + 1 ≤ j → j < e → tx_Q (w j)) (he : w e = 39) : qvP w n p (e + 1) := by
  have hen : e < n := tx_in hW (by omega)
  refine ⟨hen, 18, fun d G f K hd hS hT hK => ?_⟩
  obtain ⟨d, rfl⟩ : ∃ y, d = y + 1 := ⟨d - 1, by omega⟩
  exact je_mod hS hW hT (by omega) (by omega) (fun q => absurd q (by unfold tx_D; omega)) (fun q => absurd q (by unfold tx_L; omega)) (fun _ => c_takesText (e := e) (m := e - (p + 1)) (p := p + 1) hS hW hT (by omega) (by omega) (Nat.le_of_lt hen) hq (fun q => q.1 he) (fun _ => hK) (fun q => absurd he q)) (fun q => absurd q (by omega)) (fun q => absurd q (by omega)) (fun _ _ q => absurd h39 q)
theorem pp_p (hW : tx_W w n) (h40 : w p = 40) (h1 : qvE w n (p + 1) m) (hO : tx_O (w m)) (h2 : qvE w n (m + 1) e) (he : w e = 41) : qvP w n p (e + 1) := by
  have hen : e < n := tx_in hW (by omega)
  have hpn : p < n := tx_in hW (by omega)
  obtain ⟨b1, k1, h1⟩ := h1
  obtain ⟨b2, k2, h2⟩ := h2
  refine ⟨hen, 18 + k1 + k2, fun d G f K hd hS hT hK => ?_⟩
  obtain ⟨d, rfl⟩ : ∃ y, d = y + 1 := ⟨d - 1, by omega⟩
  refine je_mod hS hW hT (by omega) (by omega) (fun q => absurd q (by unfold tx_D; omega)) (fun q => absurd q (by unfold tx_L; omega)) (fun q => absurd q (by omega)) (fun q => absurd q (by omega)) (fun _ => h1 d G f _ (by omega) hS hT (z_bt rfl (c_next hS hW hT b1 ?_))) (fun _ _ _ _ q => absurd h40 q)
  rw [tx_nxO hW]
  refine z_bt hO ?_
  rw [pt_a3, z_add, pt_aa]
  exact h2 d G f _ (by omega) hS hT (z_bt rfl (c_takes hS hW hT (by omega) (Nat.le_of_lt hen) (by decide) (fun _ => z_bt rfl hK) (fun q => absurd he q)))
theorem px_0 (hW : tx_W w n) (hq : q ≤ n) (h : w q ≠ 124) : qvX w n q q := ⟨hq, 18, fun d G f K hd hS hT hK => by
  obtain ⟨d, rfl⟩ : ∃ y, d = y + 1 := ⟨d - 1, by omega⟩
  exact w_m_takesExpression_5 hS (z_bf (by decide) (c_takes hS hW hT (by omega) hq (by decide) (fun q => absurd q h) (fun _ => z_bf (by decide) ⟨true, rfl, hK⟩)))⟩
theorem px_f (hW : tx_W w n) (h : w q = 124) (hl : je_pl (w (q + 1))) (hx : qvX w n (q + 2) e) : qvX w n q e := by
  obtain ⟨b1, k1, h1⟩ := hx
  refine ⟨b1, 18 + k1, fun d G f K hd hS hT hK => ?_⟩
  obtain ⟨d, rfl⟩ : ∃ y, d = y + 1 := ⟨d - 1, by omega⟩
  exact je_filM (by omega) hS hW hT h (fun _ => h1 (d + 1) G f K (by omega) hS hT hK) (fun q => absurd hl (by unfold je_pl; omega)) (fun q => absurd hl q)
theorem px_d (hW : tx_W w n) (h : w q = 124) (hl : w (q + 1) = 100) (hp : qvP w n (q + 2) r) (hx : qvX w n r e) : qvX w n q e := by
  obtain ⟨b1, k1, h1⟩ := hx
  obtain ⟨b2, k2, h2⟩ := hp
  refine ⟨b1, 18 + k1 + k2, fun d G f K hd hS hT hK => ?_⟩
  obtain ⟨d, rfl⟩ : ∃ y, d = y + 1 := ⟨d - 1, by omega⟩
  exact je_filM (by omega) hS hW hT h (fun q => absurd q (by unfold je_pl; omega)) (fun _ => h2 d G f _ (by omega) hS hT (z_bt rfl (h1 (d + 1) G f K (by omega) hS hT hK))) (fun _ q => absurd hl q)
theorem pe_x (h : qvP w n p q) (hx : qvX w n q e) : qvE w n p e := by
  obtain ⟨b1, k1, h1⟩ := h
  obtain ⟨b2, k2, h2⟩ := hx
  refine ⟨b2, 1 + k1 + k2, fun d G f K hd hS hT hK => ?_⟩
  obtain ⟨d, rfl⟩ : ∃ y, d = y + 1 := ⟨d - 1, by omega⟩
  exact w_m_takesExpression hS (h1 d G f _ (by omega) hS hT (h2 (d + 1) G f K (by omega) hS hT hK))
/-- a } that must be -/
theorem mp_P {d : Nat} {G : mj_G} {f : mm_F} {K : Bool → mm_F → Prop} (hS : mm_S G) (hW : tx_W w n) (hT : pt_T f w n) (hd : 1 ≤ d) (h : w p = 125) (hK : K true (pt_a f (p + 1))) : mh_P G d (pt_a f p) K := by
  have hpn : p < n := tx_in hW (by omega)
  exact c_takes hS hW hT hd (Nat.le_of_lt hpn) (by decide) (fun _ => z_bt rfl hK) (fun q => absurd h q)
theorem mp_E {d k : Nat} {G : mj_G} {f : mm_F} {K : Bool → mm_F → Prop} (hS : mm_S G) (hW : tx_W w n) (hT : pt_T f w n) (hE : ∀ d G f K, k ≤ d → mm_S G → pt_T f w n → K true (pt_a f e) → m_takesExpression G d (pt_a f p) K) (hd : 1 + k ≤ d) (h : w e = 125) (hK : K true (pt_a f (e + 1))) : mh_E G d (pt_a f p) K := hE d G f _ (by omega) hS hT (z_bt rfl (mp_P hS hW hT (by omega) h hK))
theorem pg_of {k : Nat} (hW : tx_W w n) (hq : q ≤ n) (hc : w (p + 1) = c) (hx : tx_T c) (h : ∀ d G f K, k ≤ d → mm_S G → pt_T f w n → K true (pt_a f q) → mh_H c G d (pt_a f (p + 2)) (fun b f1 => bif b then mb_H c G d f1 K else K false f1)) : qvG w n p q := by
  have hpn : p + 1 < n := tx_in hW (by unfold tx_T at hx; omega)
  refine ⟨hq, 2 + k, fun d G f K hd hS hT hK => ?_⟩
  obtain ⟨d, rfl⟩ : ∃ y, d = y + 1 := ⟨d - 1, by omega⟩
  refine c_takesTag hS hW hT (by omega) (Nat.le_of_lt hpn) (fun _ => ?_) (fun q => absurd (hc ▸ hx) q)
  rw [hc]
  exact h d G f K (by omega) hS hT hK
theorem pg_61 (hW : tx_W w n) (hc : w (p + 1) = 61) (hE : qvE w n (p + 2) e) (he : w e = 125) : qvG w n p (e + 1) := by
  have hen : e < n := tx_in hW (by omega)
  obtain ⟨b, k, h⟩ := hE
  refine pg_of (k := 1 + k) hW hen hc (by unfold tx_T; omega) (fun d G f K hd hS hT hK => ?_)
  rw [mh_61]
  refine mp_E hS hW hT h hd he ?_
  show mb_H 61 G d _ K
  rw [mb_61]
  exact hK
theorem pg_116 (hW : tx_W w n) (hc : w (p + 1) = 116) (hD : tx_D (w (p + 2))) (hE : qvE w n (p + 3) e) (he : w e = 125) : qvG w n p (e + 1) := by
  have hen : e < n := tx_in hW (by omega)
  have hpn : p + 2 < n := tx_in hW (by unfold tx_D at hD; omega)
  obtain ⟨b, k, h⟩ := hE
  refine pg_of (k := 17 + k) hW hen hc (by unfold tx_T; omega) (fun d G f K hd hS hT hK => ?_)
  rw [mh_116]
  refine c_takesDigit hS hW hT (by omega) (Nat.le_of_lt hpn) (fun _ => z_bt rfl (mp_E hS hW hT h (by omega) he ?_)) (fun q => absurd hD q)
  show mb_H 116 G d _ K
  rw [mb_116]
  exact hK
theorem pg_37 (hW : tx_W w n) (hc : w (p + 1) = 37) (hL : tx_L (w (p + 2))) (hE : qvE w n (p + 3) e) (he : w e = 125) : qvG w n p (e + 1) := by
  have hen : e < n := tx_in hW (by omega)
  have hpn : p + 2 < n := tx_in hW (by unfold tx_L at hL; omega)
  obtain ⟨b, k, h⟩ := hE
  refine pg_of (k := 17 + k) hW hen hc (by unfold tx_T; omega) (fun d G f K hd hS hT hK => ?_)
  rw [mh_37]
  refine c_takesLetter hS hW hT (by omega) (Nat.le_of_lt hpn) (fun _ => z_bt rfl (mp_E hS hW hT h (by omega) he ?_)) (fun q => absurd hL q)
  show mb_H 37 G d _ K
  rw [mb_37]
  exact hK
theorem pg_64 (hW : tx_W w n) (hc : w (p + 1) = 64) (hD : tx_D (w (p + 2))) (he : w (p + 3) = 125) : qvG w n p (p + 4) := by
  have hen : p + 3 < n := tx_in hW (by omega)
  refine pg_of (k := 17) hW hen hc (by unfold tx_T; omega) (fun d G f K hd hS hT hK => ?_)
  rw [mh_64]
  refine c_takesDigit hS hW hT (by omega) (by omega) (fun _ => z_bt rfl (mp_P hS hW hT (by omega) he ?_)) (fun q => absurd hD q)
  show mb_H 64 G d _ K
  rw [mb_64]
  exact hK
theorem pg_94 (hW : tx_W w n) (hc : w (p + 1) = 94) (he : w (p + 2) = 125) : qvG w n p (p + 3) := by
  have hen : p + 2 < n := tx_in hW (by omega)
  refine pg_of (k := 1) hW hen hc (by unfold tx_T; omega) (fun d G f K hd hS hT hK => ?_)
  rw [mh_94]
  refine mp_P hS hW hT hd he ?_
  show mb_H 94 G d _ K
  rw [mb_94]
  exact hK
theorem pg_126 (hW : tx_W w n) (hc : w (p + 1) = 126) (he : w (p + 2) = 125) : qvG w n p (p + 3) := by
  have hen : p + 2 < n := tx_in hW (by omega)
  refine pg_of (k := 1) hW hen hc (by unfold tx_T; omega) (fun d G f K hd hS hT hK => ?_)
  rw [mh_126]
  refine mp_P hS hW hT hd he ?_
  show mb_H 126 G d _ K
  rw [mb_126]
  exact hK
theorem pg_45 (hW : tx_W w n) (hc : w (p + 1) = 45) (he : w (p + 2) = 125) : qvG w n p (p + 3) := by
  have hen : p + 2 < n := tx_in hW (by omega)
  refine pg_of (k := 1) hW hen hc (by unfold tx_T; omega) (fun d G f K hd hS hT hK => ?_)
  rw [mh_45]
  refine mp_P hS hW hT hd he ?_
  show mb_H 45 G d _ K
  rw [mb_45]
  exact hK
theorem pg_35 (hW : tx_W w n) (hc : w (p + 1) = 35) (hD : tx_D (w (p + 2))) (he : w (p + 3) = 125) (hC : qvC w n (p + 4) q) : qvG w n p q := by
  have hen : p + 3 < n := tx_in hW (by omega)
  obtain ⟨b, k, h⟩ := hC
  refine pg_of (k := 17 + k) hW b hc (by unfold tx_T; omega) (fun d G f K hd hS hT hK => ?_)
  rw [mh_35]
  refine c_takesDigit hS hW hT (by omega) (by omega) (fun _ => z_bt rfl (mp_P hS hW hT (by omega) he ?_)) (fun q => absurd hD q)
  show mb_H 35 G d _ K
  rw [mb_35]
  exact h d G f _ (by omega) hS hT (z_bt rfl hK)
theorem pg_107 (hW : tx_W w n) (hc : w (p + 1) = 107) (hD : tx_D (w (p + 2))) (he : w (p + 3) = 125) (hC : qvC w n (p + 4) q) : qvG w n p q := by
  have hen : p + 3 < n := tx_in hW (by omega)
  obtain ⟨b, k, h⟩ := hC
  refine pg_of (k := 17 + k) hW b hc (by unfold tx_T; omega) (fun d G f K hd hS hT hK => ?_)
  rw [mh_107]
  refine c_takesDigit hS hW hT (by omega) (by omega) (fun _ => z_bt rfl (mp_P hS hW hT (by omega) he ?_)) (fun q => absurd hD q)
  show mb_H 107 G d _ K
  rw [mb_107]
  exact h d G f _ (by omega) hS hT (z_bt rfl hK)
theorem pg_63 (hW : tx_W w n) (hc : w (p + 1) = 63) (hE : qvE w n (p + 2) e) (he : w e = 125) (hC : qvH w n (e + 1) q) : qvG w n p q := by
  obtain ⟨b, k, h⟩ := hE
  obtain ⟨b', k', h'⟩ := hC
  refine pg_of (k := 1 + k + k') hW b' hc (by unfold tx_T; omega) (fun d G f K hd hS hT hK => ?_)
  rw [mh_63]
  refine mp_E hS hW hT h (by omega) he ?_
  show mb_H 63 G d _ K
  rw [mb_63]
  exact h' d G f _ (by omega) hS hT (z_bt rfl hK)
theorem pg_42 (hW : tx_W w n) (hc : w (p + 1) = 42) (hL : tx_L (w (p + 2))) (hE : qvE w n (p + 3) e) (he : w e = 125) (hC : qvH w n (e + 1) q) : qvG w n p q := by
  have hpn : p + 2 < n := tx_in hW (by unfold tx_L at hL; omega)
  obtain ⟨b, k, h⟩ := hE
  obtain ⟨b', k', h'⟩ := hC
  refine pg_of (k := 17 + k + k') hW b' hc (by unfold tx_T; omega) (fun d G f K hd hS hT hK => ?_)
  rw [mh_42]
  refine c_takesLetter hS hW hT (by omega) (Nat.le_of_lt hpn) (fun _ => z_bt rfl (mp_E hS hW hT h (by omega) he ?_)) (fun q => absurd hL q)
  show mb_H 42 G d _ K
  rw [mb_42]
  exact h' d G f _ (by omega) hS hT (z_bt rfl hK)
theorem pg_36 (hW : tx_W w n) (hc : w (p + 1) = 36) (hD : tx_D (w (p + 2))) (hM : qvM w n (p + 3) m) (hC : qvC w n m q) : qvG w n p q := by
  have hpn : p + 2 < n := tx_in hW (by unfold tx_D at hD; omega)
  obtain ⟨b, k, h⟩ := hM
  obtain ⟨b', k', h'⟩ := hC
  refine pg_of (k := 17 + k + k') hW b' hc (by unfold tx_T; omega) (fun d G f K hd hS hT hK => ?_)
  rw [mh_36]
  refine c_takesDigit hS hW hT (by omega) (Nat.le_of_lt hpn) (fun _ => z_bt rfl (h d G f _ (by omega) hS hT (z_bt rfl ?_))) (fun q => absurd hD q)
  show mb_H 36 G d _ K
  rw [mb_36]
  exact h' d G f _ (by omega) hS hT (z_bt rfl hK)
theorem pg_33 (hW : tx_W w n) (hc : w (p + 1) = 33) (hD : tx_D (w (p + 2))) (hM : qvA w n (p + 3) m) : qvG w n p m := by
  have hpn : p + 2 < n := tx_in hW (by unfold tx_D at hD; omega)
  obtain ⟨b, k, h⟩ := hM
  refine pg_of (k := 17 + k) hW b hc (by unfold tx_T; omega) (fun d G f K hd hS hT hK => ?_)
  rw [mh_33]
  refine c_takesDigit hS hW hT (by omega) (Nat.le_of_lt hpn) (fun _ => z_bt rfl (h d G f _ (by omega) hS hT (z_bt rfl ?_))) (fun q => absurd hD q)
  show mb_H 33 G d _ K
  rw [mb_33]
  exact hK
theorem pg_38 (hW : tx_W w n) (hc : w (p + 1) = 38) (hD : tx_D (w (p + 2))) (hM : qvA w n (p + 3) m) (hC : qvC w n m q) : qvG w n p q := by
  have hpn : p + 2 < n := tx_in hW (by unfold tx_D at hD; omega)
  obtain ⟨b, k, h⟩ := hM
  obtain ⟨b', k', h'⟩ := hC
  refine pg_of (k := 17 + k + k') hW b' hc (by unfold tx_T; omega) (fun d G f K hd hS hT hK => ?_)
  rw [mh_38]
  refine c_takesDigit hS hW hT (by omega) (Nat.le_of_lt hpn) (fun _ => z_bt rfl (h d G f _ (by omega) hS hT (z_bt rfl ?_))) (fun q => absurd hD q)
  show mb_H 38 G d _ K
  rw [mb_38]
  exact h' d G f _ (by omega) hS hT (z_bt rfl hK)
-- bodies
theorem pl_0 (hp : p ≤ n) : qvL w n E p p := ⟨hp, 0, fun _ _ _ _ _ _ _ h => h⟩
theorem pl_c (h1 : qvL w n E p q) (h2 : qvL w n E q r) : qvL w n E p r := by
  obtain ⟨b1, k1, h1⟩ := h1
  obtain ⟨b2, k2, h2⟩ := h2
  exact ⟨b2, k1 + k2, fun d G f K hd hS hT h => h1 d G f K (by omega) hS hT (h2 d G f K (by omega) hS hT h)⟩
theorem pl_l (hW : tx_W w n) (h0 : w p ≠ 0) (h1 : w p ≠ 123) (h2 : w p ≠ 125) : qvL w n E p (p + 1) := by
  have hpn : p < n := tx_in hW h0
  refine ⟨hpn, 2, fun d G f K hd hS hT h => ?_⟩
  obtain ⟨d, rfl⟩ : ∃ y, d = y + 1 := ⟨d - 1, by omega⟩
  exact c_takesBody hS hW hT (by omega) (Nat.le_of_lt hpn) (fun q => absurd q (by omega)) (fun q => absurd q h2) (fun _ _ _ => h) (fun q => absurd q h1)
theorem pl_t (hW : tx_W w n) (hE : E < 4) (h0 : w p = 123) (hT : tx_T (w (p + 1))) (hG : qvG w n p q) : qvL w n E p q := by
  have hpn : p < n := tx_in hW (by omega)
  unfold tx_T at hT
  obtain ⟨b, k, h⟩ := hG
  refine ⟨b, 2 + k, fun d G f K hd hS hT h' => ?_⟩
  obtain ⟨d, rfl⟩ : ∃ y, d = y + 1 := ⟨d - 1, by omega⟩
  exact c_takesBody hS hW hT (by omega) (Nat.le_of_lt hpn) (fun q => absurd q (by omega)) (fun q => absurd q (by omega)) (fun _ _ q => absurd h0 q) (fun _ hp1 => c_takesBodyT hS hW hT hp1 hE (fun q => absurd q (by omega)) (fun _ => h d G f _ (by omega) hS hT (z_bt rfl h')))
/-- the end of a body -/
theorem pl_e {d : Nat} {G : mj_G} {f : mm_F} {K : Int32 → mm_F → Prop} (hW : tx_W w n) (hE : E < 4) (h0 : w q = 123) (h1 : (w (q + 1) = 59 ∧ E % 2 = 1) ∨ (w (q + 1) = 58 ∧ 2 ≤ E)) (h2 : w (q + 2) = 125) (hd : 2 ≤ d) (hS : mm_S G) (hT : pt_T f w n) (hK : K (nI (if w (q + 1) = 59 then 2 else 3)) (pt_a f (q + 3))) : m_takesBody G d (nI (E / 2)) (nI (E % 2)) (pt_a f q) K := by
  have hqn : q + 2 < n := tx_in hW (by omega)
  obtain ⟨d, rfl⟩ : ∃ y, d = y + 1 := ⟨d - 1, by omega⟩
  exact c_takesBody hS hW hT (by omega) (by omega) (fun q => absurd q (by omega)) (fun q => absurd q (by omega)) (fun _ _ q => absurd h0 q) (fun _ hp1 => c_takesBodyT hS hW hT hp1 hE (fun _ => c_takesBody67 hS hW hT (by omega) (by omega) (by omega) (fun _ => hK) (fun q => absurd h2 q)) (fun q => absurd h1 q))
theorem pc_e (hW : tx_W w n) (hL : qvL w n 1 p q) (h0 : w q = 123) (h1 : w (q + 1) = 59) (h2 : w (q + 2) = 125) : qvC w n p (q + 3) := by
  have hqn : q + 2 < n := tx_in hW (by omega)
  obtain ⟨b, k, h⟩ := hL
  refine ⟨hqn, 4 + k, fun d G f K hd hS hT hK => ?_⟩
  obtain ⟨d, rfl⟩ : ∃ y, d = y + 1 := ⟨d - 1, by omega⟩
  refine w_m_takesClosed hS (h d G f _ (by omega) hS hT (pl_e (E := 1) hW (by decide) h0 (Or.inl ⟨h1, rfl⟩) h2 (by omega) hS hT ?_))
  rw [if_pos h1]
  exact z_bt rfl hK
/-- a choice with two bodies -/
theorem ph_2 (hW : tx_W w n) (hL : qvL w n 3 p q) (h0 : w q = 123) (h1 : w (q + 1) = 58) (h2 : w (q + 2) = 125) (hC : qvC w n (q + 3) r) : qvH w n p r := by
  obtain ⟨b, k, h⟩ := hL
  obtain ⟨b', k', h'⟩ := hC
  refine ⟨b', 4 + k + k', fun d G f K hd hS hT hK => ?_⟩
  obtain ⟨d, rfl⟩ : ∃ y, d = y + 1 := ⟨d - 1, by omega⟩
  refine w_m_takesChoice hS (h d G f _ (by omega) hS hT (pl_e (E := 3) hW (by decide) h0 (Or.inr ⟨h1, by decide⟩) h2 (by omega) hS hT ?_))
  rw [if_neg (by omega)]
  exact z_bf (by decide) (z_bt rfl (h' d G f _ (by omega) hS hT (z_bt rfl hK)))
theorem pg_43 (hW : tx_W w n) (hc : w (p + 1) = 43) (he : w (p + 2) = 125) (hL : qvL w n 2 (p + 3) m) (h0 : w m = 123) (h1 : w (m + 1) = 58) (h2 : w (m + 2) = 125) (hC : qvC w n (m + 3) q) : qvG w n p q := by
  obtain ⟨b, k, h⟩ := hL
  obtain ⟨b', k', h'⟩ := hC
  refine pg_of (k := 4 + k + k') hW b' hc (by unfold tx_T; omega) (fun d G f K hd hS hT hK => ?_)
  rw [mh_43]
  refine mp_P hS hW hT (by omega) he ?_
  show mb_H 43 G d _ K
  rw [mb_43]
  refine h d G f _ (by omega) hS hT (pl_e (E := 2) hW (by decide) h0 (Or.inr ⟨h1, by decide⟩) h2 (by omega) hS hT ?_)
  rw [if_neg (by omega)]
  exact z_bt rfl (h' d G f _ (by omega) hS hT (z_bt rfl hK))
/-- arguments: what is left behind x of them -/
def qvR (w : Nat → Nat) (n x p q : Nat) : Prop := q ≤ n ∧ ∃ k, ∀ d G f K, k ≤ d → mm_S G → pt_T f w n → K true (pt_a f q) → m_takesArguments_26 G d (nI x) (pt_a f p) K
theorem pr_l {x : Nat} (hW : tx_W w n) (hx : x < 2) (hp : p ≤ n) (hE : qvE w n (tx_as w p) e) (he : w e = 125) : qvR w n x p (e + 1) := by
  have hen : e < n := tx_in hW (by omega)
  obtain ⟨b, k, h⟩ := hE
  refine ⟨hen, 17 + k, fun d G f K hd hS hT hK => ?_⟩
  obtain ⟨d, rfl⟩ : ∃ y, d = y + 1 := ⟨d - 1, by omega⟩
  refine ja_mod (by omega) hS hW hT hp (h d G f _ (by omega) hS hT (z_bf (by rw [z_eq (by omega) (by decide)]; omega) (z_bt rfl (c_takes hS hW hT (by omega) (Nat.le_of_lt hen) (by decide) (fun q => absurd q (by omega)) (fun _ => z_bf (by decide) ?_)))))
  rw [z_add]
  refine ja_end (by omega) hS hW hT (Nat.le_of_lt hen) (by omega) ?_
  rw [show rd_fin w (.inl e) = (true, e + 1) from if_pos he]
  exact hK
theorem pr_c {x : Nat} (hW : tx_W w n) (hx : x < 2) (hp : p ≤ n) (hE : qvE w n (tx_as w p) e) (he : w e = 44) (hR : qvR w n (x + 1) (e + 1) q) : qvR w n x p q := by
  have hen : e < n := tx_in hW (by omega)
  obtain ⟨b, k, h⟩ := hE
  obtain ⟨b', k', h'⟩ := hR
  refine ⟨b', 17 + k + k', fun d G f K hd hS hT hK => ?_⟩
  obtain ⟨d, rfl⟩ : ∃ y, d = y + 1 := ⟨d - 1, by omega⟩
  refine ja_mod (by omega) hS hW hT hp (h d G f _ (by omega) hS hT (z_bf (by rw [z_eq (by omega) (by decide)]; omega) (z_bt rfl (c_takes hS hW hT (by omega) (Nat.le_of_lt hen) (by decide) (fun _ => z_bt rfl ?_) (fun q => absurd he q)))))
  rw [z_add]
  refine w_m_takesArguments_4 hS (z_bf (by rw [z_le (by omega) (by omega)]; omega) (z_bf (by decide) (z_bt (by rw [z_lt (by omega) (by omega)]; omega) ?_)))
  exact h' (d + 1) G f K (by omega) hS hT hK
theorem pa_0 (hW : tx_W w n) (hp : p ≤ n) (h125 : w p ≠ 125) (hR : qvR w n 0 p q) : qvA w n p q := by
  obtain ⟨b', k', h'⟩ := hR
  refine ⟨b', 17 + k', fun d G f K hd hS hT hK => ?_⟩
  obtain ⟨d, rfl⟩ : ∃ y, d = y + 1 := ⟨d - 1, by omega⟩
  refine w_m_takesArguments hS (w_m_takesArguments_4 hS (z_bf (by decide) (z_bf (by decide) (z_bf (by decide) (c_next hS hW hT hp ?_)))))
  rw [tx_nxe hW (by decide)]
  exact z_bf h125 (h' (d + 1) G f K (by omega) hS hT hK)
/-- the law's macro: ab=7} -/
theorem pm_ab (hW : tx_W w n) (h0 : w p = 97) (h1 : w (p + 1) = 98) (h2 : w (p + 2) = 61) (h3 : w (p + 3) = 55) (h4 : w (p + 4) = 125) : qvM w n p (p + 5) := by
  have hpn : p + 4 < n := tx_in hW (by omega)
  obtain ⟨b, k, h⟩ := pp_n (p := p + 3) hW (by unfold tx_D; omega) (by unfold tx_D; rw [show p + 3 + 1 = p + 4 from rfl]; omega)
  have nx : ∀ j, p + j < n → tx_nx w n (p + j) = nI (w (p + j)) := fun j hj => if_pos hj
  refine ⟨hpn, 20 + k, fun d G f K hd hS hT hK => ?_⟩
  obtain ⟨d, rfl⟩ : ∃ y, d = y + 1 := ⟨d - 1, by omega⟩
  refine w_m_takesParameters hS (w_m_takesParameters_6 hS (by omega) (z_bf (by decide) (z_bf (by decide) (c_next hS hW hT (by omega) ?_))))
  rw [tx_nxL hW]
  refine z_bt (by unfold tx_L; omega) (c_next hS hW hT (by omega) ?_)
  rw [show tx_nx w n p = nI 97 from (nx 0 (by omega)).trans (congrArg nI h0)]
  refine z_bt (by decide) (w_m_takesParameters_68 hS (z_bf (by decide) ?_))
  rw [pt_a3, z_add p 1, pt_aa]
  refine c_takes hS hW hT (by omega) (by omega) (by decide) (fun q => absurd q (by omega)) (fun _ => z_bf (by decide) ?_)
  refine w_m_takesParameters_6 hS (by omega) (z_bf (by decide) (z_bf (by decide) (c_next hS hW hT (by omega) ?_)))
  rw [tx_nxL hW]
  refine z_bt (by unfold tx_L; omega) (c_next hS hW hT (by omega) ?_)
  rw [show tx_nx w n (p + 1) = nI 98 from (nx 1 (by omega)).trans (congrArg nI h1)]
  refine z_bt (by decide) (w_m_takesParameters_68 hS (z_bf (by decide) ?_))
  rw [pt_a3, z_add (p + 1) 1, pt_aa]
  refine c_takes hS hW hT (by omega) (by omega) (by decide) (fun _ => z_bt rfl ?_) (fun q => absurd h2 q)
  refine h d G f _ (by omega) hS hT (z_bt rfl ?_)
  refine w_m_takesParameters_6 hS (by omega) (z_bf (by decide) (z_bf (by decide) (c_next hS hW hT (by omega) ?_)))
  rw [tx_nxL hW]
  have x4 : w (p + 3 + 1) = 125 := h4
  refine z_bf (by unfold tx_L; omega) (z_bf (by decide) ?_)
  exact c_takes hS hW hT (by omega) (by omega) (by decide) (fun _ => z_bt rfl hK) (fun q => absurd x4 q)
end F04
