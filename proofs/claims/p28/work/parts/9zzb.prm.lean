/-! PARAMETERS of a macro, looked up by both sides -/
/-- a list, one longer -/
def kon (r : Nat) (x : Nat → Nat) : Nat → Nat
  | 0 => r
  | i + 1 => x i
/-- parameters: m of them, node x i, letter at a i; they end at e -/
def pA (A : Nat → Prop) (G : mj_G) (w x a : Nat → Nat) (m e : Nat) : Prop := a m = e ∧ x m = 0 ∧ ∀ i, i < m → A (x i) ∧ x i ≠ 0 ∧ mj_k G (x i) = 6 ∧ tx_L (w (a i)) ∧ mj_i G (x i) 4 = nI (w (a i) - 97) ∧ x (i + 1) = mj_r G (x i) 10 ∧ ((¬ w (a i + 1) = 61 ∧ a (i + 1) = a i + 1 ∧ mj_r G (x i) 6 = 0) ∨ (w (a i + 1) = 61 ∧ ∃ l, tx_E l A G (mj_r G (x i) 6) w (a i + 2) (a (i + 1)) true)) ∧ ∀ j, j < i → ¬ w (a j) = w (a i)
theorem pA_of {A : Nat → Prop} {G : mj_G} {w : Nat → Nat} : ∀ {i r p e : Nat} {sn : Nat → Prop}, tx_P i A G r w p e sn → ∃ (x a : Nat → Nat) (m : Nat), m ≤ i ∧ x 0 = r ∧ a 0 = p ∧ pA A G w x a m e ∧ ∀ i, i < m → ¬ sn (w (a i))
  | 0, r, p, e, sn, h => ⟨fun _ => 0, fun _ => p, 0, Nat.le_refl _, h.1.symm, rfl, ⟨h.2, rfl, fun i hi => absurd hi (by omega)⟩, fun i hi => absurd hi (by omega)⟩
  | i + 1, r, p, e, sn, h => by
    rcases h with ⟨h1, h2, -⟩ | ⟨h1, h2, h3, h4, h5, h6, m, h7, h8⟩
    · exact ⟨fun _ => 0, fun _ => p, 0, Nat.zero_le _, h1.symm, rfl, ⟨h2, rfl, fun i hi => absurd hi (by omega)⟩, fun i hi => absurd hi (by omega)⟩
    · obtain ⟨x, a, k, k1, k2, k3, ⟨k4, k5, k6⟩, k7⟩ := pA_of h8
      refine ⟨kon r x, kon p a, k + 1, by omega, rfl, rfl, ⟨k4, k5, fun j hj => ?_⟩, fun j hj => ?_⟩
      · cases j with
        | zero =>
          refine ⟨h1, h2, h3, h4, h6, k2, ?_, fun j hj => absurd hj (by omega)⟩
          show (¬ w (p + 1) = 61 ∧ a 0 = p + 1 ∧ mj_r G r 6 = 0) ∨ (w (p + 1) = 61 ∧ ∃ l, tx_E l A G (mj_r G r 6) w (p + 2) (a 0) true)
          rw [k3]
          exact h7
        | succ j =>
          obtain ⟨g1, g2, g3, g4, g5, g6, g7, g8⟩ := k6 j (by omega)
          refine ⟨g1, g2, g3, g4, g5, g6, g7, fun j' hj' => ?_⟩
          cases j' with
          | zero => exact fun q => k7 j (by omega) (Or.inr q.symm)
          | succ j' => exact g8 j' (by omega)
      · cases j with
        | zero => exact h5
        | succ j => exact fun q => k7 j (by omega) (Or.inl q)
section PAR
variable {A : Nat → Prop} {G G' : mj_G} {w x a lt : Nat → Nat} {n m e d k l T tg rm : Nat} {f f0 : mm_F}
theorem pA_lt (h : pA A G w x a m e) {i : Nat} (hi : i < m) : a i + 1 ≤ a (i + 1) := by
  obtain ⟨-, -, -, -, -, -, g, -⟩ := h.2.2 i hi
  rcases g with ⟨-, g, -⟩ | ⟨-, l, g⟩
  · omega
  · have := (tx_E_ch g).1
    omega
theorem pA_le (h : pA A G w x a m e) : ∀ {j i : Nat}, i + j = m → a i + j ≤ e
  | 0, i, hi => by
    have q : i = m := by omega
    rw [q, h.1]
    exact Nat.le_refl _
  | j + 1, i, hi => by
    have h1 := pA_le h (j := j) (i := i + 1) (by omega)
    have h2 := pA_lt h (i := i) (by omega)
    omega
/-- the class's list of parameters -/
def pC (G : mj_G) (x lt : Nat → Nat) (m : Nat) : Prop := m ≤ 3 ∧ x m = 0 ∧ ∀ i, i < m → x i ≠ 0 ∧ mj_k G (x i) = 6 ∧ mj_r G (x i) 10 = x (i + 1) ∧ mj_i G (x i) 4 = nI (lt i) ∧ lt i < 26
theorem c_cnt9 {K : Int32 → mj_G → Prop} (hS : cs_S G) (hp : pC G x lt m) (hK : K (nI m) G) : ∀ {j i : Nat}, i + j = m → Rn_countNamed_9 d (nI i) (x i) (nI i) G K
  | 0, i, h => by
    have q : i = m := by omega
    subst q
    exact w_Rn_countNamed_9 hS (z_br (fun _ => hK) (fun _ => z_bt hp.2.1 hK))
  | j + 1, i, h => by
    obtain ⟨h1, h2, h3, -⟩ := hp.2.2 i (by omega)
    have hm := hp.1
    refine w_Rn_countNamed_9 hS (z_bf (by rw [z_le (by omega) (by omega)]; omega) (z_bf h1 ⟨h2, ?_⟩))
    rw [h3, z_add]
    exact c_cnt9 hS hp hK (j := j) (i := i + 1) (by omega)
theorem c_countNamed {K : Int32 → mj_G → Prop} (hS : cs_S G) (hk : mj_k G rm = 6) (h7 : mj_r G rm 7 = x 0) (hp : pC G x lt m) (hK : K (nI m) G) : Rn_countNamed d rm G K := by
  refine w_Rn_countNamed hS ⟨hk, ?_⟩
  rw [h7]
  exact c_cnt9 hS hp hK (j := m) (i := 0) (Nat.zero_add _)
theorem c_plc7 {K : Int32 → mj_G → Prop} (hS : cs_S G) (hp : pC G x lt m) (hl : l < 26) (h1 : ∀ i, i < m → lt i = l → K (nI i) G) (h2 : (∀ i, i < m → ¬ lt i = l) → K (Int32.ofInt (-1)) G) : ∀ {j i : Nat}, i + j = m → (∀ k, k < i → ¬ lt k = l) → Rn_placeOfParameter_7 d (nI l) (x i) (nI i) G K
  | 0, i, h, hn => by
    have q : i = m := by omega
    subst q
    exact w_Rn_placeOfParameter_7 hS (z_br (fun _ => h2 hn) (fun _ => z_bt hp.2.1 (h2 hn)))
  | j + 1, i, h, hn => by
    obtain ⟨g1, g2, g3, g4, g5⟩ := hp.2.2 i (by omega)
    have hm := hp.1
    refine w_Rn_placeOfParameter_7 hS (z_bf (by rw [z_le (by omega) (by omega)]; omega) (z_bf g1 ⟨g2, ?_⟩))
    rw [g4, z_eq (by omega) (by omega)]
    refine z_br (fun q => h1 i (by omega) q) (fun q => ?_)
    rw [g3, z_add]
    exact c_plc7 hS hp hl h1 h2 (j := j) (i := i + 1) (by omega) (fun k hk => by
      by_cases e : k = i
      · rw [e]
        exact q
      · exact hn k (by omega))
theorem c_placeOf {K : Int32 → mj_G → Prop} (hS : cs_S G) (hk : mj_k G rm = 6) (h7 : mj_r G rm 7 = x 0) (hp : pC G x lt m) (hl : l < 26) (h1 : ∀ i, i < m → lt i = l → K (nI i) G) (h2 : (∀ i, i < m → ¬ lt i = l) → K (Int32.ofInt (-1)) G) : Rn_placeOfParameter d rm (nI l) G K := by
  refine w_Rn_placeOfParameter hS ⟨hk, ?_⟩
  rw [h7]
  exact c_plc7 hS hp hl h1 h2 (j := m) (i := 0) (Nat.zero_add _) (fun k hk => absurd hk (by omega))
theorem c_ltr7 {g : Nat} {K : Int32 → mj_G → Prop} (hS : cs_S G) (hp : pC G x lt m) (hg : g < m) (hK : K (nI (lt g)) G) : ∀ {j i : Nat}, i + j = g → Rn_letterOfParameter_7 d (nI g) (x i) (nI i) G K
  | 0, i, h => by
    have q : i = g := by omega
    subst q
    obtain ⟨g1, g2, g3, g4, g5⟩ := hp.2.2 i hg
    have hm := hp.1
    refine w_Rn_letterOfParameter_7 hS (z_bt (by rw [z_le (by omega) (by omega)]; exact Nat.le_refl _) (z_bf g1 ⟨g2, ?_⟩))
    rw [g4]
    exact hK
  | j + 1, i, h => by
    obtain ⟨g1, g2, g3, g4, g5⟩ := hp.2.2 i (by omega)
    have hm := hp.1
    refine w_Rn_letterOfParameter_7 hS (z_bf (by rw [z_le (by omega) (by omega)]; omega) (z_bf g1 ⟨g2, ?_⟩))
    rw [g3, z_add]
    exact c_ltr7 hS hp hg hK (j := j) (i := i + 1) (by omega)
theorem c_letterOf {g : Nat} {K : Int32 → mj_G → Prop} (hS : cs_S G) (hk : mj_k G rm = 6) (h7 : mj_r G rm 7 = x 0) (hp : pC G x lt m) (hg : g < m) (hK : K (nI (lt g)) G) : Rn_letterOfParameter d rm (nI g) G K := by
  refine w_Rn_letterOfParameter hS ⟨hk, ?_⟩
  rw [h7]
  exact c_ltr7 hS hp hg hK (j := g) (i := 0) (Nat.zero_add _)
/-! the model's -/
theorem pa_id {y q : Int32} : mj_u2 (mj_u2 (mj_u2 (mj_u2 f 1714 22 y) 1714 23 q) 1714 22 (f 1714 22)) 1714 23 (f 1714 23) = f := by
  funext a i
  unfold mj_u2
  by_cases h3 : a = 1714 ∧ i = 23
  · rw [if_pos h3, h3.1, h3.2]
  · by_cases h2 : a = 1714 ∧ i = 22
    · rw [if_neg h3, if_pos h2, h2.1, h2.2]
    · rw [if_neg h3, if_neg h2, if_neg h3, if_neg h2]
theorem p_pa27 {Gm : mj_G} {x4 x5 : Int32} {K : Int32 → mm_F → Prop} (hM : mm_S Gm) (hT : mr_T f0 T w n) (hp : pA A G w x a m e) (hm : m ≤ 3) (hk : k ≤ 3) (he : w e = 125) (hen : e < n) (hd : 300 ≤ d) (hK : ∀ q, q = (if k < m then a k else e) → K (nI q) (mj_u2 (mj_u2 (sp_a f0 q) 1714 22 x4) 1714 23 x5)) : ∀ {j i : Nat}, i + j = m → i ≤ k → m_parameterAt_27 Gm (d + 1) (nI k) x4 x5 (nI i) (sp_a f0 (a i)) K
  | 0, i, hi, hik => by
    have q : i = m := by omega
    subst q
    have hn := hT.1.2.1.1
    have ha : a i = e := hp.1
    have fin : K ((sp_a f0 (a i)) 1714 23) (mj_u2 (mj_u2 (sp_a f0 (a i)) 1714 22 x4) 1714 23 x5) := by
      rw [sp_23]
      refine hK (a i) ?_
      rw [if_neg (by omega)]
      exact ha
    refine w_m_parameterAt_27 hM (z_br (fun _ => fin) (fun _ => c_here hM hT (by omega) (by omega) (z_bt ?_ fin)))
    rw [ha, tx_nxi hen, he]
  | j + 1, i, hi, hik => by
    have hW := hT.1.2.1
    have hn := hW.1
    obtain ⟨g1, g2, g3, g4, g5, g6, g7, g8⟩ := hp.2.2 i (by omega)
    have l1 := pA_le hp (j := j + 1) (i := i) hi
    have l2 := pA_le hp (j := j) (i := i + 1) (by omega)
    have hw1 := tx_le hW (a i + 1)
    refine w_m_parameterAt_27 hM (z_br (fun q => ?_) (fun q => c_here hM hT (by omega) (by omega) (z_bf ?_ ?_)))
    · rw [z_le (by omega) (by omega)] at q
      rw [sp_23]
      refine hK (a i) ?_
      rw [if_pos (by omega), show k = i by omega]
    · have hl := tx_le hW (a i)
      rw [tx_nxi (by omega), z_eq (by omega) (by omega)]
      unfold tx_L at g4
      omega
    · rw [z_le (by omega) (by omega)] at q
      rw [sp_23, z_add, sp_aa]
      refine c_here hM hT (by omega) (by omega) ?_
      rw [tx_nxi (by omega), z_eq (by omega) (by omega)]
      rcases g7 with ⟨b1, b2, b3⟩ | ⟨b1, l, b2⟩
      · refine z_bf b1 ?_
        rw [z_add, ← b2]
        exact p_pa27 hM hT hp hm hk he hen hd hK (j := j) (i := i + 1) (by omega) (by omega)
      · refine z_bt b1 ?_
        rw [sp_23, z_add, sp_aa]
        refine (sk_all hM hT b2 (by omega)).2 rfl d _ (by omega) ?_
        rw [z_add]
        exact p_pa27 hM hT hp hm hk he hen hd hK (j := j) (i := i + 1) (by omega) (by omega)
/-- where a parameter's letter stands -/
theorem p_pat {Gm : mj_G} {K : Int32 → mm_F → Prop} (hM : mm_S Gm) (hT : mt_T f T w n) (hp : pA A G w x a m e) (h0 : a 0 = tg + 3) (hm : m ≤ 3) (hk : k ≤ 3) (he : w e = 125) (hen : e < n) (hd : 301 ≤ d) (hK : K (nI (if k < m then a k else e)) f) : m_parameterAt Gm d (nI T) (nI tg) (nI k) f K := by
  obtain ⟨d, rfl⟩ : ∃ y, d = y + 1 := ⟨d - 1, by omega⟩
  refine w_m_parameterAt hM ?_
  rw [z_add, ← h0]
  have hT2 : mr_T (mj_u2 f 1714 22 (nI T)) T w n := ⟨mt_o hT (fun _ => rfl) (fun _ => rfl), z_u2s⟩
  refine p_pa27 (f0 := mj_u2 f 1714 22 (nI T)) hM hT2 hp hm hk he hen (by omega) (fun q hq => ?_) (j := m) (i := 0) (by omega) (by omega)
  rw [hq]
  unfold sp_a
  rw [pa_id]
  exact hK
theorem p_pof3 {Gm : mj_G} {K : Int32 → mm_F → Prop} (hM : mm_S Gm) (hT : mt_T f T w n) (hp : pA A G w x a m e) (h0 : a 0 = tg + 3) (hm : m ≤ 3) (he : w e = 125) (hen : e < n) (hd : 301 ≤ d) (hl : tx_L l) (h1 : ∀ i, i < m → w (a i) = l → K (nI i) f) (h2 : (∀ i, i < m → ¬ w (a i) = l) → K (nI 3) f) : ∀ {j i : Nat}, i + j = 3 → (∀ k, k < i → k < m → ¬ w (a k) = l) → m_parameterOf_3 Gm (d + 1) (nI T) (nI tg) (nI l) (nI i) f K
  | 0, i, hi, hn => by
    have q : i = 3 := by omega
    subst q
    exact w_m_parameterOf_3 hM (z_bt (by decide) (h2 (fun i hi => hn i (by omega) hi)))
  | j + 1, i, hi, hn => by
    have hW := hT.2.1
    have hn80 := hW.1
    have hl2 : 97 ≤ l ∧ l ≤ 122 := hl
    refine w_m_parameterOf_3 hM (z_bf (by rw [z_le (by omega) (by omega)]; omega) (p_pat hM hT hp h0 hm (by omega) he hen hd (c_letter hM hT ?_ ?_)))
    · by_cases q : i < m
      · rw [if_pos q]
        have := pA_le hp (j := m - i) (i := i) (by omega)
        omega
      · rw [if_neg q]
        omega
    · by_cases q : i < m
      · have := pA_le hp (j := m - i) (i := i) (by omega)
        have hwa := tx_le hW (a i)
        rw [if_pos q, tx_nxi (by omega), z_eq (by omega) (by omega)]
        refine z_br (fun t => h1 i q t) (fun t => ?_)
        rw [z_add]
        exact p_pof3 hM hT hp h0 hm he hen hd hl h1 h2 (j := j) (i := i + 1) (by omega) (fun k hk hkm => by
          by_cases e : k = i
          · rw [e]
            exact t
          · exact hn k (by omega) hkm)
      · rw [if_neg q, tx_nxi hen, he, z_eq (by omega) (by omega)]
        refine z_bf (by omega) ?_
        rw [z_add]
        exact p_pof3 hM hT hp h0 hm he hen hd hl h1 h2 (j := j) (i := i + 1) (by omega) (fun k hk hkm => hn k (by omega) hkm)
theorem p_parameterOf {Gm : mj_G} {K : Int32 → mm_F → Prop} (hM : mm_S Gm) (hT : mt_T f T w n) (hp : pA A G w x a m e) (h0 : a 0 = tg + 3) (hm : m ≤ 3) (he : w e = 125) (hen : e < n) (hd : 302 ≤ d) (hl : tx_L l) (h1 : ∀ i, i < m → w (a i) = l → K (nI i) f) (h2 : (∀ i, i < m → ¬ w (a i) = l) → K (nI 3) f) : m_parameterOf Gm d (nI T) (nI tg) (nI l) f K := by
  obtain ⟨d, rfl⟩ : ∃ y, d = y + 1 := ⟨d - 1, by omega⟩
  exact w_m_parameterOf hM (p_pof3 hM hT hp h0 hm he hen (by omega) hl h1 h2 (j := 3) (i := 0) (by omega) (fun k hk => absurd hk (by omega)))
end PAR
