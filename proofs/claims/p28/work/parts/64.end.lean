/-! WHERE A TEMPLATE MAY END, by both sides alike -/
theorem z_2003 {S : Int32} {i : Nat} (hi : i < 32) : (qb (q_2003 S (nI i)) = true) = bt S i := by
  have e1 : Int32.ofInt 1 = nI 1 := by decide
  have e0 : Int32.ofInt 0 = nI 0 := by decide
  have ez : (0 : Int32) = nI 0 := by decide
  unfold q_2003
  rw [e1, e0, ez]
  show (qb (if mm_shr S (nI i) &&& nI 1 = nI 0 then nI 0 else nI 1) = true) = bt S i
  by_cases hb : bt S i
  · rw [if_neg (show ¬ (mm_shr S (nI i) &&& nI 1 = nI 0) by rw [bt_0r hi]; exact fun q => q hb)]
    exact propext ⟨fun _ => hb, fun _ => rfl⟩
  · rw [if_pos (show mm_shr S (nI i) &&& nI 1 = nI 0 by rw [bt_0r hi]; exact hb)]
    exact propext ⟨fun h => absurd h (by decide), fun h => absurd h hb⟩
theorem bt_ext {S T : Int32} (h : ∀ i, i < 32 → (bt S i ↔ bt T i)) : S = T := by
  apply Int32.toBitVec.inj
  apply BitVec.eq_of_getLsbD_eq
  intro i hi
  have h1 := h i hi
  unfold bt at h1
  exact Bool.eq_iff_iff.mpr h1
theorem bt_and2 {S T : Int32} {i : Nat} : bt (S &&& T) i = (bt S i ∧ bt T i) := by
  unfold bt
  rw [show (S &&& T).toBitVec = S.toBitVec &&& T.toBitVec from rfl, BitVec.getLsbD_and, Bool.and_eq_true]
theorem bt_1l {i j : Nat} (hi : i < 32) (hj : j < 32) : bt (mm_shl (nI 1) (nI i)) j = (j = i) := by
  unfold bt
  rw [bt_sl hi, bt_one hi hj, decide_eq_true_eq]
/-- a set of contexts -/
def s8 (S : Int32) : Prop := ∀ i, 8 ≤ i → i < 32 → ¬ bt S i
theorem s8_or {S T : Int32} (h1 : s8 S) (h2 : s8 T) : s8 (S ||| T) := fun i a b q => by
  rw [bt_or2] at q
  exact q.elim (h1 i a b) (h2 i a b)
theorem s8_1 {i : Nat} (hi : i < 8) : s8 (mm_shl (nI 1) (nI i)) := fun j a b q => by
  rw [bt_1l (by omega) b] at q
  omega
theorem s8_nI {k : Nat} (hk : k < 256) : s8 (nI k) := by
  have h : ((List.range 256).all fun k => (List.range 32).all fun i => Nat.blt i 8 || !(nI k).toBitVec.getLsbD i) = true := by decide +kernel
  intro i a b q
  have h1 := List.all_eq_true.mp (List.all_eq_true.mp h k (List.mem_range.mpr hk)) i (List.mem_range.mpr b)
  unfold bt at q
  rw [q] at h1
  have h2 : Nat.blt i 8 = true := by simpa using h1
  have := Nat.le_of_ble_eq_true h2
  omega
/-- how many contexts there are -/
def s8c (S : Int32) : Nat := ((List.range 8).filter fun i => S.toBitVec.getLsbD i).length
theorem fl_le {p q : Nat → Bool} (h : ∀ i, p i = true → q i = true) : ∀ (l : List Nat), (l.filter p).length ≤ (l.filter q).length
  | [] => Nat.le_refl _
  | x :: l => by
    have ih := fl_le h l
    cases hp : p x with
    | true =>
      rw [List.filter_cons_of_pos hp, List.filter_cons_of_pos (h x hp)]
      exact Nat.succ_le_succ ih
    | false =>
      rw [List.filter_cons_of_neg (by rw [hp]; decide)]
      cases hq : q x with
      | true =>
        rw [List.filter_cons_of_pos hq]
        exact Nat.le_succ_of_le ih
      | false =>
        rw [List.filter_cons_of_neg (by rw [hq]; decide)]
        exact ih
theorem fl_lt {p q : Nat → Bool} (h : ∀ i, p i = true → q i = true) {x : Nat} (hx : q x = true) (hn : p x = false) : ∀ (l : List Nat), x ∈ l → (l.filter p).length < (l.filter q).length
  | [], hm => nomatch hm
  | y :: l, hm => by
    rcases List.mem_cons.mp hm with rfl | hm
    · rw [List.filter_cons_of_pos hx, List.filter_cons_of_neg (by rw [hn]; decide)]
      exact Nat.lt_succ_of_le (fl_le h l)
    · have ih := fl_lt h hx hn l hm
      cases hp : p y with
      | true =>
        rw [List.filter_cons_of_pos hp, List.filter_cons_of_pos (h y hp)]
        exact Nat.succ_lt_succ ih
      | false =>
        rw [List.filter_cons_of_neg (by rw [hp]; decide)]
        cases hq : q y with
        | true =>
          rw [List.filter_cons_of_pos hq]
          exact Nat.lt_succ_of_lt ih
        | false =>
          rw [List.filter_cons_of_neg (by rw [hq]; decide)]
          exact ih
theorem s8c_le (S : Int32) : s8c S ≤ 8 := by
  have h : s8c S ≤ (List.range 8).length := List.length_filter_le _ _
  rw [List.length_range] at h
  exact h
theorem s8c_lt {S T : Int32} (hT : s8 T) (h : ¬ (S ||| T) = S) : s8c S < s8c (S ||| T) := by
  have hx : ∃ i, i < 8 ∧ bt T i ∧ ¬ bt S i := by
    apply Classical.byContradiction
    intro hno
    refine h (bt_ext (fun i hi => ?_))
    rw [bt_or2]
    refine ⟨fun q => q.elim id (fun q => ?_), Or.inl⟩
    by_cases h8 : i < 8
    · apply Classical.byContradiction
      exact fun hn => hno ⟨i, h8, q, hn⟩
    · exact absurd q (hT i (by omega) hi)
  obtain ⟨i, h1, h2, h3⟩ := hx
  have hor : ∀ j, (S ||| T).toBitVec.getLsbD j = true ↔ S.toBitVec.getLsbD j = true ∨ T.toBitVec.getLsbD j = true := fun j => by
    have := bt_or2 (S := S) (T := T) (i := j)
    unfold bt at this
    rw [this]
  refine fl_lt (fun j hj => (hor j).mpr (Or.inl hj)) (x := i) ((hor i).mpr (Or.inr h2)) ?_ _ (List.mem_range.mpr h1)
  exact Bool.eq_false_iff.mpr h3
section FS
variable {G Gm : mj_G} {f : mm_F} {w : Nat → Nat} {n t : Nat}
/-- all contexts of a set, led on -/
theorem fs_lead {c : Nat} (hc : c < 128) (S : Int32) (hS : cs_S G) (hM : mm_S Gm) : ∀ (m i : Nat) (acc : Int32), i + m = 8 → s8 acc → ∃ v, s8 v ∧ (∀ d K, 15 ≤ d → K v G → Fo_leadAll_4 (d + 1) S (nI c) acc (nI i) G K) ∧ (∀ d K, 15 ≤ d → K v f → m_leadsAll_4 Gm (d + 1) S (nI c) acc (nI i) f K)
  | 0, i, acc, hi, ha => ⟨acc, ha, fun d K hd h => w_Fo_leadAll_4 hS hd (z_bt (by rw [z_le (by omega) (by omega)]; omega) h), fun d K hd h => w_m_leadsAll_4 hM hd (z_bt (by rw [z_le (by omega) (by omega)]; omega) h)⟩
  | m + 1, i, acc, hi, ha => by
    have he : q_12033 (nI i) (nI c) = q_13076 (nI i) (nI c) := q_lead_eq (by omega) hc
    have h0 : ¬ nI 8 ≤ nI i := by rw [z_le (by omega) (by omega)]; omega
    by_cases hb : bt S i
    · have hl : ∃ j, j < 8 ∧ q_12033 (nI i) (nI c) = nI j := by
        have hall : ((List.range 8).all fun a => (List.range 128).all fun b => (List.range 8).any fun j => decide (q_12033 (nI a) (nI b) = nI j)) = true := by decide +kernel
        have h1 := List.all_eq_true.mp (List.all_eq_true.mp hall i (List.mem_range.mpr (by omega))) c (List.mem_range.mpr hc)
        obtain ⟨j, h2, h3⟩ := List.any_eq_true.mp h1
        exact ⟨j, List.mem_range.mp h2, of_decide_eq_true h3⟩
      obtain ⟨j, hj, hl⟩ := hl
      obtain ⟨v, v1, v2, v3⟩ := fs_lead hc S hS hM m (i + 1) (acc ||| mm_shl (nI 1) (nI j)) (by omega) (s8_or ha (s8_1 hj))
      refine ⟨v, v1, fun d K hd h => w_Fo_leadAll_4 hS hd (z_bf h0 ?_), fun d K hd h => w_m_leadsAll_4 hM hd (z_bf h0 ?_)⟩
      · rw [z_2003 (by omega), hl, z_add]
        exact z_bt hb (v2 d K hd h)
      · rw [bt_1r (by omega), ← he, hl, z_add]
        exact z_bt hb (v3 d K hd h)
    · obtain ⟨v, v1, v2, v3⟩ := fs_lead hc S hS hM m (i + 1) acc (by omega) ha
      refine ⟨v, v1, fun d K hd h => w_Fo_leadAll_4 hS hd (z_bf h0 ?_), fun d K hd h => w_m_leadsAll_4 hM hd (z_bf h0 ?_)⟩
      · rw [z_2003 (by omega), z_add]
        exact z_bf hb (v2 d K hd h)
      · rw [bt_1r (by omega), z_add]
        refine z_bf hb ?_
        rw [show acc ||| nI 0 = acc from bt_ext (fun i _ => by rw [bt_or2]; exact ⟨fun q => q.elim id (fun q => absurd q bt_0), Or.inl⟩)]
        exact v3 d K hd h
/-- whether an expression may be safe: the model at a character -/
def ms_hit (w : Nat → Nat) (L : List (Nat × Nat)) (pre : Prop) (c : Nat) : Prop := c = 39 ∨ (pre ∧ c = 114) ∨ (¬ pre ∧ tx_L c ∧ tl_st w (c - 97) L)
theorem ms_step {p0 q0 a k0 r0 s0 d : Nat} {b pa hm : Int32} {A : Nat → Prop} {G' : mj_G} {L : List (Nat × Nat)} {K : Bool → mm_F → Prop} {x v : Bool} (hM : mm_S Gm) (hT : mt_T f t w n) (hd : 18 ≤ d) (hP : tp_P w s0 pa) (hB : tb_B k0 A G' hm b r0 w s0 n L) (ha : p0 ≤ a) (hq : a < q0) (hqn : q0 ≤ n)
    (hv : v = true ↔ x = true ∨ ms_hit w L (p0 < a ∧ w (a - 1) = 124) (w a)) (h : m_mayBeSafe_6 Gm (d + 1) (nI t) (nI p0) (nI q0) (bI v) (nI (a + 1)) f K) : m_mayBeSafe_6 Gm (d + 1) (nI t) (nI p0) (nI q0) (bI x) (nI a) f K := by
  have hW := hT.2.1
  have hn := hW.1
  have hw := tx_le hW a
  refine w_m_mayBeSafe_6 hM ?_
  rw [z_le (by omega) (by omega)]
  refine z_bf (by omega) (c_letter hM hT (by omega) ?_)
  rw [tx_nxi (by omega)]
  have b1 : bI true = nI 1 := rfl
  have b0 : bI false = nI 0 := rfl
  have fin : ∀ {s1 : Nat}, (s1 = 1 ∧ p0 < a ∧ w (a - 1) = 124) ∨ (s1 = 0 ∧ ¬ (p0 < a ∧ w (a - 1) = 124)) → m_mayBeSafe_46 Gm (d + 1) (nI t) (nI p0) (nI q0) (bI x) (nI a) (nI (w a)) (nI s1) f K := fun {s1} hs => by
    refine w_m_mayBeSafe_46 hM (by omega) ?_
    have hT' : v = true → m_mayBeSafe_6 Gm (d + 1) (nI t) (nI p0) (nI q0) (nI 1) (nI (a + 1)) f K := fun q => by rw [q] at h; exact h
    have hF' : ¬ v = true → m_mayBeSafe_6 Gm (d + 1) (nI t) (nI p0) (nI q0) (nI 0) (nI (a + 1)) f K := fun q => by rw [Bool.eq_false_iff.mpr q] at h; exact h
    rw [z_add]
    cases x with
    | true => exact z_bf (by decide) (hT' (hv.mpr (Or.inl rfl)))
    | false =>
      have hv' : v = true ↔ ms_hit w L (p0 < a ∧ w (a - 1) = 124) (w a) := hv.trans ⟨fun q => q.elim (fun q => by cases q) id, Or.inr⟩
      refine z_bt rfl ?_
      rw [z_eq (b := 39) (by omega) (by omega), z_eq (b := 114) (by omega) (by omega), z_13005 (by omega)]
      refine z_br (fun h39 => hT' (hv'.mpr (Or.inl h39))) (fun h39 => ?_)
      have lett : ¬ (p0 < a ∧ w (a - 1) = 124) → mm_br (tx_L (w a)) (m_isSetAnywhere Gm d (nI t) (nI (w a)) f (fun v9 f8 => mm_br (v9 = true) (m_mayBeSafe_6 Gm (d + 1) (nI t) (nI p0) (nI q0) (nI 1) (nI (a + 1)) f8 K) (m_mayBeSafe_6 Gm (d + 1) (nI t) (nI p0) (nI q0) (nI 0) (nI (a + 1)) f8 K))) (m_mayBeSafe_6 Gm (d + 1) (nI t) (nI p0) (nI q0) (nI 0) (nI (a + 1)) f K) := fun hpre => by
        refine z_br (fun hL => ?_) (fun hL => hF' (fun q => ?_))
        · have e97 : w a = 97 + (w a - 97) := by have := hL.1; omega
          rw [e97]
          refine c_isSetAnywhere hM hT (by omega) (by have := hL.2; omega) hP hB (fun q => z_bt rfl (hT' (hv'.mpr (Or.inr (Or.inr ⟨hpre, hL, q⟩))))) (fun q => z_bf (by decide) (hF' (fun q' => ?_)))
          rcases hv'.mp q' with q' | q' | q'
          · exact h39 q'
          · exact hpre q'.1
          · exact q q'.2.2
        · rcases hv'.mp q with q | q | q
          · exact h39 q
          · exact hpre q.1
          · exact hL q.2.1
      rcases hs with ⟨rfl, hpre⟩ | ⟨rfl, hpre⟩
      · refine z_bf (by decide) (z_br (fun h114 => hT' (hv'.mpr (Or.inr (Or.inl ⟨hpre, h114⟩)))) (fun h114 => z_bf (by decide) (hF' (fun q => ?_))))
        rcases hv'.mp q with q | q | q
        · exact h39 q
        · exact h114 q.2
        · exact q.1 hpre
      · exact z_bt rfl (z_bt rfl (lett hpre))
  rw [z_le (by omega) (by omega)]
  refine z_br (fun hle => fin (Or.inr ⟨rfl, fun q => by omega⟩)) (fun hle => ?_)
  rw [z_sub (by omega)]
  refine c_letter hM hT (by omega) ?_
  rw [tx_nxi (by omega), z_eq (by have := tx_le hW (a - 1); omega) (by omega)]
  exact z_br (fun q => fin (Or.inl ⟨rfl, by omega, q⟩)) (fun q => fin (Or.inr ⟨rfl, fun q' => q q'.2⟩))
/-- whether an expression may be safe, by both sides -/
theorem fs_safe {A A' : Nat → Prop} {G' : mj_G} {p0 q0 k0 r0 s0 : Nat} {b pa hm ch : Int32} {L : List (Nat × Nat)} (hS : cs_S G) (hM : mm_S Gm) (hT : mt_T f t w n) (hP : tp_P w s0 pa) (hB : tb_B k0 A' G' hm b r0 w s0 n L) (hch : ∀ i, i < 26 → (bt ch i ↔ tl_st w i L)) (hqn : q0 ≤ n) : ∀ {l r p q pr dep}, tx_E l A G r w p q pr → p0 ≤ p → q ≤ q0 → dep + (q - p) ≤ 80 → (p0 < p → w (p - 1) ≠ 124) → ∃ v : Bool,
    (∀ d K, q - p + 20 ≤ d → K v G → Fo_mayBeSafe d r ch (nI dep) G K) ∧
    (∀ d (x : Bool) K, 18 ≤ d → m_mayBeSafe_6 Gm (d + 1) (nI t) (nI p0) (nI q0) (bI (x || v)) (nI q) f K → m_mayBeSafe_6 Gm (d + 1) (nI t) (nI p0) (nI q0) (bI x) (nI p) f K)
  | 0, _, _, _, _, _, h, _, _, _, _ => h.elim
  | l + 1, r, p, q, pr, dep, h, hp0, hq, hdep, hpre => by
    have hW := hT.2.1
    have hn := hW.1
    obtain ⟨hlt, -⟩ := tx_E_ch h
    obtain ⟨-, hr0, hk, h⟩ := h
    -- the class up to its cases
    have cls : ∀ d K, 18 ≤ d → mm_br ((mj_i G r 0) = nI 1) (K false G) (mm_br ((mj_i G r 0) = nI 2) (K true G) (mm_br ((mj_i G r 0) = nI 3) (K (qb (q_2003 ch (mj_i G r 1))) G) (mm_br ((mj_i G r 0) = nI 4) (K (qb (q_2003 ch (mj_i G r 1))) G) (mm_br ((mj_i G r 0) = nI 114) (K true G) (Fo_mayBeSafe d (mj_r G r 4) ch (nI (dep + 1)) G (fun v3 G2 => mm_br (v3 = true) (K true G2) ((mj_k G2 r = 1) ∧ Fo_mayBeSafe d (mj_r G2 r 5) ch (nI (dep + 1)) G2 (fun v6 G5 => mm_br (v6 = true) (K true G5) (K false G5))))))))) → Fo_mayBeSafe (d + 1) r ch (nI dep) G K := fun d K hd h => by
      refine w_Fo_mayBeSafe hS (by omega) (z_bf hr0 ?_)
      rw [z_lt (by omega) (by omega), z_add]
      exact z_bt (by omega) ⟨hk, h⟩
    have none0 : ∀ d K dep', 18 ≤ d → K false G → Fo_mayBeSafe d 0 ch dep' G K := fun d K dep' hd h => by
      obtain ⟨d, rfl⟩ : ∃ e, d = e + 1 := ⟨d - 1, by omega⟩
      exact w_Fo_mayBeSafe hS (by omega) (z_bt rfl h)
    -- parts: the left one, and perhaps a right one
    have prt : ∀ (c : Nat) (vl vr : Bool), mj_i G r 0 = nI c → 5 ≤ c → c ≤ 126 → c ≠ 114 → (∀ d K, q - p + 19 ≤ d → K vl G → Fo_mayBeSafe d (mj_r G r 4) ch (nI (dep + 1)) G K) → (∀ d K, q - p + 19 ≤ d → K vr G → Fo_mayBeSafe d (mj_r G r 5) ch (nI (dep + 1)) G K) → ∀ d K, q - p + 20 ≤ d → K (vl || vr) G → Fo_mayBeSafe d r ch (nI dep) G K := fun c vl vr hc h5 hc2 hc3 hl hr d K hd hK => by
      obtain ⟨d, rfl⟩ : ∃ e, d = e + 1 := ⟨d - 1, by omega⟩
      refine cls d K (by omega) ?_
      have e : ∀ {x : Nat}, x ≤ 126 → (mj_i G r 0 = nI x) = (c = x) := fun hx => by rw [hc, z_eq (by omega) (by omega)]
      rw [e (by decide), e (by decide), e (by decide), e (by decide), e (by decide)]
      refine z_bf (by omega) (z_bf (by omega) (z_bf (by omega) (z_bf (by omega) (z_bf hc3 (hl d _ (by omega) ?_)))))
      cases vl with
      | true => exact z_bt rfl hK
      | false =>
        refine z_bf (by decide) ⟨hk, hr d _ (by omega) ?_⟩
        cases vr with
        | true => exact z_bt rfl hK
        | false => exact z_bf (by decide) hK
    -- a character that changes nothing
    have sk : ∀ a d (x : Bool) K, 18 ≤ d → p0 ≤ a → a < q0 → ¬ ms_hit w L (p0 < a ∧ w (a - 1) = 124) (w a) → m_mayBeSafe_6 Gm (d + 1) (nI t) (nI p0) (nI q0) (bI x) (nI (a + 1)) f K → m_mayBeSafe_6 Gm (d + 1) (nI t) (nI p0) (nI q0) (bI x) (nI a) f K := fun a d x K hd h1 h2 hno h => ms_step hM hT hd hP hB h1 h2 hqn ⟨Or.inl, fun q => q.elim id (fun q => absurd q hno)⟩ h
    -- many of them
    have sks : ∀ m a d (x : Bool) K, 18 ≤ d → p0 ≤ a → a + m ≤ q0 → (∀ j, a ≤ j → j < a + m → w j ≠ 39 ∧ ¬ tx_L (w j)) → m_mayBeSafe_6 Gm (d + 1) (nI t) (nI p0) (nI q0) (bI x) (nI (a + m)) f K → m_mayBeSafe_6 Gm (d + 1) (nI t) (nI p0) (nI q0) (bI x) (nI a) f K := fun m => by
      induction m with
      | zero => exact fun a d x K _ _ _ _ h => h
      | succ m ih =>
        intro a d x K hd h1 h2 hj h
        refine sk a d x K hd h1 (by omega) (fun q => ?_) (ih (a + 1) d x K hd (by omega) (by omega) (fun j a b => hj j (by omega) (by omega)) ?_)
        · have := hj a (Nat.le_refl _) (by omega)
          rcases q with q | q | q
          · exact this.1 q
          · refine this.2 ?_
            rw [q.2]; exact ⟨by decide, by decide⟩
          · exact this.2 q.2.1
        · rw [show a + 1 + m = a + (m + 1) by omega]
          exact h
    -- once it is so, it stays so
    have stay : ∀ m a d K, 18 ≤ d → p0 ≤ a → a + m ≤ q0 → m_mayBeSafe_6 Gm (d + 1) (nI t) (nI p0) (nI q0) (bI true) (nI (a + m)) f K → m_mayBeSafe_6 Gm (d + 1) (nI t) (nI p0) (nI q0) (bI true) (nI a) f K := fun m => by
      induction m with
      | zero => exact fun a d K _ _ _ h => h
      | succ m ih =>
        intro a d K hd h1 h2 h
        refine ms_step (v := true) hM hT hd hP hB h1 (by omega) hqn ⟨fun _ => Or.inl rfl, fun _ => rfl⟩ (ih (a + 1) d K hd (by omega) (by omega) ?_)
        rw [show a + 1 + m = a + (m + 1) by omega]
        exact h
    have letter : ∀ (hL : tx_L (w p)) (v : Bool), v = qb (q_2003 ch (nI (w p - 97))) → ∀ d (x : Bool) K, 18 ≤ d → m_mayBeSafe_6 Gm (d + 1) (nI t) (nI p0) (nI q0) (bI (x || v)) (nI (p + 1)) f K → m_mayBeSafe_6 Gm (d + 1) (nI t) (nI p0) (nI q0) (bI x) (nI p) f K := fun hL v hv d x K hd h => by
      refine ms_step (v := x || v) hM hT hd hP hB hp0 (by omega) hqn ?_ h
      have h97 := hL.1
      have h122 := hL.2
      rw [Bool.or_eq_true, hv, z_2003 (by omega), hch _ (by omega)]
      have np : ¬ (p0 < p ∧ w (p - 1) = 124) := fun q => hpre q.1 q.2
      constructor
      · rintro (q | q)
        · exact Or.inl q
        · exact Or.inr (Or.inr (Or.inr ⟨np, hL, q⟩))
      · rintro (q | q | q | q)
        · exact Or.inl q
        · omega
        · exact absurd q.1 np
        · exact Or.inr q.2.2
    rcases h with ⟨m, a1, a2, a3, a4, a5, a6, a7⟩ | ⟨a1, a2, a3, a4, a5⟩ | ⟨a1, a2, a3, a4, a5, a6, a7⟩ | ⟨a1, a2, a3, a4, a5, -⟩ | ⟨a1, a2, a3, a4, a5⟩ | ⟨a1, m, a2, a3, a4, a5, a6, a7, a8⟩ | ⟨-, m, a1, a2, a3, a4, a5, a6, a7⟩ | ⟨-, m, a1, a2, a3, a4, a5, a6, a7⟩
    · -- a number
      subst a3
      refine ⟨false, fun d K hd hK => ?_, fun d x K hd h => ?_⟩
      · obtain ⟨d, rfl⟩ : ∃ e, d = e + 1 := ⟨d - 1, by omega⟩
        exact cls d K (by omega) (z_bt a6 hK)
      · rw [Bool.or_false] at h
        refine sks m p d x K hd hp0 hq (fun j b1 b2 => ?_) h
        have := a4 j b1 b2
        unfold tx_D at this
        unfold tx_L
        omega
    · -- a variable
      subst a2
      refine ⟨qb (q_2003 ch (nI (w p - 97))), fun d K hd hK => ?_, letter a1 _ rfl⟩
      obtain ⟨d, rfl⟩ : ∃ e, d = e + 1 := ⟨d - 1, by omega⟩
      refine cls d K (by omega) ?_
      rw [a4, a5]
      exact z_bf (by decide) (z_bf (by decide) (z_bt rfl hK))
    · -- an item
      subst a4
      refine ⟨qb (q_2003 ch (nI (w p - 97))), fun d K hd hK => ?_, fun d x K hd h => letter a1 _ rfl d x K hd ?_⟩
      · obtain ⟨d, rfl⟩ : ∃ e, d = e + 1 := ⟨d - 1, by omega⟩
        refine cls d K (by omega) ?_
        rw [a5, a6]
        exact z_bf (by decide) (z_bf (by decide) (z_bf (by decide) (z_bt rfl hK)))
      · refine sks 2 (p + 1) d _ K hd (by omega) (by omega) (fun j b1 b2 => ?_) h
        unfold tx_D at a3
        unfold tx_L
        rcases (by omega : j = p + 1 ∨ j = p + 2) with rfl | rfl <;> omega
    · -- a text
      refine ⟨true, fun d K hd hK => ?_, fun d x K hd h => ?_⟩
      · obtain ⟨d, rfl⟩ : ∃ e, d = e + 1 := ⟨d - 1, by omega⟩
        refine cls d K (by omega) ?_
        rw [a5]
        exact z_bf (by decide) (z_bt rfl hK)
      · rw [Bool.or_true] at h
        refine ms_step (v := true) hM hT hd hP hB hp0 (by omega) hqn ⟨fun _ => Or.inr (Or.inl a1), fun _ => rfl⟩ (stay (q - (p + 1)) (p + 1) d K hd (by omega) (by omega) ?_)
        rw [show p + 1 + (q - (p + 1)) = q by omega]
        exact h
    · -- not
      obtain ⟨b1, -⟩ := tx_E_ch a5
      obtain ⟨v, v1, v2⟩ := fs_safe (p0 := p0) hS hM hT hP hB hch hqn (dep := dep + 1) a5 (by omega) hq (by omega) (fun _ => by rw [show p + 1 - 1 = p by omega, a1]; decide)
      refine ⟨v || false, prt 33 v false a3 (by decide) (by decide) (by decide) (fun d K hd hK => v1 d K (by omega) hK) (fun d K hd hK => by rw [a4]; exact none0 d K _ (by omega) hK), fun d x K hd h => ?_⟩
      rw [Bool.or_false] at h
      refine sk p d x K hd hp0 (by omega) (fun q => ?_) (v2 d x K hd h)
      rcases q with q | q | q
      · omega
      · exact hpre q.1.1 q.1.2
      · have := q.2.1.1; omega
    · -- an operator
      obtain ⟨b1, -⟩ := tx_E_ch a7
      obtain ⟨b2, -⟩ := tx_E_ch a8
      obtain ⟨v, v1, v2⟩ := fs_safe (p0 := p0) hS hM hT hP hB hch hqn (dep := dep + 1) a7 (by omega) (by omega) (by omega) (fun _ => by rw [show p + 1 - 1 = p by omega, a1]; decide)
      have hm : w m ≠ 124 ∧ w m ≠ 39 ∧ w m ≠ 114 ∧ ¬ tx_L (w m) := by unfold tx_O at a4; unfold tx_L; omega
      have hm5 : 5 ≤ w m := by unfold tx_O at a4; omega
      obtain ⟨v', v1', v2'⟩ := fs_safe (p0 := p0) hS hM hT hP hB hch hqn (dep := dep + 1) a8 (by omega) (by omega) (by omega) (fun _ => by rw [show m + 1 - 1 = m by omega]; exact hm.1)
      refine ⟨v || v', prt (w m) v v' a6 hm5 (tx_le hW m) hm.2.2.1 (fun d K hd hK => v1 d K (by omega) hK) (fun d K hd hK => v1' d K (by omega) hK), fun d x K hd h => ?_⟩
      rw [← Bool.or_assoc] at h
      refine sk p d x K hd hp0 (by omega) (fun q => ?_) (v2 d x K hd (sk m d _ K hd (by omega) (by omega) (fun q => ?_) (v2' d _ K hd (sk (q - 1) d _ K hd (by omega) (by omega) (fun q' => ?_) ?_))))
      · rcases q with q | q | q
        · omega
        · exact hpre q.1.1 q.1.2
        · have := q.2.1.1; omega
      · rcases q with q | q | q
        · exact hm.2.1 q
        · exact hm.2.2.1 q.2
        · exact hm.2.2.2 q.2.1
      · rcases q' with q' | q' | q'
        · omega
        · omega
        · have := q'.2.1.1; omega
      · rw [show q - 1 + 1 = q by omega]
        exact h
    · -- a plain filter
      obtain ⟨b1, -⟩ := tx_E_ch a7
      obtain ⟨v, v1, v2⟩ := fs_safe (p0 := p0) hS hM hT hP hB hch hqn (dep := dep + 1) a7 hp0 (by omega) (by omega) hpre
      subst a2
      have bar : ∀ d (x : Bool) K, 18 ≤ d → m_mayBeSafe_6 Gm (d + 1) (nI t) (nI p0) (nI q0) (bI x) (nI (m + 1)) f K → m_mayBeSafe_6 Gm (d + 1) (nI t) (nI p0) (nI q0) (bI x) (nI m) f K := fun d x K hd h => sk m d x K hd (by omega) (by omega) (fun q => by
        rcases q with q | q | q
        · omega
        · omega
        · have := q.2.1.2; omega) h
      have pre1 : p0 < m + 1 ∧ w (m + 1 - 1) = 124 := ⟨by omega, by rw [show m + 1 - 1 = m by omega]; exact a3⟩
      by_cases h114 : w (m + 1) = 114
      · refine ⟨true, fun d K hd hK => ?_, fun d x K hd h => ?_⟩
        · obtain ⟨d, rfl⟩ : ∃ e, d = e + 1 := ⟨d - 1, by omega⟩
          refine cls d K (by omega) ?_
          rw [a5, h114]
          exact z_bf (by decide) (z_bf (by decide) (z_bf (by decide) (z_bf (by decide) (z_bt rfl hK))))
        · rw [Bool.or_true] at h
          exact v2 d x K hd (bar d _ K hd (ms_step (v := true) hM hT hd hP hB (by omega) (by omega) hqn ⟨fun _ => Or.inr (Or.inr (Or.inl ⟨pre1, h114⟩)), fun _ => rfl⟩ h))
      · refine ⟨v || false, prt (w (m + 1)) v false a5 (by omega) (tx_le hW _) h114 (fun d K hd hK => v1 d K (by omega) hK) (fun d K hd hK => by rw [a6]; exact none0 d K _ (by omega) hK), fun d x K hd h => ?_⟩
        rw [Bool.or_false] at h
        refine v2 d x K hd (bar d _ K hd (sk (m + 1) d _ K hd (by omega) (by omega) (fun q => ?_) h))
        rcases q with q | q | q
        · omega
        · exact h114 q.2
        · exact q.1 pre1
    · -- otherwise
      obtain ⟨b1, -⟩ := tx_E_ch a6
      obtain ⟨b2, -⟩ := tx_E_ch a7
      obtain ⟨v, v1, v2⟩ := fs_safe (p0 := p0) hS hM hT hP hB hch hqn (dep := dep + 1) a6 hp0 (by omega) (by omega) hpre
      obtain ⟨v', v1', v2'⟩ := fs_safe (p0 := p0) hS hM hT hP hB hch hqn (dep := dep + 1) a7 (by omega) hq (by omega) (fun _ => by rw [show m + 2 - 1 = m + 1 by omega, a4]; decide)
      refine ⟨v || v', prt 100 v v' a5 (by decide) (by decide) (by decide) (fun d K hd hK => v1 d K (by omega) hK) (fun d K hd hK => v1' d K (by omega) hK), fun d x K hd h => ?_⟩
      rw [← Bool.or_assoc] at h
      refine v2 d x K hd (sk m d _ K hd (by omega) (by omega) (fun q => ?_) (sk (m + 1) d _ K hd (by omega) (by omega) (fun q => ?_) (v2' d _ K hd h)))
      · rcases q with q | q | q
        · omega
        · omega
        · have := q.2.1.2; omega
      · rcases q with q | q | q
        · omega
        · omega
        · exact q.1 ⟨by omega, by rw [show m + 1 - 1 = m by omega]; exact a3⟩
end FS
