/-! RENDERING: values put out -/
/-- characters as they are -/
def o_sf (s : Nat) (c : Nat → Nat) : Nat → Nat → ost → Int32 × ost
  | 0, _, o => (nI 0, o)
  | m + 1, i, o => if o_n o = 300 then (Int32.ofInt (-10), o) else o_sf s c m (i + 1) (o_p o (oc_S (c i) s))
/-- a character that is escaped: how many parts, each one -/
def es_w (c : Nat) : Bool := decide ((48 ≤ c ∧ c ≤ 57) ∨ (97 ≤ c ∧ c ≤ 122) ∨ (65 ≤ c ∧ c ≤ 90))
def es_k (x c : Nat) : Nat := if x = 0 ∨ x = 3 ∨ x = 5 then (if es_t c = 0 then 1 else 3) else if x = 7 then 1 else if x = 1 then 0 else if es_w c = true then 1 else 0
def o_e1 (s c x : Nat) : Nat → Nat → ost → Int32 × ost
  | 0, _, o => (nI 0, o)
  | m + 1, j, o => if o_n o = 300 then (Int32.ofInt (-10), o) else o_e1 s c x m (j + 1) (o_p o (oc_E (es_h x c j) c j s))
def o_es (s : Nat) (c : Nat → Nat) : Nat → Nat → ost → Int32 × ost
  | 0, _, o => (nI 0, o)
  | m + 1, i, o => if (o_e1 s (c i) (o_x o (o_n o)) (es_k (o_x o (o_n o)) (c i)) 0 o).1 = nI 0 then o_es s c m (i + 1) (o_e1 s (c i) (o_x o (o_n o)) (es_k (o_x o (o_n o)) (c i)) 0 o).2 else o_e1 s (c i) (o_x o (o_n o)) (es_k (o_x o (o_n o)) (c i)) 0 o
def o_v (s : Nat) (v : rv) (o : ost) : Int32 × ost := if rv_t v = 0 then (Int32.ofInt (-2), o) else if rv_t v = 3 then (Int32.ofInt (-3), o) else if rv_t v = 1 then o_sf s (dg_c (rv_n v)) (dg_l (rv_n v)) 0 o else if rv_s v = true then o_sf s (rv_c v) (rv_l v) 0 o else o_es s (rv_c v) (rv_l v) 0 o
theorem es_all : ((List.range 8).all fun x => (List.range 128).all fun c => decide (q_12034 (nI c) (nI x) = nI (es_k x c)) && decide (q_12036 (nI c) = nI (es_t c)) && (decide (qb (q_13079 (nI c)) = es_w c))) = true := by decide +kernel
theorem es_f {x c : Nat} (hx : x < 8) (hc : c < 128) : q_12034 (nI c) (nI x) = nI (es_k x c) ∧ q_12036 (nI c) = nI (es_t c) ∧ qb (q_13079 (nI c)) = es_w c := by
  have h := List.all_eq_true.mp (List.all_eq_true.mp es_all x (List.mem_range.mpr hx)) c (List.mem_range.mpr hc)
  simp only [Bool.and_eq_true, decide_eq_true_eq] at h
  exact ⟨h.1.1, h.1.2, h.2⟩
theorem es_tb (c : Nat) : es_t c ≤ 113 ∧ (es_t c = 0 ∨ 97 ≤ es_t c) := by
  unfold es_t
  by_cases h1 : c = 34
  · rw [if_pos h1]; decide
  · rw [if_neg h1]
    by_cases h2 : c = 38
    · rw [if_pos h2]; decide
    · rw [if_neg h2]
      by_cases h3 : c = 60
      · rw [if_pos h3]; decide
      · rw [if_neg h3]
        by_cases h4 : c = 62
        · rw [if_pos h4]; decide
        · rw [if_neg h4]; decide
theorem es_hb {x c j : Nat} (hc : 32 ≤ c ∧ c ≤ 126) : 32 ≤ es_h x c j ∧ es_h x c j ≤ 126 := by
  have ht := es_tb c
  unfold es_h
  by_cases h1 : x = 7
  · rw [if_pos h1]
    by_cases h2 : c = 39 ∨ c = 92 ∨ c = 60
    · rw [if_pos h2]; decide
    · rw [if_neg h2]; exact hc
  · rw [if_neg h1]
    by_cases h2 : (x = 0 ∨ x = 3 ∨ x = 5) ∧ es_t c ≠ 0
    · rw [if_pos h2]
      by_cases h3 : j = 0
      · rw [if_pos h3]; decide
      · rw [if_neg h3]
        by_cases h4 : j = 1
        · rw [if_pos h4]; omega
        · rw [if_neg h4]; decide
    · rw [if_neg h2]; exact hc
theorem es_kb (x c : Nat) : es_k x c ≤ 3 := by
  unfold es_k
  by_cases h1 : x = 0 ∨ x = 3 ∨ x = 5
  · rw [if_pos h1]
    by_cases h2 : es_t c = 0
    · rw [if_pos h2]; decide
    · rw [if_neg h2]; decide
  · rw [if_neg h1]
    by_cases h2 : x = 7
    · rw [if_pos h2]; decide
    · rw [if_neg h2]
      by_cases h3 : x = 1
      · rw [if_pos h3]; decide
      · rw [if_neg h3]
        by_cases h4 : es_w c = true
        · rw [if_pos h4]; decide
        · rw [if_neg h4]; decide
theorem oc_S31 {c s : Nat} (hc : 32 ≤ c ∧ c ≤ 126) (hs : s < 8000) : oc_S c s < 2 ^ 31 ∧ 32 ≤ oc_S c s % 128 ∧ oc_S c s % 128 ≤ 126 := by
  have := (oc_Sc (c := c) (s := s) (by omega)).1
  refine ⟨?_, by omega, by omega⟩
  unfold oc_S
  omega
theorem oc_E31 {c o p s : Nat} (hc : 32 ≤ c ∧ c ≤ 126) (ho : o < 128) (hp : p < 4) (hs : s < 8000) : oc_E c o p s < 2 ^ 31 ∧ 32 ≤ oc_E c o p s % 128 ∧ oc_E c o p s % 128 ≤ 126 := by
  have := (oc_Ec (c := c) (s := s) (o := o) (p := p) (by omega) ho hp).1
  refine ⟨?_, by omega, by omega⟩
  unfold oc_E
  omega
section OV
variable {ρ : Nat → Nat} {D : Nat → rv} {I : Nat → Nat → rv} {G Gm : mj_G} {f : mm_F} {d s : Nat} {v : rv} {o : ost}
/-- a row of characters that putting out leaves -/
def o_rw (ρ : Nat → Nat) (G : mj_G) (a n : Nat) (c : Nat → Nat) : Prop := a < mj_n G ∧ (a = 1593 ∨ ¬ oW (ow ρ a)) ∧ mj_k G a = 22 ∧ n ≤ mj_l G a ∧ ∀ j, j < n → mj_i G a j = nI (c j)
theorem o_rwf {G' : mj_G} {a n : Nat} {c : Nat → Nat} (h : o_rw ρ G a n c) (F : fw ρ oW G G') (h3 : ∀ j, mj_i G' 1593 j = mj_i G 1593 j) : o_rw ρ G' a n c := by
  obtain ⟨h0, h1, h2, h4, h5⟩ := h
  obtain ⟨k1, k2, k3⟩ := F.2.2.2 a h0
  refine ⟨Nat.lt_of_lt_of_le h0 F.1, h1, k1.trans h2, by rw [k2]; exact h4, fun j hj => ?_⟩
  rcases h1 with rfl | h1
  · exact (h3 j).trans (h5 j hj)
  · exact ((k3 h1).2 j).trans (h5 j hj)
/-- what follows -/
def jO (ρ : Nat → Nat) (D : Nat → rv) (I : Nat → Nat → rv) (G : mj_G) (r : Int32 × ost) (K : Int32 → mj_G → Prop) : Prop := ∀ G', hh ρ D I G' → fw ρ oW G G' → oX G G' → (∀ j, mj_i G' 1593 j = mj_i G 1593 j) → oC G' r.2 → K r.1 G'
theorem jO_t {G1 : mj_G} {r : Int32 × ost} {K : Int32 → mj_G → Prop} (h : jO ρ D I G r K) (F : fw ρ oW G G1) (hx : oX G G1) (h3 : ∀ j, mj_i G1 1593 j = mj_i G 1593 j) : jO ρ D I G1 r K := fun G' h' F' x' y' o' => h G' h' (fw_t F ro_r F') (oX_t hx x') (fun j => (y' j).trans (h3 j)) o'
theorem c_putSafe3 {a n : Nat} {c : Nat → Nat} {K : Int32 → mj_G → Prop} (hd : 16 ≤ d) (hs : s < 8000) (hn : n ≤ 300) (hc : ∀ j, j < n → 32 ≤ c j ∧ c j ≤ 126) : ∀ {m i : Nat} {G : mj_G} {o : ost}, i + m = n → hh ρ D I G → o_rw ρ G a n c → oC G o → jO ρ D I G (o_sf s c m i o) K → Ou_putSafe_3 (d + 2) a (nI n) (nI s) (nI i) G K
  | 0, i, G, o, hi, h, hr, ho, hK => by
    refine w_Ou_putSafe_3 h.1 (by omega) ?_
    rw [z_le (by omega) (by omega)]
    exact z_bt (by omega) (hK G h fw_r oX_r (fun _ => rfl) ho)
  | m + 1, i, G, o, hi, h, hr, ho, hK => by
    have hci := hc i (by omega)
    obtain ⟨h0, h1, h2, h4, h5⟩ := hr
    obtain ⟨e1, e2⟩ := oc_S31 hci hs
    have hl := h.2.2.1.2 a h2
    refine w_Ou_putSafe_3 h.1 (by omega) ?_
    rw [z_le (by omega) (by omega), z_le (by omega) (by omega)]
    refine z_bf (by omega) ⟨by rw [h2]; decide, z_bf (by omega) ⟨h2, z_ixg (by omega) (by omega) ?_⟩⟩
    rw [h5 i (by omega), q_38 (by omega) hs]
    refine c_put h ho (by omega) e1 e2 (gz_S (by omega)) (fun G1 g1 F1 x1 y1 o1 => ?_)
    by_cases q : o_n o = 300
    · have e : o_t o (oc_S (c i) s) = (Int32.ofInt (-10), o) := by unfold o_t; rw [if_pos q]
      have e3 : o_sf s c (m + 1) i o = (Int32.ofInt (-10), o) := by show (if o_n o = 300 then _ else _) = _; rw [if_pos q]
      rw [e] at o1 ⊢
      rw [e3] at hK
      exact z_bf (show ¬ Int32.ofInt (-10) = nI 0 by decide) (hK G1 g1 F1 x1 y1 o1)
    · have e : o_t o (oc_S (c i) s) = (nI 0, o_p o (oc_S (c i) s)) := by unfold o_t; rw [if_neg q]
      have e3 : o_sf s c (m + 1) i o = o_sf s c m (i + 1) (o_p o (oc_S (c i) s)) := by show (if o_n o = 300 then _ else _) = _; rw [if_neg q]
      rw [e] at o1 ⊢
      rw [e3] at hK
      rw [z_add]
      exact z_bt rfl (c_putSafe3 hd hs hn hc (m := m) (i := i + 1) (by omega) g1 (o_rwf ⟨h0, h1, h2, h4, h5⟩ F1 y1) o1 (jO_t hK F1 x1 y1))
theorem c_putSafe {a n : Nat} {c : Nat → Nat} {K : Int32 → mj_G → Prop} (hd : 16 ≤ d) (hs : s < 8000) (hn : n ≤ 300) (hc : ∀ j, j < n → 32 ≤ c j ∧ c j ≤ 126) (h : hh ρ D I G) (hr : o_rw ρ G a n c) (ho : oC G o) (hK : jO ρ D I G (o_sf s c n 0 o) K) : Ou_putSafe (d + 2) a (nI n) (nI s) G K :=
  w_Ou_putSafe h.1 (c_putSafe3 hd hs hn hc (m := n) (i := 0) (by omega) h hr ho hK)
theorem c_escaped {c x j : Nat} {K : Int32 → mj_G → Prop} (h : hh ρ D I G) (hd : 15 ≤ d) (hx : x < 8) (hc : c < 128) (hj : j ≤ 3) (hK : K (nI (es_h x c j)) G) : Tq_escaped (d + 1) (nI c) (nI x) (nI j) G K := by
  have et := (es_f hx hc).2.1
  have hb := es_tb c
  unfold es_h at hK
  refine w_Tq_escaped h.1 (by omega) ?_
  rw [et, z_eq (by omega) (by decide), z_eq (by omega) (by decide), z_eq (by omega) (by decide), z_eq (by omega) (by decide), z_eq (by omega) (by decide), z_eq (by omega) (by decide), z_eq (by omega) (by decide), z_eq (by omega) (by decide), z_eq (by omega) (by decide), z_eq (by omega) (by decide)]
  have ent : x ≠ 7 → (x = 0 ∨ x = 3 ∨ x = 5) → mm_br (es_t c = 0) ((mj_c (nI c)) ∧ K (nI c) G) (mm_br (j = 0) (K (nI 38) G) (mm_br (j = 1) ((mj_c (nI (es_t c))) ∧ K (nI (es_t c)) G) (K (nI 59) G))) := fun a1 a2 => by
    rw [if_neg a1] at hK
    refine z_br (fun q => ⟨z_cc (by omega), ?_⟩) (fun q => z_br (fun q1 => ?_) (fun q1 => z_br (fun q2 => ⟨z_cc (by omega), ?_⟩) (fun q2 => ?_)))
    · rw [if_neg (fun r => r.2 q)] at hK; exact hK
    · rw [if_pos ⟨a2, q⟩, if_pos q1] at hK; exact hK
    · rw [if_pos ⟨a2, q⟩, if_neg q1, if_pos q2] at hK; exact hK
    · rw [if_pos ⟨a2, q⟩, if_neg q1, if_neg q2] at hK; exact hK
  refine z_br (fun q => ?_) (fun q => z_br (fun q1 => ent q (Or.inl q1)) (fun q1 => z_br (fun q2 => ent q (Or.inr (Or.inl q2))) (fun q2 => z_br (fun q3 => ent q (Or.inr (Or.inr q3))) (fun q3 => ⟨z_cc (by omega), ?_⟩))))
  · rw [if_pos q] at hK
    refine z_br (fun q1 => ?_) (fun q1 => z_br (fun q2 => ?_) (fun q2 => z_br (fun q3 => ?_) (fun q3 => ⟨z_cc (by omega), ?_⟩)))
    · rw [if_pos (by omega)] at hK; exact hK
    · rw [if_pos (by omega)] at hK; exact hK
    · rw [if_pos (by omega)] at hK; exact hK
    · rw [if_neg (by omega)] at hK; exact hK
  · rw [if_neg q, if_neg (fun r => by rcases r.1 with r | r | r; exact q1 r; exact q2 r; exact q3 r)] at hK
    exact hK
/-- parts of one character stay in their context -/
theorem es_ld {x c j : Nat} (hx : x = 0 ∨ x = 3 ∨ x = 5) (ht : es_t c ≠ 0) : ld x (es_h x c j) = x := by
  have h0 : es_t c = 113 ∨ es_t c = 97 ∨ es_t c = 108 ∨ es_t c = 103 := by
    unfold es_t at ht ⊢
    by_cases h1 : c = 34
    · rw [if_pos h1]; omega
    · rw [if_neg h1] at ht ⊢
      by_cases h2 : c = 38
      · rw [if_pos h2]; omega
      · rw [if_neg h2] at ht ⊢
        by_cases h3 : c = 60
        · rw [if_pos h3]; omega
        · rw [if_neg h3] at ht ⊢
          by_cases h4 : c = 62
          · rw [if_pos h4]; omega
          · rw [if_neg h4] at ht; exact absurd rfl ht
  have all : ∀ x, x = 0 ∨ x = 3 ∨ x = 5 → ∀ y, y = 38 ∨ y = 59 ∨ y = 113 ∨ y = 97 ∨ y = 108 ∨ y = 103 → ld x y = x := fun x hx y hy => by
    rcases hx with rfl | rfl | rfl <;> rcases hy with rfl | rfl | rfl | rfl | rfl | rfl <;> decide +kernel
  refine all x hx _ ?_
  unfold es_h
  rw [if_neg (by omega), if_pos ⟨hx, ht⟩]
  by_cases h1 : j = 0
  · rw [if_pos h1]; omega
  · rw [if_neg h1]
    by_cases h2 : j = 1
    · rw [if_pos h2]; omega
    · rw [if_neg h2]; omega
theorem es_px {x c j s : Nat} {o : ost} (hx0 : o_x o (o_n o) = x) (hx : x = 0 ∨ x = 3 ∨ x = 5) (ht : es_t c ≠ 0) (hc : 32 ≤ c ∧ c ≤ 126) (hj : j < 4) : o_x (o_p o (oc_E (es_h x c j) c j s)) (o_n (o_p o (oc_E (es_h x c j) c j s))) = x := by
  have hb := es_hb (x := x) (j := j) hc
  rw [o_px, hx0, (oc_Ec (s := s) (c := es_h x c j) (o := c) (p := j) (by omega) (by omega) hj).1]
  exact es_ld hx ht
theorem es_k1 {x c : Nat} (h : 1 < es_k x c) : (x = 0 ∨ x = 3 ∨ x = 5) ∧ es_t c ≠ 0 := by
  unfold es_k at h
  by_cases h1 : x = 0 ∨ x = 3 ∨ x = 5
  · rw [if_pos h1] at h
    refine ⟨h1, fun q => ?_⟩
    rw [if_pos q] at h
    exact absurd h (by decide)
  · rw [if_neg h1] at h
    by_cases h2 : x = 7
    · rw [if_pos h2] at h; exact absurd h (by decide)
    · rw [if_neg h2] at h
      by_cases h3 : x = 1
      · rw [if_pos h3] at h; exact absurd h (by decide)
      · rw [if_neg h3] at h
        by_cases h4 : es_w c = true
        · rw [if_pos h4] at h; exact absurd h (by decide)
        · rw [if_neg h4] at h; exact absurd h (by decide)
/-- the characters of a text, escaped -/
theorem c_putEsc41 {a i c x k : Nat} {K : Int32 → mj_G → Prop} (hd : 16 ≤ d) (hs : s < 8000) (hx : x < 8) (hc : 32 ≤ c ∧ c ≤ 126) (hk : k ≤ 3) (hl : 1 < k → (x = 0 ∨ x = 3 ∨ x = 5) ∧ es_t c ≠ 0) : ∀ {m j : Nat} {G : mj_G} {o : ost}, j + m = k → hh ρ D I G → oC G o → (m ≠ 0 → o_x o (o_n o) = x) → (∀ G', hh ρ D I G' → fw ρ oW G G' → oX G G' → (∀ j, mj_i G' 1593 j = mj_i G 1593 j) → oC G' (o_e1 s c x m j o).2 → ((o_e1 s c x m j o).1 = nI 0 → Ou_putEscaped_2 (d + 2) a (nI s) (nI (i + 1)) G' K) ∧ (¬ (o_e1 s c x m j o).1 = nI 0 → K (o_e1 s c x m j o).1 G')) → Ou_putEscaped_41 (d + 2) a (nI s) (nI i) (nI c) (nI x) (nI k) (nI j) G K
  | 0, j, G, o, hj, h, ho, hx0, hK => by
    refine w_Ou_putEscaped_41 h.1 (by omega) ?_
    rw [z_le (by omega) (by omega), z_add]
    exact z_bt (by omega) ((hK G h fw_r oX_r (fun _ => rfl) ho).1 rfl)
  | m + 1, j, G, o, hj, h, ho, hx0, hK => by
    have hx1 := hx0 (by omega)
    have hb := es_hb (x := x) (j := j) hc
    obtain ⟨e1, e2⟩ := oc_E31 (o := c) (p := j) hb (by omega) (by omega) hs
    refine w_Ou_putEscaped_41 h.1 (by omega) ?_
    rw [z_le (by omega) (by omega)]
    refine z_bf (by omega) (c_escaped h (by omega) hx (by omega) (by omega) ?_)
    rw [q_39 (by omega) (by omega) (by omega) hs]
    refine c_put h ho (by omega) e1 e2 (by rw [hx1]; exact gz_E (by omega) (by omega) (by omega)) (fun G1 g1 F1 x1 y1 o1 => ?_)
    by_cases q : o_n o = 300
    · have e : o_t o (oc_E (es_h x c j) c j s) = (Int32.ofInt (-10), o) := by unfold o_t; rw [if_pos q]
      have e3 : o_e1 s c x (m + 1) j o = (Int32.ofInt (-10), o) := by show (if o_n o = 300 then _ else _) = _; rw [if_pos q]
      rw [e] at o1 ⊢
      rw [e3] at hK
      exact z_bf (show ¬ Int32.ofInt (-10) = nI 0 by decide) ((hK G1 g1 F1 x1 y1 o1).2 (show ¬ Int32.ofInt (-10) = nI 0 by decide))
    · have e : o_t o (oc_E (es_h x c j) c j s) = (nI 0, o_p o (oc_E (es_h x c j) c j s)) := by unfold o_t; rw [if_neg q]
      have e3 : o_e1 s c x (m + 1) j o = o_e1 s c x m (j + 1) (o_p o (oc_E (es_h x c j) c j s)) := by show (if o_n o = 300 then _ else _) = _; rw [if_neg q]
      rw [e] at o1 ⊢
      rw [e3] at hK
      rw [z_add]
      exact z_bt rfl (c_putEsc41 hd hs hx hc hk hl (m := m) (j := j + 1) (by omega) g1 o1 (fun hm => es_px hx1 (hl (by omega)).1 (hl (by omega)).2 hc (by omega)) (fun G2 g2 F2 x2 y2 o2 => hK G2 g2 (fw_t F1 ro_r F2) (oX_t x1 x2) (fun j => (y2 j).trans (y1 j)) o2))
/-- a value that putting out leaves -/
def o_cv (ρ : Nat → Nat) (G : mj_G) (a : Nat) (v : rv) : Prop := a < mj_n G ∧ ¬ oW (ow ρ a) ∧ cv (fun c => ¬ oW (ow ρ c)) G a v ∧ rv_ok v
theorem o_cvf {G' : mj_G} {a : Nat} (h : hh ρ D I G) (F : fw ρ oW G G') (ha : o_cv ρ G a v) : o_cv ρ G' a v := ⟨Nat.lt_of_lt_of_le ha.1 F.1, ha.2.1, cv_fw ha.2.2.1 ha.2.2.2 h.2.2.2 F (fun o q => oW_im q) (hh_n h) ha.1 ha.2.1 (fun c _ q => ⟨q, q⟩), ha.2.2.2⟩
theorem c_putEsc2 {a : Nat} {K : Int32 → mj_G → Prop} (hd : 16 ≤ d) (hs : s < 8000) (tv : rv_t v = 2) : ∀ {m i : Nat} {G : mj_G} {o : ost}, i + m = rv_l v → hh ρ D I G → o_cv ρ G a v → oC G o → jO ρ D I G (o_es s (rv_c v) m i o) K → Ou_putEscaped_2 (d + 2) a (nI s) (nI i) G K
  | 0, i, G, o, hi, h, ha, ho, hK => by
    obtain ⟨hn, hc⟩ := ha.2.2.2.2.2.2.1 tv
    obtain ⟨b1, -⟩ := ha.2.2.1.2.2.2.2.1 tv
    refine w_Ou_putEscaped_2 h.1 (by omega) ⟨ha.2.2.1.1, ?_⟩
    rw [b1, z_le (by omega) (by omega)]
    exact z_bt (by omega) (hK G h fw_r oX_r (fun _ => rfl) ho)
  | m + 1, i, G, o, hi, h, ha, ho, hK => by
    obtain ⟨hn, hc⟩ := ha.2.2.2.2.2.2.1 tv
    obtain ⟨b1, b2, b3, b4, b5, b6, b7, b8⟩ := ha.2.2.1.2.2.2.2.1 tv
    have hci := hc i (by omega)
    have k1 := ho.1
    have hno := k1.1
    have x8 := o_x8 k1 (Nat.le_refl _)
    refine w_Ou_putEscaped_2 h.1 (by omega) ⟨ha.2.2.1.1, ?_⟩
    rw [b1, z_le (by omega) (by omega)]
    refine z_bf (by omega) ⟨b6, z_ixg (by omega) (by omega) ?_⟩
    rw [ho.2.2.1]
    refine z_ixi (by omega) (by decide) ?_
    rw [b8 i (by omega), ho.2.2.2.2.2 _ (Nat.le_refl _), (es_f x8 (by omega)).1]
    refine c_putEsc41 hd hs x8 hci (es_kb _ _) es_k1 (m := es_k (o_x o (o_n o)) (rv_c v i)) (j := 0) (by omega) h ho (fun _ => rfl) (fun G1 g1 F1 x1 y1 o1 => ⟨fun q => ?_, fun q => ?_⟩)
    · have e : o_es s (rv_c v) (m + 1) i o = o_es s (rv_c v) m (i + 1) (o_e1 s (rv_c v i) (o_x o (o_n o)) (es_k (o_x o (o_n o)) (rv_c v i)) 0 o).2 := by
        show (if _ then _ else _) = _
        rw [if_pos q]
      rw [e] at hK
      exact c_putEsc2 hd hs tv (m := m) (i := i + 1) (by omega) g1 (o_cvf h F1 ha) o1 (jO_t hK F1 x1 y1)
    · have e : o_es s (rv_c v) (m + 1) i o = o_e1 s (rv_c v i) (o_x o (o_n o)) (es_k (o_x o (o_n o)) (rv_c v i)) 0 o := by
        show (if _ then _ else _) = _
        rw [if_neg q]
      rw [e] at hK
      exact hK G1 g1 F1 x1 y1 o1
/-- a value is put out -/
theorem c_putValue {a : Nat} {K : Int32 → mj_G → Prop} (hd : 18 ≤ d) (hs : s < 8000) (h : hh ρ D I G) (ha : o_cv ρ G a v) (ho : oC G o) (hK : ∀ G', hh ρ D I G' → fw ρ oW G G' → oX G G' → oC G' (o_v s v o).2 → K (o_v s v o).1 G') : Ou_putValue (d + 3) a (nI s) G K := by
  have tv := ha.2.2.2.1
  have av := ha.2.2.1
  refine w_Ou_putValue h.1 ⟨av.1, ?_⟩
  rw [av.2.2.1, rv_kn tv (by omega), rv_kn tv (by omega), show (nI (rv_k (rv_t v)) = nI 3) = False from by
    rcases (by omega : rv_t v = 0 ∨ rv_t v = 1 ∨ rv_t v = 2 ∨ rv_t v = 3) with e | e | e | e <;> rw [e] <;> exact propext ⟨fun q => absurd q (by decide), fun q => q.elim⟩, rv_kn tv (by omega)]
  unfold o_v at hK
  refine z_br (fun q => ?_) (fun q => z_br (fun q1 => ?_) (fun q1 => z_bf (fun q => q) (z_br (fun q2 => ?_) (fun q2 => ?_))))
  · rw [if_pos (by omega)] at hK
    exact hK G h fw_r oX_r ho
  · have t1 : rv_t v = 1 := by omega
    rw [if_neg (by omega), if_neg (by omega), if_pos t1] at hK
    have hdl := dg_ll (rv_n v)
    rw [av.2.2.2.1 t1]
    refine c_writeDigits h (by decide) (by unfold imm; rw [ow_s (by decide)]; unfold im_o; omega) (cs_k h.1 rfl) (by rw [cs_l (N := 12) h.1 rfl]; omega) (by rw [cs_l (N := 12) h.1 rfl]; decide) (fun G1 h1 F1 i1 j1 => ?_)
    have F1' : fw ρ oW G G1 := fw_m F1 (fun a q => by rw [q, ow_s (by decide)]; unfold oW; decide)
    have hne : ∀ a, a < 1768 → a ≠ 1593 → (∀ j, mj_r G1 a j = mj_r G a j) ∧ ∀ j, mj_i G1 a j = mj_i G a j := fun a h1 h2 => (F1.2.2.2 a (by have := hh_n h; omega)).2.2 (fun q => h2 (by rw [ow_s h1, ow_s (by decide)] at q; exact q))
    have x1 : oX G G1 := ⟨fun j => (hne 1589 (by decide) (by decide)).1 j, (hne 1589 (by decide) (by decide)).2 3, fun a j q _ => (hne a (by omega) (by omega)).2 j⟩
    obtain ⟨k1, k2, k3, k4, k5, k6⟩ := ho
    have o1 : oC G1 o := by
      refine ⟨k1, by rw [x1.1 0]; exact k2, ((hne 1589 (by decide) (by decide)).2 1).trans k3, ((hne 1589 (by decide) (by decide)).2 5).trans k4, fun i hi => ?_, fun i hi => ((hne 1592 (by decide) (by decide)).2 i).trans (k6 i hi)⟩
      rw [x1.1 0]
      exact ((hne _ (by omega) (by omega)).2 i).trans (k5 i hi)
    rw [Nat.zero_add]
    exact c_putSafe (by omega) hs (by omega) (fun j _ => dg_cb _ _) h1 ⟨by have := hh_n h1; omega, Or.inl rfl, cs_k h1.1 rfl, by rw [cs_l (N := 12) h1.1 rfl]; omega, fun j hj => (by have := j1 j hj; rw [Nat.zero_add] at this; exact this)⟩ o1 (fun G2 h2 F2 x2 _ o2 => hK G2 h2 (fw_t F1' ro_r F2) (oX_t x1 x2) o2)
  · have t2 : rv_t v = 2 := by omega
    obtain ⟨hn, hc⟩ := ha.2.2.2.2.2.2.1 t2
    obtain ⟨b1, b2, b3, b4, b5, b6, b7, b8⟩ := av.2.2.2.2.1 t2
    rw [if_neg (by omega), if_neg (by omega), if_neg (by omega)] at hK
    rw [b2, b1]
    cases hsv : rv_s v with
    | true =>
      rw [if_pos hsv] at hK
      exact z_bf (by decide) (c_putSafe (by omega) hs hn hc h ⟨b5, Or.inr b3, b6, b7, b8⟩ ho (fun G2 h2 F2 x2 _ o2 => hK G2 h2 F2 x2 o2))
    | false =>
      rw [if_neg (by rw [hsv]; decide)] at hK
      exact z_bt rfl (w_Ou_putEscaped h.1 (c_putEsc2 (by omega) hs t2 (m := rv_l v) (i := 0) (by omega) h ha ho (fun G2 h2 F2 x2 _ o2 => hK G2 h2 F2 x2 o2)))
  · rw [if_neg (by omega), if_pos (by omega)] at hK
    exact hK G h fw_r oX_r ho
end OV
