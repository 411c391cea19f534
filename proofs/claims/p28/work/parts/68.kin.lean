/-! WHICH KINDS AN EXPRESSION MAY HAVE, by both sides alike -/
/-- some kinds, and whether something may go wrong -/
def kv (k : Nat) (b : Bool) : Int32 := nI (k + (bif b then 16 else 0))
def kw (b : Bool) : Int32 := nI (bif b then 16 else 0)
def kb (i g : Nat) : Bool := Nat.blt 0 (Nat.land i (15 - g))
theorem kv_all : ((List.range 16).all fun k => [true, false].all fun b => decide (kv k b &&& nI 16 = kw b) && decide (kv k b &&& nI 15 = nI k) && ([true, false].all fun c => decide (kw b ||| kv k c = kv k (b || c))) && (kv k false == nI k)) = true := by decide +kernel
theorem kv_f {k : Nat} {b : Bool} (hk : k < 16) : kv k b &&& nI 16 = kw b ∧ kv k b &&& nI 15 = nI k ∧ (∀ c, kw b ||| kv k c = kv k (b || c)) := by
  have h := List.all_eq_true.mp (List.all_eq_true.mp kv_all k (List.mem_range.mpr hk)) b (by cases b <;> simp)
  simp only [Bool.and_eq_true, decide_eq_true_eq] at h
  obtain ⟨⟨⟨h1, h2⟩, h3⟩, -⟩ := h
  refine ⟨h1, h2, fun c => ?_⟩
  have h4 := List.all_eq_true.mp h3 c (by cases c <;> simp)
  exact of_decide_eq_true h4
theorem kv_or_all : ((List.range 16).all fun k => (List.range 16).all fun l => [true, false].all fun b => [true, false].all fun c => decide ((kv k b ||| kv l c) &&& nI 16 = kw (b || c))) = true := by decide +kernel
theorem kv_or {k l : Nat} {b c : Bool} (hk : k < 16) (hl : l < 16) : (kv k b ||| kv l c) &&& nI 16 = kw (b || c) := by
  have h := List.all_eq_true.mp (List.all_eq_true.mp (List.all_eq_true.mp (List.all_eq_true.mp kv_or_all k (List.mem_range.mpr hk)) l (List.mem_range.mpr hl)) b (by cases b <;> simp)) c (by cases c <;> simp)
  exact of_decide_eq_true h
theorem kb_all : ((List.range 16).all fun i => (List.range 16).all fun g => (decide (nI i &&& (nI g ^^^ Int32.ofInt (-1)) = nI 0) == !(kb i g)) && decide (nI i &&& nI g = nI (Nat.land i g)) && decide (nI i ||| nI g = nI (Nat.lor i g)) && Nat.blt (Nat.lor i g) 16 && Nat.blt (Nat.land i g) 16 && decide (nI i &&& Int32.ofInt (-2) = nI (Nat.land i 14))) = true := by decide +kernel
theorem kb_f {i g : Nat} (hi : i < 16) (hg : g < 16) : (nI i &&& (nI g ^^^ Int32.ofInt (-1)) = nI 0) = (kb i g = false) ∧ nI i &&& nI g = nI (Nat.land i g) ∧ nI i ||| nI g = nI (Nat.lor i g) ∧ Nat.lor i g < 16 ∧ Nat.land i g < 16 ∧ nI i &&& Int32.ofInt (-2) = nI (Nat.land i 14) := by
  have h := List.all_eq_true.mp (List.all_eq_true.mp kb_all i (List.mem_range.mpr hi)) g (List.mem_range.mpr hg)
  simp only [Bool.and_eq_true, decide_eq_true_eq] at h
  obtain ⟨⟨⟨⟨⟨h1, h2⟩, h3⟩, h4⟩, h5⟩, h6⟩ := h
  refine ⟨?_, h2, h3, Nat.le_of_ble_eq_true h4, Nat.le_of_ble_eq_true h5, h6⟩
  have h7 := eq_of_beq h1
  cases hb : kb i g with
  | true =>
    rw [hb] at h7
    exact propext ⟨(fun q => by rw [decide_eq_true q] at h7; cases h7), (fun q => by cases q)⟩
  | false =>
    rw [hb] at h7
    exact propext ⟨fun _ => rfl, fun _ => of_decide_eq_true h7⟩
/-- a filter, by its sign: the kinds that are right, and what comes of them -/
def kf_R (c : Nat) : Nat := if c = 108 then 12 else if c = 106 then 8 else 4
def kf_V (c : Nat) : Nat := if c = 108 then 2 else if c = 110 then 3 else 4
theorem kfil_all : ([117, 108, 114, 106, 110].all fun c => (List.range 16).all fun i => (bif kb i (kf_R c) then (List.range 16).any (fun k => decide (q_2011 (nI c) (nI i) = kv k true)) else decide (q_2011 (nI c) (nI i) = kv (if i = 0 then 0 else kf_V c) false))) = true := by decide +kernel
theorem kfil {c i : Nat} (hc : c = 117 ∨ c = 108 ∨ c = 114 ∨ c = 106 ∨ c = 110) (hi : i < 16) : ∃ k, k < 16 ∧ q_2011 (nI c) (nI i) = kv k (kb i (kf_R c)) ∧ (kb i (kf_R c) = false → k = if i = 0 then 0 else kf_V c) := by
  have h := List.all_eq_true.mp (List.all_eq_true.mp kfil_all c (by rcases hc with rfl | rfl | rfl | rfl | rfl <;> simp)) i (List.mem_range.mpr hi)
  cases hb : kb i (kf_R c) with
  | true =>
    rw [hb] at h
    obtain ⟨k, h1, h2⟩ := List.any_eq_true.mp h
    exact ⟨k, List.mem_range.mp h1, of_decide_eq_true h2, fun q => by cases q⟩
  | false =>
    rw [hb] at h
    refine ⟨_, ?_, of_decide_eq_true h, fun _ => rfl⟩
    unfold kf_V
    rcases hc with rfl | rfl | rfl | rfl | rfl <;> (by_cases h0 : i = 0 <;> simp [h0])
theorem kitem_all : ((List.range 16).all fun i => (bif kb i 8 then (List.range 16).any (fun k => decide (q_2011 (nI 4) (nI i) = kv k true)) else decide (q_2011 (nI 4) (nI i) = kv (if i = 0 then 0 else 6) false)) && decide (q_2011 (nI 33) (nI i) = kv (if i = 0 then 0 else 2) false)) = true := by decide +kernel
theorem kitem {i : Nat} (hi : i < 16) : (∃ k, k < 16 ∧ q_2011 (nI 4) (nI i) = kv k (kb i 8) ∧ (kb i 8 = false → k = if i = 0 then 0 else 6)) ∧ q_2011 (nI 33) (nI i) = kv (if i = 0 then 0 else 2) false := by
  have h := List.all_eq_true.mp kitem_all i (List.mem_range.mpr hi)
  rw [Bool.and_eq_true] at h
  refine ⟨?_, of_decide_eq_true h.2⟩
  have h := h.1
  cases hb : kb i 8 with
  | true =>
    rw [hb] at h
    obtain ⟨k, h1, h2⟩ := List.any_eq_true.mp h
    exact ⟨k, List.mem_range.mp h1, of_decide_eq_true h2, fun q => by cases q⟩
  | false =>
    rw [hb] at h
    refine ⟨_, ?_, of_decide_eq_true h, fun _ => rfl⟩
    by_cases h0 : i = 0 <;> simp [h0]
/-- an operator: whether it may go wrong, and what comes of it -/
def ko_b (c i j : Nat) : Bool := bif Nat.beq i 0 || Nat.beq j 0 then false else bif Nat.beq c 45 || Nat.beq c 42 then kb (Nat.lor i j) 2 else bif Nat.beq c 43 || Nat.beq c 60 then (kb (Nat.lor i j) 6 || (Nat.blt 0 (Nat.land i 2) && Nat.blt 0 (Nat.land j 4)) || (Nat.blt 0 (Nat.land i 4) && Nat.blt 0 (Nat.land j 2))) else false
def ko_v (c i j : Nat) : Nat := bif Nat.beq i 0 || Nat.beq j 0 then 0 else bif Nat.beq c 63 || Nat.beq c 100 then Nat.lor (Nat.land i 14) j else bif Nat.beq c 43 then Nat.land (Nat.land i j) 6 else 2
theorem kop_all : ([43, 45, 42, 60, 61, 38, 63, 100].all fun c => (List.range 16).all fun i => (List.range 16).all fun j => Nat.blt (ko_v c i j) 16 && (bif ko_b c i j then (List.range 16).any (fun k => decide (q_2013 (nI c) (nI i) (nI j) = kv k true)) else decide (q_2013 (nI c) (nI i) (nI j) = kv (ko_v c i j) false))) = true := by decide +kernel
theorem kop {c i j : Nat} (hc : tx_O c ∨ c = 100) (hi : i < 16) (hj : j < 16) : ko_v c i j < 16 ∧ ∃ k, k < 16 ∧ q_2013 (nI c) (nI i) (nI j) = kv k (ko_b c i j) ∧ (ko_b c i j = false → k = ko_v c i j) := by
  have h := List.all_eq_true.mp (List.all_eq_true.mp (List.all_eq_true.mp kop_all c (by unfold tx_O at hc; rcases hc with (rfl | rfl | rfl | rfl | rfl | rfl | rfl) | rfl <;> simp)) i (List.mem_range.mpr hi)) j (List.mem_range.mpr hj)
  rw [Bool.and_eq_true] at h
  have h1 : ko_v c i j < 16 := Nat.le_of_ble_eq_true h.1
  refine ⟨h1, ?_⟩
  have h := h.2
  cases hb : ko_b c i j with
  | true =>
    rw [hb] at h
    obtain ⟨k, h1, h2⟩ := List.any_eq_true.mp h
    exact ⟨k, List.mem_range.mp h1, of_decide_eq_true h2, fun q => by cases q⟩
  | false =>
    rw [hb] at h
    exact ⟨_, h1, of_decide_eq_true h, fun _ => rfl⟩
/-! the model's state while it looks at kinds: its place, and whether something may go wrong -/
def kf (f : mm_F) (p : Nat) (x : Bool) : mm_F := mj_u2 (sp_a f p) 1714 75 (bI x)
section KF
variable {f : mm_F} {p q : Nat} {x y : Bool}
theorem kf_23 : kf f p x 1714 23 = nI p := (z_u2m (by decide)).trans sp_23
theorem kf_75 : kf f p x 1714 75 = bI x := z_u2s
theorem kf_n {a k : Nat} (h : a ≠ 1714) : kf f p x a k = f a k := (z_u2n h).trans (sp_n h)
theorem kf_m {k : Nat} (h : k ≠ 23) (h2 : k ≠ 75) : kf f p x 1714 k = f 1714 k := (z_u2m h2).trans (sp_m h)
theorem kf_p : mj_u2 (kf f p x) 1714 23 (nI q) = kf f q x := by
  unfold kf
  rw [z_u2c (by decide), sp_aa]
theorem kf_x : mj_u2 (kf f p x) 1714 75 (bI y) = kf f p y := z_u2u
theorem kf_s : sp_a (kf f p x) q = kf f q x := kf_p
theorem kf_T {t : Nat} {w : Nat → Nat} {n : Nat} (h : mr_T f t w n) : mr_T (kf f p x) t w n := ⟨mt_o h.1 (fun k => kf_n (by decide)) (fun k => kf_n (by decide)), (kf_m (by decide) (by decide)).trans h.2⟩
end KF
section KD
variable {G Gm : mj_G} {f : mm_F} {w : Nat → Nat} {n t : Nat} {A : Nat → Prop}
theorem c_only {d i g p : Nat} {x : Bool} {K : Int32 → mm_F → Prop} (hM : mm_S Gm) (hi : i < 16) (hg : g < 16) (h : K (nI (Nat.land i g)) (kf f p (x || kb i g))) : m_only Gm d (nI i) (nI g) (kf f p x) K := by
  obtain ⟨h1, h2, -⟩ := kb_f hi hg
  refine w_m_only hM ?_
  rw [kf_75, h1, h2]
  cases x with
  | true => exact z_bf (by decide) (by rw [show nI 1 = bI true from rfl, kf_x]; exact h)
  | false =>
    refine z_bt rfl (z_br (fun q => ?_) (fun q => ?_))
    · rw [q] at h
      rw [show nI 0 = bI false from rfl, kf_x]
      exact h
    · rw [eq_true_of_ne_false q] at h
      rw [show nI 1 = bI true from rfl, kf_x]
      exact h
theorem c_kindsOfBoth {d c i j p : Nat} {x : Bool} {K : Int32 → mm_F → Prop} (hM : mm_S Gm) (hd : 1 ≤ d) (hc : tx_O c) (hi : i < 16) (hj : j < 16) (h : K (nI (ko_v c i j)) (kf f p (x || ko_b c i j))) : m_kindsOfBoth Gm d (nI c) (nI i) (nI j) (kf f p x) K := by
  obtain ⟨d, rfl⟩ : ∃ e, d = e + 1 := ⟨d - 1, by omega⟩
  have hc126 : c ≤ 126 := by unfold tx_O at hc; omega
  obtain ⟨b1, b2, b3, b4, b5, b6⟩ := kb_f hi hj
  refine w_m_kindsOfBoth hM ?_
  rw [z_eq (by omega) (by omega), z_eq (by omega) (by omega), z_eq (by omega) (by omega), z_eq (by omega) (by omega), z_eq (by omega) (by omega), z_eq (by omega) (by omega), z_eq (by omega) (by omega)]
  by_cases hi0 : i = 0
  · have e1 : ko_v c i j = 0 := by subst hi0; rfl
    have e2 : ko_b c i j = false := by subst hi0; rfl
    rw [e1, e2, Bool.or_false] at h
    exact z_bt hi0 h
  by_cases hj0 : j = 0
  · have e0 : (Nat.beq i 0 || Nat.beq j 0) = true := by subst hj0; simp
    have e1 : ko_v c i j = 0 := by unfold ko_v; rw [e0]; rfl
    have e2 : ko_b c i j = false := by unfold ko_b; rw [e0]; rfl
    rw [e1, e2, Bool.or_false] at h
    exact z_bf hi0 (z_bt hj0 h)
  have e0 : (Nat.beq i 0 || Nat.beq j 0) = false := by
    rw [Bool.or_eq_false_iff]
    exact ⟨Bool.eq_false_iff.mpr (fun q => hi0 (Nat.eq_of_beq_eq_true q)), Bool.eq_false_iff.mpr (fun q => hj0 (Nat.eq_of_beq_eq_true q))⟩
  refine z_bf hi0 (z_bf hj0 ?_)
  by_cases c61 : c = 61
  · subst c61
    have e2 : ko_b 61 i j = false := by unfold ko_b; rw [e0]; rfl
    have e1 : ko_v 61 i j = 2 := by unfold ko_v; rw [e0]; rfl
    rw [e1, e2, Bool.or_false] at h
    exact z_bt rfl h
  by_cases c38 : c = 38
  · subst c38
    have e2 : ko_b 38 i j = false := by unfold ko_b; rw [e0]; rfl
    have e1 : ko_v 38 i j = 2 := by unfold ko_v; rw [e0]; rfl
    rw [e1, e2, Bool.or_false] at h
    exact z_bf c61 (z_bt rfl h)
  by_cases c63 : c = 63
  · subst c63
    have e2 : ko_b 63 i j = false := by unfold ko_b; rw [e0]; rfl
    have e1 : ko_v 63 i j = Nat.lor (Nat.land i 14) j := by unfold ko_v; rw [e0]; rfl
    have hl : Nat.land i 14 < 16 := (kb_f hi (g := 14) (by decide)).2.2.2.2.1
    rw [e1, e2, Bool.or_false] at h
    refine z_bf c61 (z_bf c38 (z_bt rfl ?_))
    rw [b6, (kb_f hl hj).2.2.1]
    exact h
  refine z_bf c61 (z_bf c38 (z_bf c63 ?_))
  by_cases c45 : c = 45 ∨ c = 42
  · have e2 : ko_b c i j = kb (Nat.lor i j) 2 := by unfold ko_b; rw [e0]; rcases c45 with rfl | rfl <;> rfl
    have e1 : ko_v c i j = 2 := by unfold ko_v; rw [e0]; rcases c45 with rfl | rfl <;> rfl
    rw [e1, e2] at h
    have go : m_only Gm d (nI i ||| nI j) (nI 2) (kf f p x) (fun v2 f1 => K (nI 2) f1) := by
      rw [b3]
      exact c_only hM b4 (by decide) h
    exact z_br (fun _ => go) (fun _ => z_bt (by omega) go)
  have c4 : c = 43 ∨ c = 60 := by unfold tx_O at hc; omega
  refine z_bf (by omega) (z_bf (by omega) ?_)
  have e2 : ko_b c i j = (kb (Nat.lor i j) 6 || (Nat.blt 0 (Nat.land i 2) && Nat.blt 0 (Nat.land j 4)) || (Nat.blt 0 (Nat.land i 4) && Nat.blt 0 (Nat.land j 2))) := by unfold ko_b; rw [e0]; rcases c4 with rfl | rfl <;> rfl
  rw [b3]
  refine c_only hM b4 (by decide) ?_
  rw [kf_75]
  have hx : ∀ (y : Bool), y = (x || ko_b c i j) → mm_br (c = 60) (K (nI 2) (mj_u2 (kf f p (x || kb (Nat.lor i j) 6)) 1714 75 (bI y))) (K ((nI i &&& nI j) &&& (nI 6)) (mj_u2 (kf f p (x || kb (Nat.lor i j) 6)) 1714 75 (bI y))) := fun y hy => by
    rw [kf_x, hy]
    rcases c4 with rfl | rfl
    · refine z_bf (by decide) ?_
      rw [b2, (kb_f b5 (g := 6) (by decide)).2.1]
      have e1 : ko_v 43 i j = Nat.land (Nat.land i j) 6 := by unfold ko_v; rw [e0]; rfl
      rw [e1] at h
      exact h
    · have e1 : ko_v 60 i j = 2 := by unfold ko_v; rw [e0]; rfl
      rw [e1] at h
      exact z_bt rfl h
  have i2 := (kb_f hi (g := 2) (by decide)).2.1
  have i4 := (kb_f hi (g := 4) (by decide)).2.1
  have j2 := (kb_f hj (g := 2) (by decide)).2.1
  have j4 := (kb_f hj (g := 4) (by decide)).2.1
  have l2 := (kb_f hi (g := 2) (by decide)).2.2.2.2.1
  have l4 := (kb_f hi (g := 4) (by decide)).2.2.2.2.1
  have m2 := (kb_f hj (g := 2) (by decide)).2.2.2.2.1
  have m4 := (kb_f hj (g := 4) (by decide)).2.2.2.2.1
  have z0 : ∀ {v : Nat}, v < 16 → (nI v = nI 0) = (Nat.blt 0 v = false) := fun hv => by
    rw [z_eq (by omega) (by decide)]
    refine propext ⟨fun q => by rw [q]; rfl, fun q => ?_⟩
    apply Decidable.byContradiction
    intro h0
    have : Nat.blt 0 _ = true := Nat.ble_eq_true_of_le (Nat.pos_of_ne_zero h0)
    rw [this] at q
    cases q
  cases hb : (x || kb (Nat.lor i j) 6) with
  | true =>
    have hx1 := hx true (by rw [e2, ← Bool.or_assoc, ← Bool.or_assoc, hb]; rfl)
    rw [hb] at hx1
    exact z_bf (by decide) (by rw [z_eq (by omega) (by decide)]; exact hx1)
  | false =>
    have hbx : x = false ∧ kb (Nat.lor i j) 6 = false := Bool.or_eq_false_iff.mp hb
    refine z_bt rfl ?_
    have tail : ∀ (u v : Bool), Nat.blt 0 (Nat.land i 4) = u → Nat.blt 0 (Nat.land j 2) = v → (Nat.blt 0 (Nat.land i 2) && Nat.blt 0 (Nat.land j 4)) = false → m_kindsOfBoth_90 Gm (d + 1) (nI c) (nI i) (nI j) (kf f p false) K := fun u v hu hv h0 => by
      refine w_m_kindsOfBoth_90 hM ?_
      rw [i4, j2, z0 l4, z0 m2, z_eq (by omega) (by omega), hu, hv]
      have hx2 := hx (u && v) (by rw [e2, hbx.1, hbx.2, h0, hu, hv]; rfl)
      rw [hb] at hx2
      cases u with
      | false => exact z_bt rfl hx2
      | true =>
        cases v with
        | false => exact z_bf (by decide) (z_bt rfl hx2)
        | true => exact z_bf (by decide) (z_bf (by decide) hx2)
    rw [i2, j4, z0 l2, z0 m4]
    cases hu : Nat.blt 0 (Nat.land i 2) with
    | false => exact z_bt rfl (tail _ _ rfl rfl (by rw [hu]; rfl))
    | true =>
      cases hv : Nat.blt 0 (Nat.land j 4) with
      | false => exact z_bf (by decide) (z_bt rfl (tail _ _ rfl rfl (by rw [hu, hv]; rfl)))
      | true =>
        have hx1 := hx true (by rw [e2, hbx.1, hbx.2, hu, hv]; rfl)
        rw [hb] at hx1
        exact z_bf (by decide) (z_bf (by decide) (by rw [z_eq (by omega) (by decide)]; exact hx1))
end KD
