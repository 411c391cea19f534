/-! KEPT FRAGMENTS THAT ARE SOUND -/
/-- the bit of a letter -/
def kbit (l : Nat) : Int32 := nI 0 ||| mm_shl (nI 1) (nI l)
/-- a kept fragment holds what its body puts out, in its context, of its value -/
def KF (u : wo) (F : kfr) : Prop := k_T F < 10 ∧ k_p F < 80 ∧ ∃ r l w src, (k_p F, r) ∈ u_L u (k_T F) ∧ KB u r l w src ∧ k_ra F = kbit l ∧ k_rd F = nI 0 ∧ rv_t (k_vs F l) ≤ 3 ∧ ∃ oa ob, o_x oa (o_n oa) = k_x F ∧ o_v src (vw w (k_vs F l)) oa = (nI 0, ob) ∧ k_n F = o_n ob - o_n oa ∧ k_c F = fun j => o_c ob (o_n oa + j)
def SF (u : wo) (FG : Nat → kfr) : Prop := ∀ i, i < 10 → k_is (FG i) = true → KF u (FG i)
/-- no two tags of a template stand at one place -/
def UL (u : wo) : Prop := ∀ T, T < 10 → ∀ p r r', (p, r) ∈ u_L u T → (p, r') ∈ u_L u T → r = r'
/-- a fragment's tag -/
def KN (u : wo) (r i : Nat) : Prop := i < 10 ∧ mj_i (u_G u) r 3 = nI i ∧ ∃ T p l w src, nd u T r p 107 ∧ T < 10 ∧ p < 80 ∧ (p, r) ∈ u_L u T ∧ KB u r l w src
/-- fragments that fit alike -/
def AGR (u : wo) (F F' : kfr) : Prop := ∀ T p lc ln o N B V, (fitS F T p lc ln o ∧ fitV u F N B V) ↔ (fitS F' T p lc ln o ∧ fitV u F' N B V)
section D06c
variable {u : wo}
theorem rv_sk_r {I : Nat → Nat → rv} {v : rv} : rv_sk I I v v := ⟨rfl, rfl, rfl, fun _ => rfl, fun _ _ _ => rfl, fun _ _ _ => ⟨rfl, fun _ => rfl, fun _ => ⟨rfl, fun _ _ => rfl⟩⟩⟩
theorem rv_pl_2 {a b c d : rv} (h1 : rv_pl a b) (h2 : rv_pl c b) (h3 : rv_pl c d) : rv_pl a d := by
  obtain ⟨a1, a2, a3⟩ := h1
  obtain ⟨b1, b2, b3⟩ := h2
  obtain ⟨c1, c2, c3⟩ := h3
  refine ⟨a1.trans (b1.symm.trans c1), fun q => ?_, fun q => ?_⟩
  · have hc : rv_t c = 1 := b1.trans (a1.symm.trans q)
    exact (a2 q).trans ((b2 hc).symm.trans (c2 hc))
  · have hc : rv_t c = 2 := b1.trans (a1.symm.trans q)
    obtain ⟨d1, d2⟩ := a3 q
    obtain ⟨e1, e2⟩ := b3 hc
    obtain ⟨f1, f2⟩ := c3 hc
    exact ⟨d1.trans (e1.symm.trans f1), fun j hj => (d2 j hj).trans ((e2 j (by omega)).symm.trans (f2 j (by omega)))⟩
theorem rv_sk_2 {I0 I1 I J : Nat → Nat → rv} {v0 v1 v x : rv} (h1 : rv_sk I0 I v0 v) (h2 : rv_sk I1 I v1 v) (h3 : rv_sk I1 J v1 x) : rv_sk I0 J v0 x := by
  obtain ⟨a1, a2, a3, a4, a5, a6⟩ := h1
  obtain ⟨b1, b2, b3, b4, b5, b6⟩ := h2
  obtain ⟨c1, c2, c3, c4, c5, c6⟩ := h3
  have t1 : ∀ {k}, rv_t v0 = k → rv_t v1 = k := fun q => b1.trans (a1.symm.trans q)
  exact ⟨a1.trans (b1.symm.trans c1), a2.trans (b2.symm.trans c2), a3.trans (b3.symm.trans c3), fun q => (a4 q).trans ((b4 (t1 q)).symm.trans (c4 (t1 q))), fun q j hj => (a5 q j (by omega)).trans ((b5 (t1 q) j (by omega)).symm.trans (c5 (t1 q) j hj)), fun q k hk => rv_pl_2 (a6 q k (by omega)) (b6 (t1 q) k (by omega)) (c6 (t1 q) k hk)⟩
theorem vw_sk {I0 I : Nat → Nat → rv} {v0 v : rv} {w : Option Int32} (h : rv_sk I0 I v0 v) : rv_sk I0 I (vw w v0) (vw w v) := by
  unfold vw
  by_cases q : rv_t v = 0
  · rw [if_pos (h.1.trans q), if_pos q]
    cases w with
    | none => exact h
    | some y => exact ⟨rfl, rfl, rfl, fun _ => rfl, fun _ _ _ => rfl, fun t => absurd t (by show ¬ 1 = 3; decide)⟩
  · rw [if_neg (fun t => q (h.1.symm.trans t)), if_neg q]
    exact h
theorem vw_3 {v : rv} {w : Option Int32} (h : rv_t v ≤ 3) : rv_t (vw w v) ≤ 3 := by
  unfold vw
  by_cases q : rv_t v = 0
  · rw [if_pos q]
    cases w with
    | none => exact h
    | some y => show 1 ≤ 3; decide
  · rw [if_neg q]
    exact h
theorem kbit_b {l j : Nat} (hl : l < 26) (hj : j < 26) : bt (kbit l) j ↔ j = l := by
  unfold kbit
  rw [bt_or (by omega) (by omega)]
  exact ⟨fun h => h.resolve_left bt_0, Or.inr⟩
theorem KB_det {r l l' src src' : Nat} {w w' : Option Int32} (h : KB u r l w src) (h' : KB u r l' w' src') : l = l' ∧ w = w' ∧ src = src' := by
  obtain ⟨-, -, ⟨a1, a2⟩, T, p, a3, a4, a5, rfl⟩ := h
  obtain ⟨-, -, ⟨b1, b2⟩, T', p', b3, b4, b5, rfl⟩ := h'
  obtain rfl := nd_T a3 b3 a4 b4
  obtain rfl := nd_p a3 b3 a5 b5
  rcases a2 with ⟨rfl, x1, x2⟩ | ⟨x1, x2, x3, x4, rfl⟩
  · rcases b2 with ⟨rfl, y1, y2⟩ | ⟨y1, y2, y3, y4, rfl⟩
    · exact ⟨nkd x2 y2 (by omega) (by omega), rfl, rfl⟩
    · exact absurd (nkd x1 y1 (by decide) (by decide)) (by decide)
  · rcases b2 with ⟨rfl, y1, y2⟩ | ⟨y1, y2, y3, y4, rfl⟩
    · exact absurd (nkd x1 y1 (by decide) (by decide)) (by decide)
    · exact ⟨nkd x3 y3 (by omega) (by omega), rfl, rfl⟩
theorem KB_l {r l src : Nat} {w : Option Int32} (h : KB u r l w src) : l < 26 := h.2.2.1.1
/-- a fragment that fits puts out what its body would -/
theorem KF_hit {F : kfr} {T p r l lc src N : Nat} {w : Option Int32} {ln B : Nat → Nat} {V : Nat → Nat → Option rv} {o : ost} (hF : KF u F) (hU : UL u) (hpr : (p, r) ∈ u_L u T) (hK : KB u r l w src) (hs : fitS F T p lc ln o) (hv : fitV u F N B V) : o_v src (vw w (e_vl (u_D u) B V l N)) o = o_pc (k_c F) (k_n F) 0 o ∧ k_ra F = kbit l ∧ k_rd F = nI 0 := by
  obtain ⟨hT, hp, r', l', w', src', h1, h2, h3, h4, h5, oa, ob, h6, h7, h8, h9⟩ := hF
  obtain ⟨s1, s2, s3, s4, s5, s6, s7⟩ := hs
  rw [s2, s3] at h1
  rw [s2] at hT
  obtain rfl := hU T hT p r r' hpr h1
  obtain ⟨rfl, rfl, rfl⟩ := KB_det hK h2
  have hl := KB_l hK
  have sk := hv.1 l hl (by rw [h3]; exact (kbit_b hl hl).mpr rfl)
  have t3 : rv_t (e_vl (u_D u) B V l N) ≤ 3 := by rw [← sk.1]; exact h5
  refine ⟨?_, h3, h4⟩
  rw [← o_v_sk (vw_3 t3) (vw_sk (w := w) sk), h8, h9]
  exact Lc_k (F := fun o => o_v src (vw w (k_vs F l)) o) (Lc_v (by rw [h7])) h7 (s6.symm.trans h6.symm)
/-- two fragments that fit at once, of one letter, fit alike ever after -/
theorem AGR_of {F F' : kfr} {l T p lc N : Nat} {ln B : Nat → Nat} {V : Nat → Nat → Option rv} {o : ost} (hl : l < 26) (a1 : k_ra F = kbit l) (a2 : k_rd F = nI 0) (b1 : k_ra F' = kbit l) (b2 : k_rd F' = nI 0) (hs : fitS F T p lc ln o) (hv : fitV u F N B V) (hs' : fitS F' T p lc ln o) (hv' : fitV u F' N B V) : AGR u F F' := by
  have one : ∀ {F F' : kfr}, k_ra F = kbit l → k_rd F = nI 0 → k_ra F' = kbit l → k_rd F' = nI 0 → fitS F T p lc ln o → fitV u F N B V → fitS F' T p lc ln o → fitV u F' N B V → ∀ T2 p2 lc2 ln2 o2 N2 B2 V2, fitS F T2 p2 lc2 ln2 o2 ∧ fitV u F N2 B2 V2 → fitS F' T2 p2 lc2 ln2 o2 ∧ fitV u F' N2 B2 V2 := by
    intro F F' a1 a2 b1 b2 hs hv hs' hv' T2 p2 lc2 ln2 o2 N2 B2 V2 ⟨⟨g1, g2, g3, g4, g5, g6, g7⟩, g8, g9⟩
    obtain ⟨s1, s2, s3, s4, s5, s6, s7⟩ := hs
    obtain ⟨t1, t2, t3, t4, t5, t6, t7⟩ := hs'
    refine ⟨⟨t1, t2.trans (s2.symm.trans g2), t3.trans (s3.symm.trans g3), t4.trans (s4.symm.trans g4), fun j hj => ?_, t6.trans (s6.symm.trans g6), t7.trans (s7.symm.trans g7)⟩, fun m hm hb => ?_, fun m hm hb => ?_⟩
    · have hj' : j < lc := by rw [← s4, g4]; exact hj
      exact (t5 j hj').trans ((s5 j hj').symm.trans (g5 j hj))
    · rw [b1] at hb
      have hb' : bt (k_ra F) m := by rw [a1]; exact hb
      exact rv_sk_2 (hv'.1 m hm (by rw [b1]; exact hb)) (hv.1 m hm hb') (g8 m hm hb')
    · rw [b2] at hb
      exact absurd hb bt_0
  exact fun T2 p2 lc2 ln2 o2 N2 B2 V2 => ⟨one a1 a2 b1 b2 hs hv hs' hv' T2 p2 lc2 ln2 o2 N2 B2 V2, one b1 b2 a1 a2 hs' hv' hs hv T2 p2 lc2 ln2 o2 N2 B2 V2⟩
/-- a variable found from a scope more -/
theorem e_vl_n {D : Nat → rv} {B : Nat → Nat} {V : Nat → Nat → Option rv} {l N : Nat} (hB : ∀ s, B s ≤ s) (hV : V N l = none) : e_fd (e_bh B N N) V l (N + 1) (N + 1) = e_fd B V l N N ∧ e_vl D (e_bh B N N) V l (N + 1) = e_vl D B V l N := by
  have hB' : ∀ s, e_bh B N N s ≤ s := fun s => by
    unfold e_bh
    by_cases q : s = N
    · rw [if_pos q]
      omega
    · rw [if_neg q]
      exact hB s
  have go : ∀ n x, x ≤ N → e_fd (e_bh B N N) V l n x = e_fd B V l n x := fun n => by
    induction n with
    | zero => intro x _; rfl
    | succ n ih =>
      intro x hx
      unfold e_fd
      by_cases q0 : x = 0
      · rw [if_pos q0, if_pos q0]
      · rw [if_neg q0, if_neg q0]
        have e : e_bh B N N (x - 1) = B (x - 1) := if_neg (by omega)
        have hx' := hB (x - 1)
        rw [e, ih (B (x - 1)) (by omega)]
  have e1 : e_fd (e_bh B N N) V l (N + 1) (N + 1) = e_fd B V l N N := by
    have e2 : e_bh B N N (N + 1 - 1) = N := by
      rw [Nat.add_sub_cancel]
      exact if_pos rfl
    rw [e_fd_s hB' (Nat.succ_ne_zero N), e2, show N.succ - 1 = N from rfl, hV, if_neg (by decide)]
    exact go N N (Nat.le_refl N)
  refine ⟨e1, ?_⟩
  unfold e_vl
  rw [e1]
end D06c
