/-! THE CASES OF THE LAW -/
/-- where the law stands: script, class, model, row, place -/
abbrev lv5 (x4 : Int32) : List (Option mj_V) := [some (.inr (.inr 1)), some (.inr (.inr 3)), some (.inr (.inr 1714)), some (.inr (.inr 1767)), some (.inl x4), none, none]
theorem z_tn {n : Nat} (h : n < 2 ^ 31) : (nI n).toNatClampNeg = n := by
  have h1 := nI_toInt h
  show (nI n).toInt.toNat = n
  rw [h1]
  rfl
theorem z_vp {n N : Nat} (h : n < N) (hN : N < 2 ^ 31) : vp_in (nI n) N := (z_ixi (K := fun _ => True) h hN trivial).1
theorem ch_x {x : Int32} : ∃ c, c < 65536 ∧ (x.toUInt32 % 65536).toInt32 = nI c := by
  refine ⟨(x.toUInt32 % 65536).toNat, ?_, ?_⟩
  · have : (x.toUInt32 % 65536).toNat = x.toUInt32.toNat % 65536 := rfl
    omega
  · have h : (x.toUInt32 % 65536).toNat < 65536 := by
      have : (x.toUInt32 % 65536).toNat = x.toUInt32.toNat % 65536 := rfl
      omega
    apply Int32.toInt_inj.mp
    rw [nI_toInt (by omega)]
    show (x.toUInt32 % 65536).toBitVec.toInt = _
    rw [BitVec.toInt_eq_toNat_of_lt (by show 2 * (x.toUInt32 % 65536).toNat < 2 ^ 32; omega)]
    rfl
theorem lg_00 {x : Int64} : lg_cmp x x = (0 : Int32) := by
  unfold lg_cmp
  have h : ¬ x > x := fun h => by
    have h' : x < x := h
    rw [Int64.lt_iff_toInt_lt] at h'
    omega
  rw [if_neg h, if_pos rfl]
/-- whether what the model threw is what the class threw -/
theorem th_e {c : Nat → Nat} {res : Int32 ⊕ Nat} {k v t : Int32} (h1 : ∀ r, res = .inl r → k = nI 0) (h2 : ∀ e, res = .inr e → c e ≠ 0 ∧ k = nI (c e)) (h : rJ c res v t) : t = k := by
  cases res with
  | inl r => rw [h1 r rfl]; exact (h.1 r rfl).2
  | inr e => rw [(h2 e rfl).2]; exact h.2 e rfl
theorem th_r {c : Nat → Nat} (hc : ∀ k, c k ≤ 2) {res : Int32 ⊕ Nat} {k v t : Int32} (h2 : ∀ e, res = .inr e → c e ≠ 0 ∧ k = nI (c e)) (h : rJ c res v t) (hk : k = (0 : Int32)) : res = .inl v := by
  cases res with
  | inl r => rw [(h.1 r rfl).1]
  | inr e =>
    obtain ⟨a, b⟩ := h2 e rfl
    rw [b, show (0 : Int32) = nI 0 from rfl, z_eq (by have := hc e; omega) (by decide)] at hk
    exact absurd hk a
theorem cA_2 (k : Nat) : cA k ≤ 2 := by
  unfold cA
  by_cases q : k = 15
  · rw [if_pos q]; decide
  · rw [if_neg q]
    by_cases q1 : k = 16
    · rw [if_pos q1]; decide
    · rw [if_neg q1]; decide
section ZZZG
variable {N cnt : Nat} {G : mj_G} {Q : mj_O → mj_G → Prop}
theorem st_152 (hI : LI N cnt G) (h3 : 3 * cnt + 3 ≤ N) (hN : N ≤ 1536) (nx : ∀ G', LI N (cnt + 1) G' → mj_X 2047 14018 1282 (lv5 (nI (3 * cnt))) [] G' Q) : mj_X 2047 14018 152 (lv5 (nI (3 * cnt))) [] G Q := by
  obtain ⟨s, ρ, f, hS, hs, hC, hL, hE, hn, hu⟩ := hI
  have hG := hh_n hC.1
  obtain ⟨c, hc, ec⟩ := ch_x (x := mj_i G 1 (3 * cnt + 1))
  obtain ⟨k, G2, s', ρ', res, X, z1, z2, z3, z4, z5, z6⟩ := wrap_v (c := cA) (opD_of (opK_of (op_type hc))) (fun Q h => wr_14000 (d := 2045) (cs_k (K := 13) hC.1.1 rfl) h) hS hs hC hL
  have hS2 := lw_yR hG hS z5
  have e1 : nI (3 * cnt) + Int32.ofInt 1 = nI (3 * cnt + 1) := z_add _ _
  have eM : mm_M f G2 = G2 := mm_G2 z5 hE
  refine mk_14018_152 hS.2.1 (by rw [e1, hS.2.2.1]; exact z_vp (by omega) (by omega)) rfl ?_
  rw [e1, z_tn (by omega), ec]
  refine mc_14018_161 (R := fun v G1 => v = k ∧ G1 = G2) (mj_X_mono X (fun a b hab => ⟨k, hab.1, rfl, hab.2⟩)) (fun v G1 hv => ?_)
  rw [hv.1, hv.2]
  refine mk_14018_164 hS2.2.1 (by rw [e1, hS2.2.2.1]; exact z_vp (by omega) (by omega)) rfl ?_
  rw [e1, z_tn (by omega), (z5.2.1 1 (3 * cnt + 1) (Or.inl rfl) (by decide)).1, ec]
  have hm : mj_X 2046 13022 0 [some (.inr (.inr 1714)), some (.inl (nI c))] [] (mm_M f G2) (fun o G1 => ∃ v, o = .inl (some (.inl v)) ∧ ∃ f1, G1 = mm_M f1 G2 ∧ (LM s' f1 ∧ rJ cA res v (f1 1714 0))) := z6 (fun v f' => LM s' f' ∧ rJ cA res v (f' 1714 0)) (fun f' v a b => ⟨a, b⟩)
  rw [eM] at hm
  refine mc_14018_174 (R := fun v G3 => ∃ f1, G3 = mm_M f1 G2 ∧ (LM s' f1 ∧ rJ cA res v (f1 1714 0))) hS2.1.1 hm (fun v G3 hv => ?_)
  obtain ⟨f1, rfl, hL1, hr⟩ := hv
  have ht : mj_X 2046 13001 0 [some (.inr (.inr 1714))] [] (mm_M f1 G2) (fun o G1 => ∃ v, o = .inl (some (.inl v)) ∧ ∃ f2, G1 = mm_M f2 G2 ∧ (v = f1 1714 0 ∧ f2 = f1)) := w_m_thrown (K := fun v f2 => v = f1 1714 0 ∧ f2 = f1) hS2.1 ⟨rfl, rfl⟩
  refine mk_14018_177 (mc_14018_180 (R := fun v G4 => ∃ f2, G4 = mm_M f2 G2 ∧ (v = f1 1714 0 ∧ f2 = f1)) hS2.1.1 ht (fun v4 G4 hv4 => ?_))
  obtain ⟨f2, rfl, rfl, rfl⟩ := hv4
  have nxt := nx _ (LI_n hG hS hn hu z3 z4 z5 hL1)
  refine mk_14018_183 (fun _ => mk_14018_190 (fun _ => mk_14018_207 nxt) (fun q => ?_)) (fun q => absurd (th_e (fun r hr' => (z1 r hr').1) z2 hr) q)
  have er := th_r cA_2 z2 hr q
  refine mk_14018_195 hS2.2.2.2.1 (by show vp_in _ (mj_l G2 1767); rw [hS2.2.2.2.2]; exact vp_01) rfl (fun _ => mk_14018_207 nxt) (fun q1 => ?_)
  exfalso
  refine q1 ?_
  show lg_cmp (mj_j G2 1767 0) v.toInt64 = (0 : Int32)
  rw [(z1 v er).2]
  exact lg_00
end ZZZG
