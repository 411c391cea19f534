/-! RENDERING: blanks of literals at the end -/
theorem z_b128 {y : Nat} : y &&& 128 = y / 128 % 2 * 128 := by
  apply Nat.eq_of_testBit_eq
  intro i
  have e7 : (128 : Nat) = 2 ^ 7 := rfl
  have h7 : y.testBit 7 = decide (y / 128 % 2 = 1) := Nat.testBit_eq_decide_div_mod_eq
  rw [Nat.testBit_and]
  have ht : (128 : Nat).testBit i = decide (7 = i) := by rw [e7, Nat.testBit_two_pow]
  rw [ht]
  by_cases hi : 7 = i
  · subst hi
    rw [h7]
    rcases (by omega : y / 128 % 2 = 0 ∨ y / 128 % 2 = 1) with q | q
    · rw [q]; decide
    · rw [q]; decide
  · rw [decide_eq_false hi, Bool.and_false]
    rcases (by omega : y / 128 % 2 = 0 ∨ y / 128 % 2 = 1) with q | q
    · rw [q, Nat.zero_mul, Nat.zero_testBit]
    · rw [q, Nat.one_mul, ht, decide_eq_false hi]
theorem om_b {z : Nat} (hz : z < 2 ^ 31) : (om z &&& nI 128 = nI 0) = (oc_b z = false) := by
  have hy : ∀ u, u ≤ 128 → z % 128 + u + 256 * (z / 262144) < 2 ^ 31 := fun u hu => by omega
  have e : ∀ y, y < 2 ^ 31 → nI y &&& nI 128 = nI (y / 128 % 2 * 128) := fun y hy => by
    apply Int32.toBitVec.inj
    show (nI y).toBitVec &&& (nI 128).toBitVec = _
    apply BitVec.eq_of_toNat_eq
    rw [BitVec.toNat_and, z_bv hy, z_bv (by decide), z_bv (by omega), z_b128]
  unfold om
  cases hb : oc_b z with
  | true =>
    rw [if_pos rfl, e _ (hy 128 (by decide)), z_eq (by omega) (by decide)]
    exact propext ⟨fun q => by omega, fun q => absurd q (by decide)⟩
  | false =>
    rw [if_neg (by decide), e _ (hy 0 (by decide)), z_eq (by omega) (by decide)]
    exact propext ⟨fun _ => rfl, fun _ => by omega⟩
/-- how long without blanks of literals at the end -/
def o_dr (C : Nat → Nat) : Nat → Nat
  | 0 => 0
  | n + 1 => if oc_b (C n) = true then o_dr C n else n + 1
theorem o_drl {C : Nat → Nat} : ∀ {n : Nat}, o_dr C n ≤ n
  | 0 => Nat.le_refl _
  | n + 1 => by
    unfold o_dr
    by_cases h : oc_b (C n) = true
    · rw [if_pos h]
      have := o_drl (C := C) (n := n)
      omega
    · rw [if_neg h]; exact Nat.le_refl _
/-- trimmed -/
def o_tm (o : ost) : ost := (o_dr (o_c o) (o_n o), o_c o, o_x o, true)
theorem o_tmk {o : ost} (h : o_ok o) : o_ok (o_tm o) := by
  have hl := o_drl (C := o_c o) (n := o_n o)
  have h1 := h.1
  exact ⟨by show o_dr (o_c o) (o_n o) ≤ 300; omega, h.2.1, fun i hi => h.2.2 i (Nat.lt_of_lt_of_le hi hl)⟩
section TM
variable {ρ : Nat → Nat} {D : Nat → rv} {I : Nat → Nat → rv} {G Gm : mj_G} {f : mm_F} {d : Nat} {o : ost}
theorem c_row (h : hh ρ D I G) (ho : oC G o) : mj_k G (mj_r G 1589 0) = 20 ∧ mj_l G (mj_r G 1589 0) = 300 := by
  rcases ho.2.1 with e | e
  · rw [e]; exact ⟨cs_k h.1 rfl, cs_l h.1 rfl⟩
  · rw [e]; exact ⟨cs_k h.1 rfl, cs_l h.1 rfl⟩
theorem c_blank9 {K : Int32 → mj_G → Prop} (h : hh ρ D I G) (ho : oC G o) (hd : 16 ≤ d) : ∀ {i n : Nat}, i ≤ o_n o → n ≤ 300 → n + i ≤ 300 → K (nI (n + (i - o_dr (o_c o) i))) G → Ou_literalBlanks_9 (d + 1) (nI n) (sh i) G K
  | 0, n, hi, hn, hni, hK => by
    refine w_Ou_literalBlanks_9 h.1 (by omega) (z_bt (by rw [sh_l (by decide)]) ?_)
    have e : n + (0 - o_dr (o_c o) 0) = n := by omega
    rw [e] at hK
    exact hK
  | i + 1, n, hi, hn, hni, hK => by
    have k1 := ho.1.1
    obtain ⟨r1, r2⟩ := c_row h ho
    obtain ⟨g1, -⟩ := ho.1.2.2 i (by omega)
    refine w_Ou_literalBlanks_9 h.1 (by omega) (z_bf (by rw [sh_l (by omega)]; omega) ⟨r1, ?_⟩)
    rw [sh_s, r2]
    refine z_ixi (by omega) (by decide) ?_
    rw [ho.2.2.2.2.1 i (by omega), q_42 g1, z_add, sh_p]
    have hl := o_drl (C := o_c o) (n := i)
    refine z_br (fun q => c_blank9 h ho hd (i := i) (n := n + 1) (by omega) (by omega) (by omega) ?_) (fun q => ?_)
    · have e : o_dr (o_c o) (i + 1) = o_dr (o_c o) i := by show (if _ then _ else _) = _; rw [if_pos q]
      rw [e] at hK
      rw [show n + 1 + (i - o_dr (o_c o) i) = n + (i + 1 - o_dr (o_c o) i) by omega]
      exact hK
    · have e : o_dr (o_c o) (i + 1) = i + 1 := by show (if _ then _ else _) = _; rw [if_neg q]
      rw [e, Nat.sub_self, Nat.add_zero] at hK
      exact hK
theorem c_literalBlanks {K : Int32 → mj_G → Prop} (h : hh ρ D I G) (ho : oC G o) (hd : 16 ≤ d) (hK : K (nI (o_n o - o_dr (o_c o) (o_n o))) G) : Ou_literalBlanks (d + 1) G K := by
  have k1 := ho.1.1
  refine w_Ou_literalBlanks h.1 ?_
  rw [ho.2.2.1, sh_m]
  exact c_blank9 h ho hd (i := o_n o) (n := 0) (Nat.le_refl _) (by decide) (by omega) (by rw [Nat.zero_add]; exact hK)
theorem c_trim {K : mj_G → Prop} (h : hh ρ D I G) (ho : oC G o) (hd : 16 ≤ d) (hK : ∀ G', hh ρ D I G' → fw ρ oW G G' → oX G G' → oC G' (o_tm o) → K G') : Ou_trim (d + 2) G K := by
  have hl := o_drl (C := o_c o) (n := o_n o)
  refine w_Ou_trim h.1 (c_literalBlanks h ho hd ?_)
  rintro _ rfl
  rintro _ rfl
  rw [ho.2.2.1, z_sub (by omega), show o_n o - (o_n o - o_dr (o_c o) (o_n o)) = o_dr (o_c o) (o_n o) by omega]
  obtain ⟨h2, F2⟩ := o_hI (a := 1589) (j := 1) (y := nI (o_dr (o_c o) (o_n o))) h (by unfold oW; decide)
  obtain ⟨h3, F3⟩ := o_hI (a := 1589) (j := 5) (y := nI 1) h2 (by unfold oW; decide)
  have hr : mj_r G 1589 0 ≠ 1589 := by rcases ho.2.1 with e | e <;> rw [e] <;> decide
  refine hK _ h3 (fw_t F2 ro_r F3) ⟨fun _ => rfl, (z_iIm (by decide)).trans (z_iIm (by decide)), fun a j q _ => (z_iIn (by omega)).trans (z_iIn (by omega))⟩ ⟨o_tmk ho.1, ho.2.1, (z_iIm (by decide)).trans z_iIs, z_iIs, fun i hi => ?_, fun i hi => ?_⟩
  · exact (z_iIn hr).trans ((z_iIn hr).trans (ho.2.2.2.2.1 i (Nat.lt_of_lt_of_le hi hl)))
  · exact (z_iIn (by decide)).trans ((z_iIn (by decide)).trans (ho.2.2.2.2.2 i (Nat.le_trans hi hl)))
/-- the fragments that are made are spoilt -/
def R_s (a : Nat) : Prop := a = 1748
theorem p_spoils {M : Nat} {K : mm_F → Prop} (hM : mm_S Gm) (h44 : f 1714 44 = nI M) (hM12 : M ≤ 12) (hK : ∀ f', mw no_R no_R R_s f f' → (∀ k, k < M → f' 1748 k = nI 1) → K f') : m_spoils Gm d f K := by
  have go : ∀ m k f1, k + m = M → mw no_R no_R R_s f f1 → (∀ i, i < k → f1 1748 i = nI 1) → m_spoils_2 Gm d (nI k) f1 K := fun m => by
    induction m with
    | zero =>
      intro k f1 hk F g
      refine w_m_spoils_2 hM (z_bt ?_ (hK f1 F (fun i hi => g i (by omega))))
      rw [F.2.1 44 (fun q => q), h44, z_le (by omega) (by omega)]; omega
    | succ m ih =>
      intro k f1 hk F g
      refine w_m_spoils_2 hM (z_bf ?_ (z_ixi (by omega) (by decide) ?_))
      · rw [F.2.1 44 (fun q => q), h44, z_le (by omega) (by omega)]; omega
      rw [z_add]
      refine ih (k + 1) _ (by omega) (mw_t F (mw_R (by decide) rfl)) (fun i hi => ?_)
      by_cases q : i = k
      · rw [q]; exact z_u2s
      · exact (z_u2m q).trans (g i (by omega))
  exact w_m_spoils hM (go M 0 f (by omega) mw_r (fun i hi => absurd hi (Nat.not_lt_zero i)))
def R_t (a : Nat) : Prop := a = 1748
theorem p_trims {M : Nat} {K : mm_F → Prop} (hM : mm_S Gm) (h44 : f 1714 44 = nI M) (hM12 : M ≤ 12) (ho : oM f o) (hK : ∀ f', mw no_R oS R_s f f' → oM f' (o_tm o) → (∀ k, k < M → f' 1748 k = nI 1) → f' 1714 70 = f 1714 70 → K f') : m_trims Gm (d + 1) f K := by
  have go : ∀ n f1, n ≤ o_n o → o_dr (o_c o) n = o_dr (o_c o) (o_n o) → mw no_R (fun j => j = 61) no_R f f1 → f1 1714 61 = nI n → m_trims Gm (d + 1) f1 K := fun n => by
    induction n with
    | zero =>
      intro f1 hn hdr F e61
      have k1 := ho.1.1
      refine w_m_trims hM (z_bt (by rw [e61, z_le (by decide) (by decide)]; exact Nat.le_refl _) ?_)
      have hz : o_dr (o_c o) (o_n o) = 0 := hdr.symm
      refine p_spoils (M := M) hM ((z_u2m (by decide)).trans ((F.2.1 44 (by decide)).trans h44)) hM12 (fun f2 F2 g2 => ?_)
      refine hK f2 (mw_t (mw_m F (fun _ q => q) (fun _ q => Or.inl q) (fun _ q => q.elim)) (mw_t (mw_S (Or.inr (Or.inl rfl))) (mw_m F2 (fun _ q => q) (fun _ q => q.elim) (fun _ q => q)))) ⟨o_tmk ho.1, ?_, ?_, fun i hi => ?_, fun i hi => ?_⟩ g2 ((F2.2.1 70 (fun q => q)).trans ((z_u2m (by decide)).trans (F.2.1 70 (by decide))))
      · show _ = nI (o_dr (o_c o) (o_n o))
        rw [hz]
        exact (F2.2.1 61 (fun q => q)).trans ((z_u2m (by decide)).trans e61)
      · exact (F2.2.1 62 (fun q => q)).trans z_u2s
      · have hi' : i < o_dr (o_c o) (o_n o) := hi
        omega
      · have hi' : i ≤ o_dr (o_c o) (o_n o) := hi
        exact (F2.1 1760 i (by decide) (by decide) (by unfold R_s; decide)).trans ((z_u2n (by decide)).trans ((F.1 1760 i (by decide) (by decide) (fun q => q)).trans (ho.2.2.2.2 i (by omega))))
    | succ n ih =>
      intro f1 hn hdr F e61
      have k1 := ho.1.1
      obtain ⟨g1, -⟩ := ho.1.2.2 n (by omega)
      refine w_m_trims hM (z_bf (by rw [e61, z_le (by omega) (by decide)]; omega) ?_)
      rw [e61, z_sub (by omega), Nat.add_sub_cancel]
      refine z_ixi (by omega) (by decide) ?_
      rw [(F.1 1759 n (by decide) (by decide) (fun q => q)).trans (ho.2.2.2.1 n (by omega)), om_b g1]
      refine z_br (fun q => ?_) (fun q => ?_)
      · have e : o_dr (o_c o) (n + 1) = n + 1 := by show (if _ then _ else _) = _; rw [if_neg (by rw [q]; decide)]
        have hz : o_dr (o_c o) (o_n o) = n + 1 := by rw [← hdr, e]
        refine p_spoils (M := M) hM ((z_u2m (by decide)).trans ((F.2.1 44 (by decide)).trans h44)) hM12 (fun f2 F2 g2 => ?_)
        refine hK f2 (mw_t (mw_m F (fun _ q => q) (fun _ q => Or.inl q) (fun _ q => q.elim)) (mw_t (mw_S (Or.inr (Or.inl rfl))) (mw_m F2 (fun _ q => q) (fun _ q => q.elim) (fun _ q => q)))) ⟨o_tmk ho.1, ?_, ?_, fun i hi => ?_, fun i hi => ?_⟩ g2 ((F2.2.1 70 (fun q => q)).trans ((z_u2m (by decide)).trans (F.2.1 70 (by decide))))
        · show _ = nI (o_dr (o_c o) (o_n o))
          rw [hz]
          exact (F2.2.1 61 (fun q => q)).trans ((z_u2m (by decide)).trans e61)
        · exact (F2.2.1 62 (fun q => q)).trans z_u2s
        · have hi' : i < o_dr (o_c o) (o_n o) := hi
          exact (F2.1 1759 i (by decide) (by decide) (by unfold R_s; decide)).trans ((z_u2n (by decide)).trans ((F.1 1759 i (by decide) (by decide) (fun q => q)).trans (ho.2.2.2.1 i (by omega))))
        · have hi' : i ≤ o_dr (o_c o) (o_n o) := hi
          exact (F2.1 1760 i (by decide) (by decide) (by unfold R_s; decide)).trans ((z_u2n (by decide)).trans ((F.1 1760 i (by decide) (by decide) (fun q => q)).trans (ho.2.2.2.2 i (by omega))))
      · have hq : oc_b (o_c o n) = true := by
          cases hb : oc_b (o_c o n) with
          | true => rfl
          | false => exact absurd hb q
        have e : o_dr (o_c o) (n + 1) = o_dr (o_c o) n := by show (if _ then _ else _) = _; rw [if_pos hq]
        exact ih _ (by omega) (by rw [← e]; exact hdr) (mw_t F (mw_S rfl)) z_u2s
  exact go (o_n o) f (Nat.le_refl _) rfl mw_r ho.2.1
end TM
