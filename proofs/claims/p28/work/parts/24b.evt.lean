/-! THE EVALUATOR'S STEP IS THE MACHINE'S -/
theorem mv_in_s {i x : Int32} (h0 : ¬ i < 0) (h : i < x) : vp_in i x.toNatClampNeg := by
  have h1 : (0 : Int) ≤ i.toInt := by
    have := Int32.not_lt.mp h0
    simpa using Int32.le_iff_toInt_le.mp this
  have h2 := Int32.lt_iff_toInt_lt.mp h
  refine fun q => q.elim h0 (fun q => ?_)
  have q : x.toInt.toNat ≤ i.toInt.toNat := q
  omega
theorem mv_len_s {x : Int32} (h0 : ¬ x < 0) : Int32.ofNat x.toNatClampNeg = x := by
  have h1 : (0 : Int) ≤ x.toInt := by
    have := Int32.not_lt.mp h0
    simpa using Int32.le_iff_toInt_le.mp this
  have h2 : x.toInt < 2147483648 := x.toInt_lt
  apply Int32.toInt_inj.mp
  show (nI x.toInt.toNat).toInt = _
  rw [nI_toInt (by omega)]
  omega
theorem mv_in_n {ρ : Nat → Int32} {H : mv_H} {a : Nat} {i : Int32} (ha : a ≠ 1) (h : mv_in i (mv_lc H.2.2 a) = true) : vp_in i (mj_l (mv_dG ρ H) a) := by
  show vp_in i (if a = 1 then _ else mv_lc H.2.2 a)
  rw [if_neg ha]
  exact mv_in_e h
theorem mv_lc_n {ρ : Nat → Int32} {H : mv_H} {a k : Nat} (ha : a ≠ 1) (h : k ≤ mv_lc H.2.2 a) : k ≤ mj_l (mv_dG ρ H) a := by
  show k ≤ (if a = 1 then _ else mv_lc H.2.2 a)
  rw [if_neg ha]
  exact h
theorem mv_cp_n {H H' : mv_H} {a0 sp a dp n : Nat} (h : mv_cp H a0 sp a dp n = some H') : a0 ≠ 1 := by
  unfold mv_cp at h
  intro e
  subst e
  split at h
  · cases h
  · cases h
section MVS
variable {ρ : Nat → Int32} {tb : mv_T} {own : Nat} {ini : Bool} {i : Instr} {len pc q : Nat} {ls ls' : mv_L} {st st' : List mv_V} {H H' : mv_H} {bs bs' : List Bool} {fs fs' : mv_F} {K : mj_K}
theorem mv_gD {k : Nat} {v : mv_V} (h : mv_g ls k = some v) : mj_g (mv_dL ρ ls) k = some (mv_dV ρ v) := by
  rw [mv_gL, h]
  rfl
theorem mv_b2_e (ht : mv_okT ρ tb) {o n : Nat} (h : mv_b2 tb o n ls st H bs fs = some (q, ls', st', H', bs', fs')) : (∀ z ∈ fs, z ∈ fs') ∧ ((∀ z ∈ fs', mv_hold ρ z) → K q (mv_dL ρ ls') (mv_dS ρ st') (mv_dG ρ H') → mj_b2 (mv_ops o) (mv_dS ρ st) (fun st => K n (mv_dL ρ ls) st (mv_dG ρ H))) := by
  unfold mv_b2 at h
  split at h
  · rename_i y x st2
    split at h
    · rename_i r hr
      cases h
      refine ⟨fun z hz => hz, fun _ hK => ?_⟩
      show K _ _ (.inl (mv_ops o (mv_dI ρ x) (mv_dI ρ y)) :: mv_dS ρ st2) _
      rw [← mv_bin_e ht hr]
      exact hK
    · cases h
  · cases h
theorem mv_b2l_e (ht : mv_okT ρ tb) {f : Int64 → Int64 → Int64} {n : Nat} (h : mv_b2l f n ls st H bs fs = some (q, ls', st', H', bs', fs')) : (∀ z ∈ fs, z ∈ fs') ∧ ((∀ z ∈ fs', mv_hold ρ z) → K q (mv_dL ρ ls') (mv_dS ρ st') (mv_dG ρ H') → mj_b2l f (mv_dS ρ st) (fun st => K n (mv_dL ρ ls) st (mv_dG ρ H))) := by
  unfold mv_b2l at h
  split at h
  · cases h
    exact ⟨fun z hz => hz, fun _ hK => hK⟩
  · cases h
theorem mv_ldi_e (ht : mv_okT ρ tb) {k n : Nat} (h : mv_ldi ls k n st H bs fs = some (q, ls', st', H', bs', fs')) : (∀ z ∈ fs, z ∈ fs') ∧ ((∀ z ∈ fs', mv_hold ρ z) → K q (mv_dL ρ ls') (mv_dS ρ st') (mv_dG ρ H') → mj_ldi (mv_dL ρ ls) k (fun v => K n (mv_dL ρ ls) (v :: mv_dS ρ st) (mv_dG ρ H))) := by
  unfold mv_ldi at h
  split at h
  · rename_i x hx
    cases h
    refine ⟨fun z hz => hz, fun _ hK => ?_⟩
    unfold mj_ldi
    rw [mv_gD hx]
    exact hK
  · cases h
theorem mv_ldl_e (ht : mv_okT ρ tb) {k n : Nat} (h : mv_ldl ls k n st H bs fs = some (q, ls', st', H', bs', fs')) : (∀ z ∈ fs, z ∈ fs') ∧ ((∀ z ∈ fs', mv_hold ρ z) → K q (mv_dL ρ ls') (mv_dS ρ st') (mv_dG ρ H') → mj_ldl (mv_dL ρ ls) k (fun v => K n (mv_dL ρ ls) (v :: mv_dS ρ st) (mv_dG ρ H))) := by
  unfold mv_ldl at h
  split at h
  · rename_i x hx
    cases h
    refine ⟨fun z hz => hz, fun _ hK => ?_⟩
    unfold mj_ldl
    rw [mv_gD hx]
    exact hK
  · cases h
theorem mv_lda_e (ht : mv_okT ρ tb) {k n : Nat} (h : mv_lda ls k n st H bs fs = some (q, ls', st', H', bs', fs')) : (∀ z ∈ fs, z ∈ fs') ∧ ((∀ z ∈ fs', mv_hold ρ z) → K q (mv_dL ρ ls') (mv_dS ρ st') (mv_dG ρ H') → mj_lda (mv_dL ρ ls) k (fun v => K n (mv_dL ρ ls) (v :: mv_dS ρ st) (mv_dG ρ H))) := by
  unfold mv_lda at h
  split at h
  · rename_i x hx
    cases h
    refine ⟨fun z hz => hz, fun _ hK => ?_⟩
    unfold mj_lda
    rw [mv_gD hx]
    exact hK
  · cases h
theorem mv_sti_e (ht : mv_okT ρ tb) {k n : Nat} (h : mv_sti ls k n st H bs fs = some (q, ls', st', H', bs', fs')) : (∀ z ∈ fs, z ∈ fs') ∧ ((∀ z ∈ fs', mv_hold ρ z) → K q (mv_dL ρ ls') (mv_dS ρ st') (mv_dG ρ H') → mj_sti (mv_dL ρ ls) k (mv_dS ρ st) (fun ls st => K n ls st (mv_dG ρ H))) := by
  unfold mv_sti at h
  split at h
  · rename_i x st2
    cases hb : Nat.blt k ls.length with
    | false => rw [hb] at h; cases h
    | true =>
      rw [hb] at h
      cases h
      refine ⟨fun z hz => hz, fun _ hK => ?_⟩
      have hl : k < (mv_dL ρ ls).length := by rw [mv_lenL]; exact Nat.blt_eq.mp hb
      rw [mv_sD] at hK
      show bif decide (k < (mv_dL ρ ls).length) then _ else False
      rw [decide_eq_true hl]
      exact hK
  · cases h
theorem mv_stl_e (ht : mv_okT ρ tb) {k n : Nat} (h : mv_stl ls k n st H bs fs = some (q, ls', st', H', bs', fs')) : (∀ z ∈ fs, z ∈ fs') ∧ ((∀ z ∈ fs', mv_hold ρ z) → K q (mv_dL ρ ls') (mv_dS ρ st') (mv_dG ρ H') → mj_stl (mv_dL ρ ls) k (mv_dS ρ st) (fun ls st => K n ls st (mv_dG ρ H))) := by
  unfold mv_stl at h
  split at h
  · rename_i x st2
    cases hb : Nat.blt (k + 1) ls.length with
    | false => rw [hb] at h; cases h
    | true =>
      rw [hb] at h
      cases h
      refine ⟨fun z hz => hz, fun _ hK => ?_⟩
      have hl : k + 1 < (mv_dL ρ ls).length := by rw [mv_lenL]; exact Nat.blt_eq.mp hb
      rw [mv_sLD] at hK
      show bif decide (k + 1 < (mv_dL ρ ls).length) then _ else False
      rw [decide_eq_true hl]
      exact hK
  · cases h
theorem mv_sta_e (ht : mv_okT ρ tb) {k n : Nat} (h : mv_sta ls k n st H bs fs = some (q, ls', st', H', bs', fs')) : (∀ z ∈ fs, z ∈ fs') ∧ ((∀ z ∈ fs', mv_hold ρ z) → K q (mv_dL ρ ls') (mv_dS ρ st') (mv_dG ρ H') → mj_sta (mv_dL ρ ls) k (mv_dS ρ st) (fun ls st => K n ls st (mv_dG ρ H))) := by
  unfold mv_sta at h
  split at h
  · rename_i x st2
    cases hb : Nat.blt k ls.length with
    | false => rw [hb] at h; cases h
    | true =>
      rw [hb] at h
      cases h
      refine ⟨fun z hz => hz, fun _ hK => ?_⟩
      have hl : k < (mv_dL ρ ls).length := by rw [mv_lenL]; exact Nat.blt_eq.mp hb
      rw [mv_sD] at hK
      show bif decide (k < (mv_dL ρ ls).length) then _ else False
      rw [decide_eq_true hl]
      exact hK
  · cases h
theorem mv_ald_e (ht : mv_okT ρ tb) {kind n : Nat} (h : mv_ald tb kind n ls st H bs fs = some (q, ls', st', H', bs', fs')) : (∀ z ∈ fs, z ∈ fs') ∧ ((∀ z ∈ fs', mv_hold ρ z) → K q (mv_dL ρ ls') (mv_dS ρ st') (mv_dG ρ H') → mj_ald (mv_dG ρ H) kind (mv_dS ρ st) (fun st => K n (mv_dL ρ ls) st (mv_dG ρ H))) := by
  unfold mv_ald at h
  split at h
  · rename_i i a st2
    cases hk : Nat.beq (mv_kc H.2.2 a) kind with
    | false => rw [hk] at h; cases h
    | true =>
      rw [hk] at h
      dsimp only [cond_true] at h
      have hk := Nat.eq_of_beq_eq_true hk
      cases h1 : Nat.beq a 1 with
      | true =>
        rw [h1] at h
        obtain rfl := Nat.eq_of_beq_eq_true h1
        cases hn : decide (i < 0) with
        | true => rw [hn] at h; cases h
        | false =>
          rw [hn] at h
          cases h
          refine ⟨fun z hz => List.mem_cons_of_mem _ hz, fun hf hK => ⟨hk, ?_, ?_⟩⟩
          · have h2 : i < ρ 0 := (hf _ List.mem_cons_self).mpr rfl
            exact mv_in_s (of_decide_eq_false hn) h2
          · have hK' : K _ _ (.inl (mv_dI ρ (mv_rd tb (2 * i.toNatClampNeg + 1))) :: _) _ := hK
            rw [mv_rd_e ht] at hK'
            exact hK'
      | false =>
        rw [h1] at h
        have ha : a ≠ 1 := fun e => by rw [e] at h1; cases h1
        cases hb : mv_in i (mv_lc H.2.2 a) with
        | false => rw [hb] at h; cases h
        | true =>
          rw [hb] at h
          cases h
          refine ⟨fun z hz => hz, fun _ hK => ⟨hk, ?_, ?_⟩⟩
          · show vp_in i (if a = 1 then _ else mv_lc H.2.2 a)
            rw [if_neg ha]
            exact mv_in_e hb
          · show K _ _ (.inl (if a = 1 then _ else mv_dI ρ (mv_ic H.2.2 a i.toNatClampNeg)) :: _) _
            rw [if_neg ha]
            exact hK
  · cases h
theorem mv_ast_e (ht : mv_okT ρ tb) {kind t n : Nat} (h : mv_ast kind t n ls st H bs fs = some (q, ls', st', H', bs', fs')) : (∀ z ∈ fs, z ∈ fs') ∧ ((∀ z ∈ fs', mv_hold ρ z) → K q (mv_dL ρ ls') (mv_dS ρ st') (mv_dG ρ H') → mj_ast (mv_dG ρ H) kind t (mv_dS ρ st) (fun st G => K n (mv_dL ρ ls) st G)) := by
  unfold mv_ast at h
  split at h
  · rename_i x i a st2
    cases hb : (Nat.beq (mv_kc H.2.2 a) kind && Nat.ble 3 a && mv_in i (mv_lc H.2.2 a)) with
    | false => rw [hb] at h; cases h
    | true =>
      rw [hb] at h
      dsimp only [cond_true] at h
      rw [Bool.and_eq_true, Bool.and_eq_true] at hb
      split at h
      · rename_i fs2 hfit
        split at h
        · rename_i H2 hH
          cases h
          obtain ⟨f1, f2⟩ := mv_fit_e (ρ := ρ) hfit
          refine ⟨f1, fun hf hK => ⟨Nat.eq_of_beq_eq_true hb.1.1, Nat.le_of_ble_eq_true hb.1.2, mv_in_n (fun e => by have := Nat.le_of_ble_eq_true hb.1.2; omega) hb.2, f2 hf, ?_⟩⟩
          rw [mv_pI_e hH] at hK
          exact hK
        · cases h
      · cases h
  · cases h
theorem mv_jmp_e (ht : mv_okT ρ tb) {off : Int} {n : Nat} (h : mv_jmp n off ls st H bs fs = some (q, ls', st', H', bs', fs')) : (∀ z ∈ fs, z ∈ fs') ∧ ((∀ z ∈ fs', mv_hold ρ z) → K q (mv_dL ρ ls') (mv_dS ρ st') (mv_dG ρ H') → mj_br n off (fun t => K t (mv_dL ρ ls) (mv_dS ρ st) (mv_dG ρ H))) := by
  unfold mv_jmp at h
  split at h
  · rename_i t hbr
    cases h
    exact ⟨fun z hz => hz, fun _ hK => mv_br_e hbr hK⟩
  · cases h
theorem mv_if_e (ht : mv_okT ρ tb) {c : ClassFile.Cond} {x y : mv_I} {off : Int} {n len : Nat} (h : mv_if c x y off len n ls st H bs fs = some (q, ls', st', H', bs', fs')) : (∀ z ∈ fs, z ∈ fs') ∧ ((∀ z ∈ fs', mv_hold ρ z) → K q (mv_dL ρ ls') (mv_dS ρ st') (mv_dG ρ H') → (mj_ic c (mv_dI ρ x) (mv_dI ρ y) → mj_br n off (fun t => K t (mv_dL ρ ls) (mv_dS ρ st) (mv_dG ρ H))) ∧ (¬ mj_ic c (mv_dI ρ x) (mv_dI ρ y) → K (n + len) (mv_dL ρ ls) (mv_dS ρ st) (mv_dG ρ H))) := by
  unfold mv_if at h
  split at h
  · rename_i bs2 fs2 hc
    obtain ⟨f1, f2⟩ := mv_cmp_e (ρ := ρ) hc
    obtain ⟨g1, g2⟩ := mv_jmp_e (K := K) (ρ := ρ) ht h
    refine ⟨fun z hz => g1 z (f1 z hz), fun hf hK => ⟨fun _ => g2 hf hK, fun q => absurd ((f2 (fun z hz => hf z (g1 z hz))).mpr rfl) q⟩⟩
  · rename_i bs2 fs2 hc
    obtain ⟨f1, f2⟩ := mv_cmp_e (ρ := ρ) hc
    cases h
    refine ⟨f1, fun hf hK => ⟨fun q => ?_, fun _ => hK⟩⟩
    have := (f2 hf).mp q
    cases this
  · cases h
theorem mv_new_e (ht : mv_okT ρ tb) {kind len n : Nat} {row : List (Nat × mv_I)} (h : mv_new kind len n row ls st H bs fs = some (q, ls', st', H', bs', fs')) : (∀ z ∈ fs, z ∈ fs') ∧ ((∀ z ∈ fs', mv_hold ρ z) → K q (mv_dL ρ ls') (mv_dS ρ st') (mv_dG ρ H') → K n (mv_dL ρ ls) (.inr (.inr (mj_n (mv_dG ρ H))) :: mv_dS ρ st) (mj_al (mv_dG ρ H) kind len (fun j => mv_dI ρ (mv_lk (.inl 0) row j)))) := by
  unfold mv_new at h
  split at h
  · rename_i H2 hH
    cases h
    refine ⟨fun z hz => hz, fun _ hK => ?_⟩
    rw [(mv_al_e (ρ := ρ) hH).1] at hK
    exact hK
  · cases h
def mv_qA (i : Instr) : Bool := match i with
  | .iconst _ => true
  | .bipush _ => true
  | .sipush _ => true
  | .lconst _ => true
  | .aconst_null => true
  | .ldc _ => true
  | .ldc_w _ => true
  | .ldc2_w _ => true
  | .iload _ => true
  | .iload_n _ => true
  | .lload _ => true
  | .lload_n _ => true
  | .aload _ => true
  | .aload_n _ => true
  | .istore _ => true
  | .istore_n _ => true
  | .lstore _ => true
  | .lstore_n _ => true
  | .astore _ => true
  | .astore_n _ => true
  | .iinc _ _ => true
  | _ => false
set_option maxHeartbeats 1000000 in
theorem mv_s1_A (ht : mv_okT ρ tb) (h : mv_s1 tb own ini i len pc ls st H bs fs = some (q, ls', st', H', bs', fs')) (hg : mv_qA i = true) : (∀ z ∈ fs, z ∈ fs') ∧ ((∀ z ∈ fs', mv_hold ρ z) → K q (mv_dL ρ ls') (mv_dS ρ st') (mv_dG ρ H') → mj_s1 own ini i len pc (mv_dL ρ ls) (mv_dS ρ st) (mv_dG ρ H) K) := by
  cases i with
  | iconst n =>
    cases h
    exact ⟨fun z hz => hz, fun _ hK => hK⟩
  | bipush n =>
    cases h
    exact ⟨fun z hz => hz, fun _ hK => hK⟩
  | sipush n =>
    cases h
    exact ⟨fun z hz => hz, fun _ hK => hK⟩
  | lconst n =>
    cases h
    exact ⟨fun z hz => hz, fun _ hK => hK⟩
  | aconst_null =>
    cases h
    exact ⟨fun z hz => hz, fun _ hK => hK⟩
  | ldc k =>
    unfold mv_s1 at h
    try dsimp only at h
    unfold mj_s1
    try dsimp only
    split at h
    · rename_i v hv
      cases h
      rw [hv]
      exact ⟨fun z hz => hz, fun _ hK => hK⟩
    · cases h
  | ldc_w k =>
    unfold mv_s1 at h
    try dsimp only at h
    unfold mj_s1
    try dsimp only
    split at h
    · rename_i v hv
      cases h
      rw [hv]
      exact ⟨fun z hz => hz, fun _ hK => hK⟩
    · cases h
  | ldc2_w k =>
    unfold mv_s1 at h
    try dsimp only at h
    unfold mj_s1
    try dsimp only
    split at h
    · rename_i v hv
      cases h
      rw [hv]
      exact ⟨fun z hz => hz, fun _ hK => hK⟩
    · cases h
  | iload k =>
    exact mv_ldi_e ht h
  | iload_n k =>
    exact mv_ldi_e ht h
  | lload k =>
    exact mv_ldl_e ht h
  | lload_n k =>
    exact mv_ldl_e ht h
  | aload k =>
    exact mv_lda_e ht h
  | aload_n k =>
    exact mv_lda_e ht h
  | istore k =>
    exact mv_sti_e ht h
  | istore_n k =>
    exact mv_sti_e ht h
  | lstore k =>
    exact mv_stl_e ht h
  | lstore_n k =>
    exact mv_stl_e ht h
  | astore k =>
    exact mv_sta_e ht h
  | astore_n k =>
    exact mv_sta_e ht h
  | iinc k n =>
    unfold mv_s1 at h
    try dsimp only at h
    unfold mj_s1
    try dsimp only
    split at h
    · rename_i x hx
      split at h
      · rename_i r hr
        cases h
        refine ⟨fun z hz => hz, fun _ hK => ?_⟩
        have hg := mv_gD (ρ := ρ) hx
        have hl : (k : Nat) < (mv_dL ρ ls).length := mj_g_lt hg
        rw [mv_sD] at hK
        have e : mv_dV ρ (.inl r) = .inl (mv_dI ρ x + Int32.ofInt n) := congrArg Sum.inl (mv_bin_e ht hr)
        rw [e] at hK
        rw [hg]
        show bif decide ((k : Nat) < (mv_dL ρ ls).length) then _ else False
        rw [decide_eq_true hl]
        exact hK
      · cases h
    · cases h
  | _ => exact Bool.noConfusion (show false = true from hg)
def mv_qB (i : Instr) : Bool := match i with
  | .iadd => true
  | .isub => true
  | .imul => true
  | .iand => true
  | .ior => true
  | .ixor => true
  | .ishl => true
  | .ishr => true
  | .ladd => true
  | .lsub => true
  | .lmul => true
  | .idiv => true
  | .irem => true
  | .ineg => true
  | .lneg => true
  | .lcmp => true
  | .i2l => true
  | .l2i => true
  | .dup2 => true
  | .dup => true
  | .pop => true
  | .i2c => true
  | _ => false
set_option maxHeartbeats 1000000 in
theorem mv_s1_B (ht : mv_okT ρ tb) (h : mv_s1 tb own ini i len pc ls st H bs fs = some (q, ls', st', H', bs', fs')) (hg : mv_qB i = true) : (∀ z ∈ fs, z ∈ fs') ∧ ((∀ z ∈ fs', mv_hold ρ z) → K q (mv_dL ρ ls') (mv_dS ρ st') (mv_dG ρ H') → mj_s1 own ini i len pc (mv_dL ρ ls) (mv_dS ρ st) (mv_dG ρ H) K) := by
  cases i with
  | iadd =>
    exact mv_b2_e ht h
  | isub =>
    exact mv_b2_e ht h
  | imul =>
    exact mv_b2_e ht h
  | iand =>
    exact mv_b2_e ht h
  | ior =>
    exact mv_b2_e ht h
  | ixor =>
    exact mv_b2_e ht h
  | ishl =>
    exact mv_b2_e ht h
  | ishr =>
    exact mv_b2_e ht h
  | ladd =>
    exact mv_b2l_e ht h
  | lsub =>
    exact mv_b2l_e ht h
  | lmul =>
    exact mv_b2l_e ht h
  | idiv =>
    unfold mv_s1 at h
    try dsimp only at h
    unfold mj_s1
    try dsimp only
    split at h
    · rename_i y x st2
      cases hb : decide (y = 0) with
      | true => rw [hb] at h; cases h
      | false =>
        rw [hb] at h
        cases h
        exact ⟨fun z hz => hz, fun _ hK => ⟨of_decide_eq_false hb, hK⟩⟩
    · cases h
  | irem =>
    unfold mv_s1 at h
    try dsimp only at h
    unfold mj_s1
    try dsimp only
    split at h
    · rename_i y x st2
      cases hb : decide (y = 0) with
      | true => rw [hb] at h; cases h
      | false =>
        rw [hb] at h
        cases h
        exact ⟨fun z hz => hz, fun _ hK => ⟨of_decide_eq_false hb, hK⟩⟩
    · cases h
  | ineg =>
    unfold mv_s1 at h
    try dsimp only at h
    unfold mj_s1
    try dsimp only
    split at h
    · cases h
      exact ⟨fun z hz => hz, fun _ hK => hK⟩
    · cases h
  | lneg =>
    unfold mv_s1 at h
    try dsimp only at h
    unfold mj_s1
    try dsimp only
    split at h
    · cases h
      exact ⟨fun z hz => hz, fun _ hK => hK⟩
    · cases h
  | lcmp =>
    unfold mv_s1 at h
    try dsimp only at h
    unfold mj_s1
    try dsimp only
    split at h
    · cases h
      exact ⟨fun z hz => hz, fun _ hK => hK⟩
    · cases h
  | i2l =>
    unfold mv_s1 at h
    try dsimp only at h
    unfold mj_s1
    try dsimp only
    split at h
    · cases h
      exact ⟨fun z hz => hz, fun _ hK => hK⟩
    · cases h
  | l2i =>
    unfold mv_s1 at h
    try dsimp only at h
    unfold mj_s1
    try dsimp only
    split at h
    · cases h
      exact ⟨fun z hz => hz, fun _ hK => hK⟩
    · cases h
  | dup2 =>
    unfold mv_s1 at h
    try dsimp only at h
    unfold mj_s1
    try dsimp only
    split at h
    · cases h
      exact ⟨fun z hz => hz, fun _ hK => hK⟩
    · cases h
  | dup =>
    unfold mv_s1 at h
    try dsimp only at h
    unfold mj_s1
    try dsimp only
    split at h
    · cases h
      exact ⟨fun z hz => hz, fun _ hK => hK⟩
    · cases h
      exact ⟨fun z hz => hz, fun _ hK => hK⟩
    · cases h
  | pop =>
    unfold mv_s1 at h
    try dsimp only at h
    unfold mj_s1
    try dsimp only
    split at h
    · cases h
      exact ⟨fun z hz => hz, fun _ hK => hK⟩
    · cases h
      exact ⟨fun z hz => hz, fun _ hK => hK⟩
    · cases h
  | i2c =>
    unfold mv_s1 at h
    try dsimp only at h
    unfold mj_s1
    try dsimp only
    split at h
    · rename_i x st2
      split at h
      · rename_i r hr
        cases h
        refine ⟨fun z hz => hz, fun _ hK => ?_⟩
        have e : mv_dV ρ (.inl r) = .inl ((mv_dI ρ x).toUInt32 % 65536).toInt32 := congrArg Sum.inl (mv_bin_e ht hr)
        have hK' : K _ _ (mv_dV ρ (.inl r) :: mv_dS ρ st2) _ := hK
        rw [e] at hK'
        exact hK'
      · cases h
    · cases h
  | _ => exact Bool.noConfusion (show false = true from hg)
def mv_qC (i : Instr) : Bool := match i with
  | .goto _ => true
  | .ifCond _ _ => true
  | .if_icmp _ _ => true
  | .if_acmp _ _ => true
  | .ifnull _ => true
  | .ifnonnull _ => true
  | .tableswitch _ _ _ _ => true
  | .lookupswitch _ _ => true
  | _ => false
set_option maxHeartbeats 1000000 in
theorem mv_s1_C (ht : mv_okT ρ tb) (h : mv_s1 tb own ini i len pc ls st H bs fs = some (q, ls', st', H', bs', fs')) (hg : mv_qC i = true) : (∀ z ∈ fs, z ∈ fs') ∧ ((∀ z ∈ fs', mv_hold ρ z) → K q (mv_dL ρ ls') (mv_dS ρ st') (mv_dG ρ H') → mj_s1 own ini i len pc (mv_dL ρ ls) (mv_dS ρ st) (mv_dG ρ H) K) := by
  cases i with
  | goto off =>
    exact mv_jmp_e ht h
  | ifCond c off =>
    unfold mv_s1 at h
    try dsimp only at h
    unfold mj_s1
    try dsimp only
    split at h
    · exact mv_if_e ht h
    · cases h
  | if_icmp c off =>
    unfold mv_s1 at h
    try dsimp only at h
    unfold mj_s1
    try dsimp only
    split at h
    · exact mv_if_e ht h
    · cases h
  | if_acmp c off =>
    cases c with
    | eq => cases h
    | ne =>
      unfold mv_s1 at h
      try dsimp only at h
      split at h
      · rename_i y x st2
        cases hb : (Nat.beq x 1 || Nat.beq x 2 || Nat.beq y 1 || Nat.beq y 2) with
        | true => rw [hb] at h; cases h
        | false =>
          rw [hb] at h
          dsimp only [cond_false] at h
          rw [Bool.or_eq_false_iff, Bool.or_eq_false_iff, Bool.or_eq_false_iff] at hb
          obtain ⟨⟨⟨b1, b2⟩, b3⟩, b4⟩ := hb
          have nb : ∀ {a b : Nat}, Nat.beq a b = false → a ≠ b := fun h e => by rw [e, Nat.beq_refl] at h; cases h
          cases hx : Nat.beq x y with
          | true =>
            rw [hx] at h
            cases h
            have exy := Nat.eq_of_beq_eq_true hx
            exact ⟨fun z hz => hz, fun _ hK => ⟨nb b1, nb b2, nb b3, nb b4, fun q => absurd exy q, fun _ => hK⟩⟩
          | false =>
            rw [hx] at h
            obtain ⟨g1, g2⟩ := mv_jmp_e (K := K) (ρ := ρ) ht h
            exact ⟨g1, fun hf hK => ⟨nb b1, nb b2, nb b3, nb b4, fun _ => g2 hf hK, fun q => absurd q (nb hx)⟩⟩
      · cases h
  | ifnull off =>
    unfold mv_s1 at h
    try dsimp only at h
    unfold mj_s1
    try dsimp only
    split at h
    · rename_i x st2
      cases hb : Nat.beq x 0 with
      | true =>
        rw [hb] at h
        obtain ⟨g1, g2⟩ := mv_jmp_e (K := K) (ρ := ρ) ht h
        refine ⟨g1, fun hf hK => ⟨fun _ => g2 hf hK, fun q => ?_⟩⟩
        exact absurd (Nat.eq_of_beq_eq_true hb) q
      | false =>
        rw [hb] at h
        cases h
        refine ⟨fun z hz => hz, fun _ hK => ⟨fun q => ?_, fun _ => hK⟩⟩
        rw [q, Nat.beq_refl] at hb; cases hb
    · cases h
  | ifnonnull off =>
    unfold mv_s1 at h
    try dsimp only at h
    unfold mj_s1
    try dsimp only
    split at h
    · rename_i x st2
      cases hb : Nat.beq x 0 with
      | true =>
        rw [hb] at h
        cases h
        refine ⟨fun z hz => hz, fun _ hK => ⟨fun q => ?_, fun _ => hK⟩⟩
        exact absurd (Nat.eq_of_beq_eq_true hb) q
      | false =>
        rw [hb] at h
        obtain ⟨g1, g2⟩ := mv_jmp_e (K := K) (ρ := ρ) ht h
        refine ⟨g1, fun hf hK => ⟨fun _ => g2 hf hK, fun q => ?_⟩⟩
        rw [q, Nat.beq_refl] at hb; cases hb
    · cases h
  | tableswitch d lo hi offs =>
    unfold mv_s1 at h
    try dsimp only at h
    unfold mj_s1
    try dsimp only
    split at h
    · rename_i x st2
      obtain ⟨g1, g2⟩ := mv_jmp_e (K := K) (ρ := ρ) ht h
      exact ⟨g1, fun hf hK => mv_sw_e (F := fun o => mj_br pc o (fun t => K t (mv_dL ρ ls) (mv_dS ρ st2) (mv_dG ρ H))) (g2 hf hK)⟩
    · cases h
  | lookupswitch d ps =>
    unfold mv_s1 at h
    try dsimp only at h
    unfold mj_s1
    try dsimp only
    split at h
    · rename_i x st2
      obtain ⟨g1, g2⟩ := mv_jmp_e (K := K) (ρ := ρ) ht h
      exact ⟨g1, fun hf hK => mv_sw_e (F := fun o => mj_br pc o (fun t => K t (mv_dL ρ ls) (mv_dS ρ st2) (mv_dG ρ H))) (g2 hf hK)⟩
    · cases h
  | _ => exact Bool.noConfusion (show false = true from hg)
def mv_qD (i : Instr) : Bool := match i with
  | .getstatic _ => true
  | .getfield _ => true
  | .putfield _ => true
  | _ => false
set_option maxHeartbeats 1000000 in
theorem mv_s1_D (ht : mv_okT ρ tb) (h : mv_s1 tb own ini i len pc ls st H bs fs = some (q, ls', st', H', bs', fs')) (hg : mv_qD i = true) : (∀ z ∈ fs, z ∈ fs') ∧ ((∀ z ∈ fs', mv_hold ρ z) → K q (mv_dL ρ ls') (mv_dS ρ st') (mv_dG ρ H') → mj_s1 own ini i len pc (mv_dL ρ ls) (mv_dS ρ st) (mv_dG ρ H) K) := by
  cases i with
  | getstatic k =>
    unfold mv_s1 at h
    try dsimp only at h
    unfold mj_s1
    try dsimp only
    cases hb : mj_gs own k with
    | false => rw [hb] at h; cases h
    | true =>
      rw [hb] at h
      cases h
      exact ⟨fun z hz => hz, fun _ hK => hK⟩
  | getfield k =>
    unfold mv_s1 at h
    try dsimp only at h
    unfold mj_s1
    try dsimp only
    split at h
    · rename_i a st2 c j hf9
      cases ha1 : Nat.beq a 1 with
      | true => rw [ha1] at h; cases h
      | false =>
      rw [ha1] at h
      dsimp only [cond_false] at h
      cases hb : Nat.beq (mv_kc H.2.2 a) (c + 1) with
      | false => rw [hb] at h; cases h
      | true =>
        rw [hb] at h
        dsimp only [cond_true] at h
        have hk := Nat.eq_of_beq_eq_true hb
        rw [hf9]
        cases hT : Nat.beq (mj_T c j) 3 with
        | true =>
          rw [hT] at h
          cases h
          refine ⟨fun z hz => hz, fun _ hK => ⟨hk, ?_⟩⟩
          rw [Nat.eq_of_beq_eq_true hT]
          exact hK
        | false =>
          rw [hT] at h
          cases h
          refine ⟨fun z hz => hz, fun _ hK => ⟨hk, ?_⟩⟩
          split
          · rename_i e
            rw [e] at hT
            cases hT
          · show K _ _ (.inl (if a = 1 then _ else mv_dI ρ (mv_ic H.2.2 a j)) :: _) _
            rw [if_neg (fun e => by rw [e] at ha1; cases ha1)]
            exact hK
    · cases h
  | putfield k =>
    unfold mv_s1 at h
    try dsimp only at h
    unfold mj_s1
    try dsimp only
    split at h
    · cases h
    · rename_i c j hf9
      rw [hf9]
      dsimp only
      cases hb : (bif (mj_F c j).2.2.2 then ini && Nat.beq own c else true) with
      | false => rw [hb] at h; cases h
      | true =>
        rw [hb] at h
        dsimp only [cond_true] at h
        have hfin : bif (mj_F c j).2.2.2 then ini = true ∧ own = c else True := by
          cases hff : (mj_F c j).2.2.2 with
          | false => trivial
          | true =>
            rw [hff] at hb
            have hb : (ini && Nat.beq own c) = true := hb
            rw [Bool.and_eq_true] at hb
            exact ⟨hb.1, Nat.eq_of_beq_eq_true hb.2⟩
        split at h
        · rename_i x a st2
          cases hb2 : (Nat.beq (mv_kc H.2.2 a) (c + 1) && !(Nat.beq (mj_T c j) 3)) with
          | false => rw [hb2] at h; cases h
          | true =>
            rw [hb2] at h
            dsimp only [cond_true] at h
            rw [Bool.and_eq_true, Bool.not_eq_true'] at hb2
            split at h
            · rename_i fs2 hfit
              split at h
              · rename_i H2 hH
                cases h
                obtain ⟨f1, f2⟩ := mv_fit_e (ρ := ρ) hfit
                refine ⟨f1, fun hf hK => ⟨hfin, Nat.eq_of_beq_eq_true hb2.1, ?_, f2 hf, ?_⟩⟩
                · show bif (mj_T c j == 3) then False else True
                  cases ht3 : (mj_T c j == 3) with
                  | false => trivial
                  | true =>
                    rw [eq_of_beq ht3] at hb2
                    exact absurd hb2.2 (by decide)
                · rw [mv_pI_e hH] at hK
                  exact hK
              · cases h
            · cases h
        · rename_i x a st2
          cases hb2 : (Nat.beq (mv_kc H.2.2 a) (c + 1) && Nat.beq (mj_T c j) 3) with
          | false => rw [hb2] at h; cases h
          | true =>
            rw [hb2] at h
            dsimp only [cond_true] at h
            rw [Bool.and_eq_true] at hb2
            split at h
            · rename_i H2 hH
              cases h
              refine ⟨fun z hz => hz, fun hf hK => ⟨hfin, Nat.eq_of_beq_eq_true hb2.1, ?_, ?_⟩⟩
              · show bif (mj_T c j == 3) then True else False
                rw [Nat.eq_of_beq_eq_true hb2.2]
                trivial
              · rw [mv_pR_e hH] at hK
                exact hK
            · cases h
        · cases h
  | _ => exact Bool.noConfusion (show false = true from hg)
def mv_qE (i : Instr) : Bool := match i with
  | .iaload => true
  | .caload => true
  | .baload => true
  | .iastore => true
  | .castore => true
  | .bastore => true
  | .laload => true
  | .aaload => true
  | .lastore => true
  | .aastore => true
  | .arraylength => true
  | _ => false
set_option maxHeartbeats 1000000 in
theorem mv_s1_E (ht : mv_okT ρ tb) (h : mv_s1 tb own ini i len pc ls st H bs fs = some (q, ls', st', H', bs', fs')) (hg : mv_qE i = true) : (∀ z ∈ fs, z ∈ fs') ∧ ((∀ z ∈ fs', mv_hold ρ z) → K q (mv_dL ρ ls') (mv_dS ρ st') (mv_dG ρ H') → mj_s1 own ini i len pc (mv_dL ρ ls) (mv_dS ρ st) (mv_dG ρ H) K) := by
  cases i with
  | iaload =>
    exact mv_ald_e ht h
  | caload =>
    exact mv_ald_e ht h
  | baload =>
    exact mv_ald_e ht h
  | iastore =>
    exact mv_ast_e ht h
  | castore =>
    exact mv_ast_e ht h
  | bastore =>
    exact mv_ast_e ht h
  | laload =>
    unfold mv_s1 at h
    try dsimp only at h
    unfold mj_s1
    try dsimp only
    split at h
    · rename_i i a st2
      cases hb : (Nat.beq (mv_kc H.2.2 a) 21 && !(Nat.beq a 1) && mv_in i (mv_lc H.2.2 a)) with
      | false => rw [hb] at h; cases h
      | true =>
        rw [hb] at h
        cases h
        rw [Bool.and_eq_true, Bool.and_eq_true, Bool.not_eq_true'] at hb
        have ha : a ≠ 1 := fun e => by rw [e] at hb; exact absurd hb.1.2 (by decide)
        exact ⟨fun z hz => hz, fun _ hK => ⟨Nat.eq_of_beq_eq_true hb.1.1, mv_in_n ha hb.2, hK⟩⟩
    · cases h
  | aaload =>
    unfold mv_s1 at h
    try dsimp only at h
    unfold mj_s1
    try dsimp only
    split at h
    · rename_i i a st2
      cases hb : (Nat.ble 30 (mv_kc H.2.2 a) && !(Nat.beq a 1) && mv_in i (mv_lc H.2.2 a)) with
      | false => rw [hb] at h; cases h
      | true =>
        rw [hb] at h
        cases h
        rw [Bool.and_eq_true, Bool.and_eq_true, Bool.not_eq_true'] at hb
        have ha : a ≠ 1 := fun e => by rw [e] at hb; exact absurd hb.1.2 (by decide)
        exact ⟨fun z hz => hz, fun _ hK => ⟨Nat.le_of_ble_eq_true hb.1.1, mv_in_n ha hb.2, hK⟩⟩
    · cases h
  | lastore =>
    unfold mv_s1 at h
    try dsimp only at h
    unfold mj_s1
    try dsimp only
    split at h
    · rename_i x i a st2
      cases hb : (Nat.beq (mv_kc H.2.2 a) 21 && !(Nat.beq a 1) && mv_in i (mv_lc H.2.2 a)) with
      | false => rw [hb] at h; cases h
      | true =>
        rw [hb] at h
        dsimp only [cond_true] at h
        rw [Bool.and_eq_true, Bool.and_eq_true, Bool.not_eq_true'] at hb
        have ha : a ≠ 1 := fun e => by rw [e] at hb; exact absurd hb.1.2 (by decide)
        split at h
        · rename_i H2 hH
          cases h
          refine ⟨fun z hz => hz, fun _ hK => ⟨Nat.eq_of_beq_eq_true hb.1.1, mv_in_n ha hb.2, ?_⟩⟩
          rw [mv_pJ_e hH] at hK
          exact hK
        · cases h
    · cases h
  | aastore =>
    unfold mv_s1 at h
    try dsimp only at h
    unfold mj_s1
    try dsimp only
    split at h
    · rename_i x i a st2
      cases hb : (Nat.ble 30 (mv_kc H.2.2 a) && !(Nat.beq a 1) && mv_in i (mv_lc H.2.2 a) && (Nat.beq x 0 || Nat.beq (mv_kc H.2.2 x + 29) (mv_kc H.2.2 a))) with
      | false => rw [hb] at h; cases h
      | true =>
        rw [hb] at h
        dsimp only [cond_true] at h
        rw [Bool.and_eq_true, Bool.and_eq_true, Bool.and_eq_true, Bool.not_eq_true', Bool.or_eq_true] at hb
        have ha : a ≠ 1 := fun e => by rw [e] at hb; exact absurd hb.1.1.2 (by decide)
        split at h
        · rename_i H2 hH
          cases h
          refine ⟨fun z hz => hz, fun _ hK => ⟨Nat.le_of_ble_eq_true hb.1.1.1, mv_in_n ha hb.1.2, hb.2.imp Nat.eq_of_beq_eq_true Nat.eq_of_beq_eq_true, ?_⟩⟩
          rw [mv_pR_e hH] at hK
          exact hK
        · cases h
    · cases h
  | arraylength =>
    unfold mv_s1 at h
    try dsimp only at h
    unfold mj_s1
    try dsimp only
    split at h
    · rename_i a st2
      cases hb : Nat.ble 20 (mv_kc H.2.2 a) with
      | false => rw [hb] at h; cases h
      | true =>
        rw [hb] at h
        cases h
        refine ⟨fun z hz => hz, fun _ hK => ⟨Nat.le_of_ble_eq_true hb, ?_⟩⟩
        cases h1 : Nat.beq a 1 with
        | true =>
          rw [h1] at hK
          obtain rfl := Nat.eq_of_beq_eq_true h1
          show K _ _ (.inl (Int32.ofNat (ρ 0).toNatClampNeg) :: _) _
          rw [mv_len_s ht.1]
          exact hK
        | false =>
          rw [h1] at hK
          have ha : a ≠ 1 := fun e => by rw [e] at h1; cases h1
          show K _ _ (.inl (Int32.ofNat (if a = 1 then _ else mv_lc H.2.2 a)) :: _) _
          rw [if_neg ha]
          exact hK
    · cases h
  | _ => exact Bool.noConfusion (show false = true from hg)
def mv_qF (i : Instr) : Bool := match i with
  | .newarray _ => true
  | .anewarray _ => true
  | .new _ => true
  | _ => false
set_option maxHeartbeats 1000000 in
theorem mv_s1_F (ht : mv_okT ρ tb) (h : mv_s1 tb own ini i len pc ls st H bs fs = some (q, ls', st', H', bs', fs')) (hg : mv_qF i = true) : (∀ z ∈ fs, z ∈ fs') ∧ ((∀ z ∈ fs', mv_hold ρ z) → K q (mv_dL ρ ls') (mv_dS ρ st') (mv_dG ρ H') → mj_s1 own ini i len pc (mv_dL ρ ls) (mv_dS ρ st) (mv_dG ρ H) K) := by
  cases i with
  | newarray t =>
    unfold mv_s1 at h
    try dsimp only at h
    unfold mj_s1
    try dsimp only
    split at h
    · rename_i n st2
      cases hb : (!(decide (n < 0)) && Nat.ble n.toNatClampNeg 1000000 && !(Nat.beq (mj_aty t) 0)) with
      | false => rw [hb] at h; cases h
      | true =>
        rw [hb] at h
        dsimp only [cond_true] at h
        rw [Bool.and_eq_true, Bool.and_eq_true, Bool.not_eq_true', Bool.not_eq_true', decide_eq_false_iff_not] at hb
        obtain ⟨g1, g2⟩ := mv_new_e (K := K) (ρ := ρ) ht h
        refine ⟨g1, fun hf hK => ⟨hb.1.1, Nat.le_of_ble_eq_true hb.1.2, ?_, g2 hf hK⟩⟩
        show bif (mj_aty t == 0) then False else True
        cases ht3 : (mj_aty t == 0) with
        | false => trivial
        | true =>
          rw [eq_of_beq ht3] at hb
          exact absurd hb.2 (by decide)
    · cases h
  | anewarray k =>
    unfold mv_s1 at h
    try dsimp only at h
    unfold mj_s1
    try dsimp only
    split at h
    · rename_i n st2 c hc
      cases hb : (!(decide (n < 0)) && Nat.ble n.toNatClampNeg 1000000 && mj_ao c) with
      | false => rw [hb] at h; cases h
      | true =>
        rw [hb] at h
        dsimp only [cond_true] at h
        rw [Bool.and_eq_true, Bool.and_eq_true, Bool.not_eq_true', decide_eq_false_iff_not] at hb
        obtain ⟨g1, g2⟩ := mv_new_e (K := K) (ρ := ρ) ht h
        rw [hc]
        refine ⟨g1, fun hf hK => ⟨hb.1.1, Nat.le_of_ble_eq_true hb.1.2, ?_⟩⟩
        rw [hb.2]
        exact g2 hf hK
    · cases h
  | new k =>
    unfold mv_s1 at h
    try dsimp only at h
    unfold mj_s1
    try dsimp only
    split at h
    · rename_i c hc
      rw [hc]
      dsimp only
      cases hb : Nat.ble 15 c with
      | true => rw [hb] at h; cases h
      | false =>
        rw [hb] at h
        exact mv_new_e (K := K) (ρ := ρ) ht h
    · cases h
  | _ => exact Bool.noConfusion (show false = true from hg)
def mv_qG (i : Instr) : Bool := match i with
  | .invokespecial _ => true
  | .invokestatic _ => true
  | _ => false
set_option maxHeartbeats 1000000 in
theorem mv_s1_G (ht : mv_okT ρ tb) (h : mv_s1 tb own ini i len pc ls st H bs fs = some (q, ls', st', H', bs', fs')) (hg : mv_qG i = true) : (∀ z ∈ fs, z ∈ fs') ∧ ((∀ z ∈ fs', mv_hold ρ z) → K q (mv_dL ρ ls') (mv_dS ρ st') (mv_dG ρ H') → mj_s1 own ini i len pc (mv_dL ρ ls) (mv_dS ρ st) (mv_dG ρ H) K) := by
  cases i with
  | invokespecial k =>
    unfold mv_s1 at h
    try dsimp only at h
    unfold mj_s1
    try dsimp only
    split at h
    · rename_i a st2 hme
      cases hb : (!(Nat.beq (mv_kc H.2.2 a) 0) && Nat.ble (mv_w st2) 8) with
      | false => rw [hb] at h; cases h
      | true =>
        rw [hb] at h
        cases h
        rw [Bool.and_eq_true, Bool.not_eq_true'] at hb
        rw [hme]
        refine ⟨fun z hz => hz, fun _ hK => ⟨fun (e : mv_kc H.2.2 a = 0) => ?_, ?_, hK⟩⟩
        · rw [e] at hb
          exact absurd hb.1 (by decide)
        · show mj_w (mv_dS ρ _) ≤ 8
          rw [mv_wD]
          exact Nat.le_of_ble_eq_true hb.2
    · cases h
  | invokestatic k =>
    unfold mv_s1 at h
    try dsimp only at h
    unfold mj_s1
    try dsimp only
    split at h
    · rename_i y x st2 hme
      cases hb : Nat.ble (mv_w st2) 8 with
      | false => rw [hb] at h; cases h
      | true =>
        rw [hb] at h
        cases h
        rw [hme]
        refine ⟨fun z hz => hz, fun _ hK => ⟨?_, hK⟩⟩
        show mj_w (mv_dS ρ _) ≤ 8
        rw [mv_wD]
        exact Nat.le_of_ble_eq_true hb
    · rename_i y x st2 hme
      cases hb : Nat.ble (mv_w st2) 8 with
      | false => rw [hb] at h; cases h
      | true =>
        rw [hb] at h
        cases h
        rw [hme]
        refine ⟨fun z hz => hz, fun _ hK => ⟨?_, hK⟩⟩
        show mj_w (mv_dS ρ _) ≤ 8
        rw [mv_wD]
        exact Nat.le_of_ble_eq_true hb
    · rename_i n dp a sp a0 st2 hme
      cases hb : ((Nat.ble (mv_w st2) 8 && (Nat.beq (mv_kc H.2.2 a) 20 || Nat.beq (mv_kc H.2.2 a) 22)) && (Nat.beq (mv_kc H.2.2 a0) (mv_kc H.2.2 a) && Nat.ble 2 a0) && (Nat.ble 3 a && !(decide (sp < 0))) && (!(decide (dp < 0)) && !(decide (n < 0))) && (Nat.ble (sp.toNatClampNeg + n.toNatClampNeg) (mv_lc H.2.2 a0) && Nat.ble (dp.toNatClampNeg + n.toNatClampNeg) (mv_lc H.2.2 a))) with
      | false => rw [hb] at h; cases h
      | true =>
        rw [hb] at h
        dsimp only [cond_true] at h
        simp only [Bool.and_eq_true, Bool.or_eq_true, Bool.not_eq_true', decide_eq_false_iff_not] at hb
        obtain ⟨⟨⟨⟨⟨b1, b2⟩, ⟨b3, b4⟩⟩, ⟨b5, b6⟩⟩, ⟨b7, b8⟩⟩, ⟨b9, b10⟩⟩ := hb
        split at h
        · rename_i H2 hH
          cases h
          rw [hme]
          refine ⟨fun z hz => hz, fun _ hK => ⟨?_, b2.imp Nat.eq_of_beq_eq_true Nat.eq_of_beq_eq_true, Nat.eq_of_beq_eq_true b3, Nat.le_of_ble_eq_true b4, Nat.le_of_ble_eq_true b5, b6, b7, b8, mv_lc_n (mv_cp_n hH) (Nat.le_of_ble_eq_true b9), mv_lc_n (fun e => by have := Nat.le_of_ble_eq_true b5; omega) (Nat.le_of_ble_eq_true b10), ?_⟩⟩
          · show mj_w (mv_dS ρ _) ≤ 8
            rw [mv_wD]
            exact Nat.le_of_ble_eq_true b1
          · rw [mv_cp_e hH] at hK
            exact hK
        · cases h
    · cases h
  | _ => exact Bool.noConfusion (show false = true from hg)
theorem mv_s1_e (ht : mv_okT ρ tb) (h : mv_s1 tb own ini i len pc ls st H bs fs = some (q, ls', st', H', bs', fs')) : (∀ z ∈ fs, z ∈ fs') ∧ ((∀ z ∈ fs', mv_hold ρ z) → K q (mv_dL ρ ls') (mv_dS ρ st') (mv_dG ρ H') → mj_s1 own ini i len pc (mv_dL ρ ls) (mv_dS ρ st) (mv_dG ρ H) K) := by
  by_cases gA : mv_qA i = true
  · exact mv_s1_A ht h gA
  by_cases gB : mv_qB i = true
  · exact mv_s1_B ht h gB
  by_cases gC : mv_qC i = true
  · exact mv_s1_C ht h gC
  by_cases gD : mv_qD i = true
  · exact mv_s1_D ht h gD
  by_cases gE : mv_qE i = true
  · exact mv_s1_E ht h gE
  by_cases gF : mv_qF i = true
  · exact mv_s1_F ht h gF
  by_cases gG : mv_qG i = true
  · exact mv_s1_G ht h gG
  cases i <;> first | (cases h; done) | (exact absurd rfl gA) | (exact absurd rfl gB) | (exact absurd rfl gC) | (exact absurd rfl gD) | (exact absurd rfl gE) | (exact absurd rfl gF) | (exact absurd rfl gG)
end MVS
