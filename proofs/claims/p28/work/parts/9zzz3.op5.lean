/-! THE CALLS OF THE LAW: the output anew, what is alike -/
section ZZZ3
variable {s : lst} {ρ ρ' : Nat → Nat} {G G1 G' : mj_G} {f f' : mm_F} {n c x l a b z : Nat} {w : Nat → Nat} {d : Nat} {v : rv} {it : Nat → rv} {o : ost} {nb : Nat} {cb : Nat → Nat}
theorem q_41 (hz : z < 2 ^ 31) : q_12041 (nI z) = nI (z / 128 % 128) := by
  show mm_ch ((nI z >>> (((Int8.ofInt (7)).toInt32) &&& 31)) &&& (Int8.ofInt (127)).toInt32) = _
  rw [z_shr (k := 7) hz (by decide), z_msk (k := 7) (Nat.lt_of_le_of_lt (Nat.div_le_self _ _) hz) (by decide)]
  exact z_chn (by omega)
theorem q_44 (hz : z < 2 ^ 31) : q_12044 (nI z) = nI (z / 65536 % 4) := by
  show (nI z >>> (((Int8.ofInt (16)).toInt32) &&& 31)) &&& (Int32.ofInt (3)) = _
  rw [z_shr (k := 16) hz (by decide), z_msk (k := 2) (Nat.lt_of_le_of_lt (Nat.div_le_self _ _) hz) (by decide)]
theorem q_43 (hz : z < 2 ^ 31) : (qb (q_12043 (nI z)) = true) = (z / 32768 % 2 = 1) := by
  unfold q_12043
  rw [z_shr (k := 15) hz (by decide), z_msk (k := 1) (Nat.lt_of_le_of_lt (Nat.div_le_self _ _) hz) (by decide), show ((0 : Int32)) = nI 0 from rfl]
  by_cases h1 : z / 2 ^ 15 % 2 ^ 1 = 0
  · rw [if_pos (show nI (z / 2 ^ 15 % 2 ^ 1) = nI 0 by rw [h1])]
    exact propext ⟨fun q => absurd q (by decide), fun q => by omega⟩
  · rw [if_neg (fun q => h1 (by rw [z_eq (by omega) (by decide)] at q; exact q))]
    exact propext ⟨fun _ => by omega, fun _ => by decide⟩
theorem op_outAnew {x : Int32} : opJ (fun d G K => Tq_outAnew d x G K) (fun Gm d f K => m_outAnew Gm d x f K) c17 := fun s hs => by
  have ho := hs.2.2.2.1
  rcases ix_o (x := x) ho.1 with ⟨k, hk, rfl, hq⟩ | ⟨hq, hx⟩
  · have hz := ho.2.2 k hk
    have h300 := ho.1
    refine ⟨s, .inl (nI (o_c (ls_o s) k % 128)), hs, fun _ q => (by cases q), fun d ρ G K hd h hK => ?_, fun Gm d f K hd hM h hK => ?_⟩
    · obtain ⟨d, rfl⟩ : ∃ y, d = y + 2 := ⟨d - 2, by omega⟩
      have hoC := h.2.2.2.1.1
      obtain ⟨k1, k2⟩ := yO_k h.1.1 hoC
      refine w_Tq_outAnew h.1.1 (by omega) ?_
      rw [hoC.2.2.1, z_lt (by omega) (by decide), z_lt (by omega) (by omega)]
      refine z_bf (by omega) (z_bt hk ?_)
      have go : ∀ m i, i + m = k → Tq_outAnew_30 (d + 1 + 1) (nI k) (nI (o_x (ls_o s) i)) (nI i) G K := fun m => by
        induction m with
        | zero =>
          intro i hi
          have hi' : i = k := by omega
          subst hi'
          have x8 := o_x8 ho (i := i) (by omega)
          refine w_Tq_outAnew_30 h.1.1 (by omega) (by omega) (z_bt (by rw [z_le (by omega) (by omega)]; exact Nat.le_refl _) ⟨k1, z_ixi (by omega) (by omega) ?_⟩)
          rw [hoC.2.2.2.2.1 i hk, q_43 hz.1, q_41 hz.1, q_44 hz.1]
          obtain ⟨g1, g2⟩ := hz.2.2.2.2
          refine z_br (fun q => ?_) (fun q => ?_)
          · refine c_escaped h.1 (by omega) x8 (by omega) (by omega) ?_
            rw [← g1 q]
            exact ⟨z_ch (by omega), hK ρ G h yF_r⟩
          · rw [g2 (by omega)]
            exact ⟨z_ch (by omega), hK ρ G h yF_r⟩
        | succ m ih =>
          intro i hi
          have x8 := o_x8 ho (i := i) (by omega)
          have hzi := ho.2.2 i (by omega)
          refine w_Tq_outAnew_30 h.1.1 (by omega) (by omega) (z_bf (by rw [z_le (by omega) (by omega)]; omega) ⟨k1, z_ixi (by omega) (by omega) ?_⟩)
          rw [hoC.2.2.2.2.1 i (by omega), q_40 hzi.1, (ld_f x8 (by omega)).2.1, ← hzi.2.2.2.1, z_add]
          exact ih (i + 1) (by omega)
      have g0 := go k 0 (by omega)
      rw [ho.2.1] at g0
      exact g0
    · obtain ⟨d, rfl⟩ : ∃ y, d = y + 2 := ⟨d - 2, by omega⟩
      obtain ⟨oQ, q1, q2, q3⟩ := h.2.2.1.1
      refine w_m_outAnew hM (w_m_isOut hM (by omega) ?_)
      rw [q1.2.1, q2, hq]
      refine z_bt rfl (w_m_holds hM (z_bt rfl (z_bt rfl (z_ixi (by omega) (by omega) ?_))))
      rw [show (mj_u2 f 1714 0 (nI 0)) 1759 k = om (o_c (ls_o s) k) from (z_u2n (by decide)).trans ((q1.2.2.2.1 k (by omega)).trans (by rw [q3 k hk])), om_m hz.1, z_chn (by omega)]
      exact ⟨z_ch (by omega), hK _ _ (LM_0 h) (rJ_v rfl z_u2s)⟩
  · refine ⟨s, .inr 17, hs, fun _ q => (by cases q; decide), fun d ρ G K hd h hK => ?_, fun Gm d f K hd hM h hK => ?_⟩
    · obtain ⟨d, rfl⟩ : ∃ y, d = y + 1 := ⟨d - 1, by omega⟩
      obtain ⟨a1, a2⟩ := LC_al (kd := 18) (len := 6) h (by decide)
      have hk := hK ρ _ a1 (yR_F a2 (by decide) (by decide))
      refine w_Tq_outAnew h.1.1 (by omega) ?_
      rw [h.2.2.2.1.1.2.2.1]
      rcases hx with hx | ⟨hx, hx'⟩
      · exact z_bt hx hk
      · exact z_bf hx (z_bf hx' hk)
    · obtain ⟨d, rfl⟩ : ∃ y, d = y + 2 := ⟨d - 2, by omega⟩
      obtain ⟨oQ, q1, q2, q3⟩ := h.2.2.1.1
      refine w_m_outAnew hM (w_m_isOut hM (by omega) ?_)
      rw [q1.2.1, q2]
      exact z_bf hq (w_m_holds hM (z_bf (by decide) (z_bf (by decide) ⟨z_ch (by decide), hK _ _ (LM_0 h) (rJ_x z_u2s)⟩)))
/-- how many characters are alike ahead -/
def ak (a b : Nat → Nat) (N : Nat) : Nat → Nat → Nat
  | 0, i => i
  | m + 1, i => if a i % 128 = b i % 128 then ak a b N m (i + 1) else i
theorem ak_le {a b : Nat → Nat} {N : Nat} : ∀ {m i : Nat}, i + m = N → ak a b N m i ≤ N ∧ i ≤ ak a b N m i
  | 0, i, h => ⟨by show i ≤ N; omega, Nat.le_refl _⟩
  | m + 1, i, h => by
    show (if a i % 128 = b i % 128 then ak a b N m (i + 1) else i) ≤ N ∧ i ≤ (if a i % 128 = b i % 128 then ak a b N m (i + 1) else i)
    by_cases q : a i % 128 = b i % 128
    · rw [if_pos q]
      have := ak_le (a := a) (b := b) (N := N) (m := m) (i := i + 1) (by omega)
      omega
    · rw [if_neg q]; omega
def mn2 (a b : Nat) : Nat := if b < a then b else a
theorem mn2_i {a b : Nat} (ha : a < 2 ^ 31) (hb : b < 2 ^ 31) : mj_mn (nI a) (nI b) = nI (mn2 a b) := by
  unfold mj_mn mn2
  by_cases q : b < a
  · rw [if_pos q, if_pos (show nI b < nI a by rw [z_lt hb ha]; exact q)]
  · rw [if_neg q, if_neg (show ¬ nI b < nI a by rw [z_lt hb ha]; exact q)]
theorem mn2_le {a b : Nat} : mn2 a b ≤ a ∧ mn2 a b ≤ b ∧ (mn2 a b = a ∨ mn2 a b = b) := by
  unfold mn2
  by_cases q : b < a
  · rw [if_pos q]; omega
  · rw [if_neg q]; omega
theorem yO_k2 (hS : cs_S G) (ho : yO G o nb cb) : mj_k G (mj_r G 1589 2) = 20 ∧ mj_l G (mj_r G 1589 2) = 300 := by
  rcases ho.2.1 with q | q
  · rw [q]; exact ⟨cs_k hS rfl, cs_l hS rfl⟩
  · rw [q]; exact ⟨cs_k hS rfl, cs_l hS rfl⟩
theorem c_ahead {K : Int32 → mj_G → Prop} (hS : cs_S G) (ho : yO G o nb cb) (hb : nb ≤ 300) (hz : ∀ i, i < nb → zk (cb i)) (hd : 16 ≤ d) (hK : K (nI (ak (o_c o) cb (mn2 (o_n o) nb) (mn2 (o_n o) nb) 0)) G) : Ou_alikeAhead (d + 1) G K := by
  have h3 := ho.1.1.1
  obtain ⟨k1, k2⟩ := yO_k hS ho.1
  obtain ⟨k3, k4⟩ := yO_k2 hS ho
  obtain ⟨m1, m2, -⟩ := mn2_le (a := o_n o) (b := nb)
  refine w_Ou_alikeAhead hS ?_
  rw [ho.1.2.2.1, ho.2.2.2.1, mn2_i (by omega) (by omega)]
  generalize mn2 (o_n o) nb = N at m1 m2 hK
  have go : ∀ m i, i + m = N → K (nI (ak (o_c o) cb N m i)) G → Ou_alikeAhead_14 (d + 1) (nI N) (nI i) G K := fun m => by
    induction m with
    | zero =>
      intro i hi hK
      have hi' : i = N := by omega
      subst hi'
      exact w_Ou_alikeAhead_14 hS (by omega) (z_bt (by rw [z_le (by omega) (by omega)]; exact Nat.le_refl _) hK)
    | succ m ih =>
      intro i hi hK
      have hz1 := ho.1.1.2.2 i (by omega)
      have hz2 := hz i (by omega)
      refine w_Ou_alikeAhead_14 hS (by omega) (z_bf (by rw [z_le (by omega) (by omega)]; omega) ⟨k1, ?_⟩)
      rw [k2, k4]
      refine z_ixi (by omega) (by decide) ⟨k3, z_ixi (by omega) (by decide) ?_⟩
      rw [ho.1.2.2.2.2.1 i (by omega), ho.2.2.2.2 i (by omega), q_40 hz1.1, q_40 hz2.1, z_eq (by omega) (by omega), z_add]
      have e : ak (o_c o) cb N (m + 1) i = if o_c o i % 128 = cb i % 128 then ak (o_c o) cb N m (i + 1) else i := rfl
      rw [e] at hK
      refine z_br (fun q => ih (i + 1) (by omega) ?_) (fun q => ?_)
      · rw [if_pos q] at hK; exact hK
      · rw [if_neg q] at hK; exact hK
  exact go N 0 (by omega) hK
theorem p_ahead {Gm : mj_G} {K : Int32 → mm_F → Prop} (hM : mm_S Gm) (hs : LQ s) (h : LM s f) (hK : K (nI (ak (o_c (ls_o s)) (ls_c s) (mn2 (o_n (ls_o s)) (ls_b s)) (mn2 (o_n (ls_o s)) (ls_b s)) 0)) f) : m_alikeOnes Gm d f K := by
  obtain ⟨⟨oQ, q1, q2, q3⟩, q4, q5⟩ := h.2.2.1
  have ho := hs.2.2.2.1
  have h3 := ho.1
  have hb := hs.2.2.2.2.1
  obtain ⟨m1, m2, m3⟩ := mn2_le (a := o_n (ls_o s)) (b := ls_b s)
  refine w_m_alikeOnes hM ?_
  generalize mn2 (o_n (ls_o s)) (ls_b s) = N at m1 m2 m3 hK
  have go : ∀ m i, i + m = N → K (nI (ak (o_c (ls_o s)) (ls_c s) N m i)) f → m_alikeOnes_2 Gm d (nI i) f K := fun m => by
    induction m with
    | zero =>
      intro i hi hK
      refine w_m_alikeOnes_2 hM ?_
      rw [q1.2.1, q2, q4, z_le (by omega) (by omega), z_le (by omega) (by omega)]
      exact z_br (fun _ => hK) (fun q => z_bt (by omega) hK)
    | succ m ih =>
      intro i hi hK
      have hz1 := ho.2.2 i (by omega)
      have hz2 := hs.2.2.2.2.2.1 i (by omega)
      refine w_m_alikeOnes_2 hM ?_
      rw [q1.2.1, q2, q4, z_le (by omega) (by omega), z_le (by omega) (by omega)]
      refine z_bf (by omega) (z_bf (by omega) (z_ixi (by omega) (by decide) (z_ixi (by omega) (by decide) ?_)))
      rw [q1.2.2.2.1 i (by omega), q3 i (by omega), q5 i (by omega), om_m hz1.1, om_m hz2.1, z_eq (by omega) (by omega), z_add]
      have e : ak (o_c (ls_o s)) (ls_c s) N (m + 1) i = if o_c (ls_o s) i % 128 = ls_c s i % 128 then ak (o_c (ls_o s)) (ls_c s) N m (i + 1) else i := rfl
      rw [e] at hK
      refine z_br (fun q => ih (i + 1) (by omega) ?_) (fun q => ?_)
      · rw [if_pos q] at hK; exact hK
      · rw [if_neg q] at hK; exact hK
  exact go N 0 (by omega) hK
theorem op_alike : opJ (fun d G K => Tq_alike d G (fun v G' => K (.inl v) G')) (fun Gm d f K => m_alike Gm d f K) (fun _ => 0) := fun s hs => ⟨s, .inl (nI (ak (o_c (ls_o s)) (ls_c s) (mn2 (o_n (ls_o s)) (ls_b s)) (mn2 (o_n (ls_o s)) (ls_b s)) 0)), hs, fun _ q => (by cases q), fun d ρ G K hd h hK => by
  obtain ⟨d, rfl⟩ : ∃ y, d = y + 2 := ⟨d - 2, by omega⟩
  exact w_Tq_alike h.1.1 (c_ahead h.1.1 h.2.2.2.1 hs.2.2.2.2.1 hs.2.2.2.2.2.1 (by omega) (hK ρ G h yF_r)), fun Gm d f K hd hM h hK => by
  obtain ⟨d, rfl⟩ : ∃ y, d = y + 1 := ⟨d - 1, by omega⟩
  exact w_m_alike hM (p_ahead hM hs (LM_0 h) (hK _ _ (LM_0 h) (rJ_v rfl z_u2s)))⟩
/-- how many are alike behind -/
def al2 (a b : Nat → Nat) (n m : Nat) : Nat → Nat → Nat
  | 0, i => i
  | k + 1, i => if a (n - 1 - i) % 128 = b (m - 1 - i) % 128 then al2 a b n m k (i + 1) else i
theorem op_alikeAtEnd : opJ (fun d G K => Tq_alikeAtEnd d G (fun v G' => K (.inl v) G')) (fun Gm d f K => m_alikeAtEnd Gm d f K) (fun _ => 0) := fun s hs => by
  have ho := hs.2.2.2.1
  have h3 := ho.1
  have hb := hs.2.2.2.2.1
  obtain ⟨m1, m2, m3⟩ := mn2_le (a := o_n (ls_o s)) (b := ls_b s)
  obtain ⟨r1, -⟩ := ak_le (a := o_c (ls_o s)) (b := ls_c s) (N := mn2 (o_n (ls_o s)) (ls_b s)) (m := mn2 (o_n (ls_o s)) (ls_b s)) (i := 0) (by omega)
  refine ⟨s, .inl (nI (al2 (o_c (ls_o s)) (ls_c s) (o_n (ls_o s)) (ls_b s) (mn2 (o_n (ls_o s)) (ls_b s) - ak (o_c (ls_o s)) (ls_c s) (mn2 (o_n (ls_o s)) (ls_b s)) (mn2 (o_n (ls_o s)) (ls_b s)) 0) 0)), hs, fun _ q => (by cases q), fun d ρ G K hd h hK => ?_, fun Gm d f K hd hM h hK => ?_⟩
  · obtain ⟨d, rfl⟩ : ∃ y, d = y + 3 := ⟨d - 3, by omega⟩
    have hO := h.2.2.2.1
    obtain ⟨k1, k2⟩ := yO_k h.1.1 hO.1
    obtain ⟨k3, k4⟩ := yO_k2 h.1.1 hO
    refine w_Tq_alikeAtEnd h.1.1 (w_Ou_alikeBehind h.1.1 (c_ahead h.1.1 hO hb hs.2.2.2.2.2.1 (by omega) ?_))
    rw [hO.1.2.2.1, hO.2.2.2.1, mn2_i (by omega) (by omega)]
    generalize ak (o_c (ls_o s)) (ls_c s) (mn2 (o_n (ls_o s)) (ls_b s)) (mn2 (o_n (ls_o s)) (ls_b s)) 0 = r at r1 hK
    generalize mn2 (o_n (ls_o s)) (ls_b s) = N at m1 m2 r1 hK
    rw [z_sub r1]
    have go : ∀ m i, i + m = N - r → K (.inl (nI (al2 (o_c (ls_o s)) (ls_c s) (o_n (ls_o s)) (ls_b s) m i))) G → Ou_alikeBehind_19 (d + 1 + 1) (nI (N - r)) (nI i) G (fun v G' => K (.inl v) G') := fun m => by
      induction m with
      | zero =>
        intro i hi hK
        refine w_Ou_alikeBehind_19 h.1.1 (by omega) (z_bt (by rw [z_le (by omega) (by omega)]; omega) ?_)
        have e : i = N - r := by omega
        rw [← e]
        exact hK
      | succ m ih =>
        intro i hi hK
        have hz1 := ho.2.2 (o_n (ls_o s) - 1 - i) (by omega)
        have hz2 := hs.2.2.2.2.2.1 (ls_b s - 1 - i) (by omega)
        refine w_Ou_alikeBehind_19 h.1.1 (by omega) (z_bf (by rw [z_le (by omega) (by omega)]; omega) ⟨k1, ?_⟩)
        rw [hO.1.2.2.1, hO.2.2.2.1, k2, k4, z_sub (by omega), z_sub (by omega), z_sub (by omega), z_sub (by omega)]
        refine z_ixi (by omega) (by decide) ⟨k3, z_ixi (by omega) (by decide) ?_⟩
        rw [hO.1.2.2.2.2.1 _ (by omega), hO.2.2.2.2 _ (by omega), q_40 hz1.1, q_40 hz2.1, z_eq (by omega) (by omega), z_add]
        have e : al2 (o_c (ls_o s)) (ls_c s) (o_n (ls_o s)) (ls_b s) (m + 1) i = if o_c (ls_o s) (o_n (ls_o s) - 1 - i) % 128 = ls_c s (ls_b s - 1 - i) % 128 then al2 (o_c (ls_o s)) (ls_c s) (o_n (ls_o s)) (ls_b s) m (i + 1) else i := rfl
        rw [e] at hK
        refine z_br (fun q => ih (i + 1) (by omega) ?_) (fun q => ?_)
        · rw [if_pos q] at hK; exact hK
        · rw [if_neg q] at hK; exact hK
    exact go (N - r) 0 (by omega) (hK ρ G h yF_r)
  · obtain ⟨d, rfl⟩ : ∃ y, d = y + 1 := ⟨d - 1, by omega⟩
    have k0 := LM_0 (x := nI 0) h
    have z0 : (mj_u2 f 1714 0 (nI 0)) 1714 0 = nI 0 := z_u2s
    refine w_m_alikeAtEnd hM (p_ahead hM hs k0 ?_)
    generalize mj_u2 f 1714 0 (nI 0) = f0' at k0 z0
    obtain ⟨⟨oQ, q1, q2, q3⟩, q4, q5⟩ := k0.2.2.1
    generalize ak (o_c (ls_o s)) (ls_c s) (mn2 (o_n (ls_o s)) (ls_b s)) (mn2 (o_n (ls_o s)) (ls_b s)) 0 = r at r1 hK
    generalize mn2 (o_n (ls_o s)) (ls_b s) = N at m1 m2 m3 r1 hK
    have go : ∀ m i, i + m = N - r → (∀ v, v = nI (al2 (o_c (ls_o s)) (ls_c s) (o_n (ls_o s)) (ls_b s) m i) → K v f0') → m_alikeAtEnd_12 Gm (d + 1) (nI r) (nI i) f0' K := fun m => by
      induction m with
      | zero =>
        intro i hi hK
        refine w_m_alikeAtEnd_12 hM ?_
        rw [q1.2.1, q2, q4, z_sub (by omega), z_sub (by omega), z_le (by omega) (by omega), z_le (by omega) (by omega)]
        exact z_br (fun _ => hK _ rfl) (fun q => z_bt (by omega) (hK _ rfl))
      | succ m ih =>
        intro i hi hK
        have hz1 := ho.2.2 (o_n (ls_o s) - 1 - i) (by omega)
        have hz2 := hs.2.2.2.2.2.1 (ls_b s - 1 - i) (by omega)
        refine w_m_alikeAtEnd_12 hM ?_
        rw [q1.2.1, q2, q4, z_sub (by omega), z_sub (by omega), z_le (by omega) (by omega), z_le (by omega) (by omega), z_sub (by omega), z_sub (by omega), z_sub (by omega), z_sub (by omega)]
        refine z_bf (by omega) (z_bf (by omega) (z_ixi (by omega) (by decide) (z_ixi (by omega) (by decide) ?_)))
        rw [q1.2.2.2.1 _ (by omega), q3 _ (by omega), q5 _ (by omega), om_m hz1.1, om_m hz2.1, z_eq (by omega) (by omega), z_add]
        have e : al2 (o_c (ls_o s)) (ls_c s) (o_n (ls_o s)) (ls_b s) (m + 1) i = if o_c (ls_o s) (o_n (ls_o s) - 1 - i) % 128 = ls_c s (ls_b s - 1 - i) % 128 then al2 (o_c (ls_o s)) (ls_c s) (o_n (ls_o s)) (ls_b s) m (i + 1) else i := rfl
        rw [e] at hK
        refine z_br (fun q => ih (i + 1) (by omega) (fun v hv => hK v (by rw [if_pos q]; exact hv))) (fun q => hK _ (by rw [if_neg q]))
    exact go (N - r) 0 (by omega) (fun v hv => hK _ _ k0 (rJ_v hv z0))
end ZZZ3
