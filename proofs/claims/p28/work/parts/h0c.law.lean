/-! THE LAW'S LOOP (wip/p28/genh0c.py) -/
section H0C
variable {s : lst} {H Gm G : mj_G} {d k j a b : Nat} {K : Nat × Nat} {x5 : Int32} {Q : mj_O → mj_G → Prop}
/-- what is spent at the beginning of a round -/
def cBu (j : Nat) : Nat := 1136 * j + 5010 * ((j + 3) / 9) + 3100 * (j / 7)
theorem q_cell {n : Nat} (hn : n < 2 ^ 31) (h1 : mj_k G 1 = 20 ∧ mj_l G 1 ≤ 1000) : rj_X d 14000 0 [some (.inr (.inr 1)), some (.inl (nI n))] [] G (fun o G1 => ∃ v, o = .inl (some (.inl v)) ∧ G = G1) := by
  refine rk_14000_0 (by have := h1.1; omega) rfl (fun q => ?_) (fun q => ?_)
  · refine rk_14000_12 rfl ?_
    exact rk_14000_27 ⟨_, rfl, rfl⟩
  · have hl : ¬ nI (mj_l G 1) ≤ nI n := q
    rw [z_le (by omega) hn] at hl
    refine rk_14000_6 h1.1 (vp_in_nI (by omega) (by omega)) rfl ?_
    exact rk_14000_27 ⟨_, rfl, rfl⟩
theorem md_n {c : Nat} {C : Int32} (hj : j < 2 ^ 31) (hC : C = nI c) (hc : c < 2 ^ 31) : nI j - nI j / C * C = nI (j % c) := by
  rw [hC, z_dv hj hc, z_mul, z_sub (Nat.div_mul_le_self j c)]
  congr 1
  have := Nat.div_add_mod j c
  have h2 : j / c * c = c * (j / c) := Nat.mul_comm _ _
  omega
theorem w_224 (hd : 1200 ≤ d) (hM : mm_S Gm) (hj : j < 90) (hn : ∀ s' H' G', OB (cBu (j + 1)) s' H' → TW K H' H' a b G' → rj_X (d + 6) 14015 21 [some (.inr (.inr 1)), some (.inr (.inr a)), some (.inr (.inr b)), some (.inl (Int32.ofInt (1))), some (.inl (nI (j + 1))), none] [] G' Q) {c : Nat} (hs : OB c s H) (hc : c ≤ cBu (j + 1)) (hT : TW K H H a b G) : rj_X (d + 6) 14015 224 [some (.inr (.inr 1)), some (.inr (.inr a)), some (.inr (.inr b)), some (.inl (Int32.ofInt (1))), some (.inl (nI j)), none] [] G Q := by
  refine rk_14015_224 ?_
  rw [show nI j + Int32.ofInt (1) = nI (j + 1) from z_add j 1]
  exact hn s H G (OB_m hs hc) hT
theorem w_192 (hd : 1200 ≤ d) (hM : mm_S Gm) (hj : j < 90) (hn : ∀ s' H' G', OB (cBu (j + 1)) s' H' → TW K H' H' a b G' → rj_X (d + 6) 14015 21 [some (.inr (.inr 1)), some (.inr (.inr a)), some (.inr (.inr b)), some (.inl (Int32.ofInt (1))), some (.inl (nI (j + 1))), none] [] G' Q) {c : Nat} (hs : OB c s H) (hc : c ≤ 1136 * (j + 1) + 5010 * ((j + 4) / 9) + 3100 * (j / 7)) (hT : TW K H H a b G) : rj_X (d + 6) 14015 192 [some (.inr (.inr 1)), some (.inr (.inr a)), some (.inr (.inr b)), some (.inl (Int32.ofInt (1))), some (.inl (nI j)), some (.inl x5)] [] G Q := by
  have e7 := md_n (c := 7) (C := (Int8.ofInt (7)).toInt32) (j := j) (by omega) (by decide +kernel) (by decide)
  refine rk_14015_192 (by decide +kernel) e7 (fun q => ?_) (fun q => ?_)
  · exact w_224 hd hM hj hn hs (by unfold cBu; omega) hT
  · rw [show (Int8.ofInt (6)).toInt32 = nI 6 by decide +kernel, z_eq (by omega) (by decide)] at q
    obtain ⟨s1, H1, g1, r1⟩ := t_end (v := x5 >>> ((Int32.ofInt (5)) &&& 31)) (d := d + 1) hM (by omega) hs
    refine rk_14015_202 (fun q => absurd q (by decide +kernel)) (fun _ => ?_)
    refine rk_14015_206 ?_
    refine rc_14015_212 (R := fun v' G1 => Int32.ofInt (1) = v' ∧ TW K H1 H1 a b G1) (r1 K a b G _ hT (fun G1 h1 => ⟨_, rfl, rfl, h1⟩)) (fun v' G1 hR => ?_)
    obtain ⟨rfl, hT1⟩ := hR
    refine rk_14015_215 (fun q => absurd q (by decide +kernel)) (fun _ => ?_)
    refine rk_14015_218 (rk_14015_223 ?_)
    exact w_224 hd hM hj hn g1 (by unfold cBu; omega) hT1
theorem w_141 (hd : 1200 ≤ d) (hM : mm_S Gm) (hj : j < 90) (hn : ∀ s' H' G', OB (cBu (j + 1)) s' H' → TW K H' H' a b G' → rj_X (d + 6) 14015 21 [some (.inr (.inr 1)), some (.inr (.inr a)), some (.inr (.inr b)), some (.inl (Int32.ofInt (1))), some (.inl (nI (j + 1))), none] [] G' Q) {c : Nat} (hs : OB c s H) (hc : c + 10 ≤ 1136 * (j + 1) + 5010 * ((j + 4) / 9) + 3100 * (j / 7)) (hT : TW K H H a b G) : rj_X (d + 6) 14015 141 [some (.inr (.inr 1)), some (.inr (.inr a)), some (.inr (.inr b)), some (.inl (Int32.ofInt (1))), some (.inl (nI j)), some (.inl x5)] [] G Q := by
  have e8 := md_n (c := 8) (C := (Int8.ofInt (8)).toInt32) (j := j) (by omega) (by decide +kernel) (by decide)
  refine rk_14015_141 (by decide +kernel) e8 (fun q => ?_) (fun q => ?_)
  · exact w_192 hd hM hj hn hs (by omega) hT
  · obtain ⟨t, ht, e⟩ := lo_n (x5 >>> (((Int8.ofInt (7)).toInt32) &&& 31)) (m := 4) (by decide) (by decide)
    have e' : lo (x5 >>> (((Int8.ofInt (7)).toInt32) &&& 31)) (Int32.ofInt (4)) = nI t := e
    obtain ⟨s1, H1, g1, r1⟩ := t_same hM (t := t) (by omega) (d := d + 2) (by omega) hs
    refine rk_14015_150 (fun q => absurd q (by decide +kernel)) (fun _ => ?_)
    refine rk_14015_154 ?_
    refine rc_14015_161 (R := fun v' G1 => lo (x5 >>> (((Int8.ofInt (7)).toInt32) &&& 31)) (Int32.ofInt (4)) = v' ∧ G = G1) (q_low (by decide +kernel)) (fun v' G1 hR => ?_)
    obtain ⟨rfl, rfl⟩ := hR
    rw [e']
    refine rc_14015_164 (R := fun v' G1 => Int32.ofInt (1) = v' ∧ TW K H1 H a b G1) (RV_1 r1 hT (fun G1 h1 => ⟨_, rfl, rfl, h1⟩)) (fun v' G1 hR => ?_)
    obtain ⟨rfl, hT1⟩ := hR
    refine rk_14015_167 (fun q => absurd q (by decide +kernel)) (fun _ => ?_)
    refine rk_14015_170 ?_
    refine rc_14015_177 (R := fun v' G2 => lo (x5 >>> (((Int8.ofInt (7)).toInt32) &&& 31)) (Int32.ofInt (4)) = v' ∧ G1 = G2) (q_low (by decide +kernel)) (fun v' G2 hR => ?_)
    obtain ⟨rfl, rfl⟩ := hR
    rw [e']
    refine rc_14015_180 (R := fun v' G2 => Int32.ofInt (1) = v' ∧ TW K H1 H1 a b G2) (RV_2 r1 hT1 (fun G2 h1 => ⟨_, rfl, rfl, h1⟩)) (fun v' G2 hR => ?_)
    obtain ⟨rfl, hT2⟩ := hR
    refine rk_14015_183 (fun q => absurd q (by decide +kernel)) (fun _ => ?_)
    refine rk_14015_186 (rk_14015_191 ?_)
    exact w_192 hd hM hj hn g1 (by omega) hT2
theorem w_90 (hd : 1200 ≤ d) (hM : mm_S Gm) (hj : j < 90) (hn : ∀ s' H' G', OB (cBu (j + 1)) s' H' → TW K H' H' a b G' → rj_X (d + 6) 14015 21 [some (.inr (.inr 1)), some (.inr (.inr a)), some (.inr (.inr b)), some (.inl (Int32.ofInt (1))), some (.inl (nI (j + 1))), none] [] G' Q) {c : Nat} (hs : OB c s H) (hc : c + 30 ≤ 1136 * (j + 1) + 5010 * ((j + 4) / 9) + 3100 * (j / 7)) (hT : TW K H H a b G) : rj_X (d + 6) 14015 90 [some (.inr (.inr 1)), some (.inr (.inr a)), some (.inr (.inr b)), none, some (.inl (nI j)), some (.inl x5)] [.inl (Int32.ofInt (1))] G Q := by
  have e3 := md_n (c := 3) (C := Int32.ofInt (3)) (j := j) (by omega) (by decide +kernel) (by decide)
  refine rk_14015_90 (by decide +kernel) e3 (fun q => ?_) (fun q => ?_)
  · exact w_141 hd hM hj hn hs (by omega) hT
  · obtain ⟨t, ht, e⟩ := lo_n (x5 >>> (((Int8.ofInt (6)).toInt32) &&& 31)) (m := 4) (by decide) (by decide)
    have e' : lo (x5 >>> (((Int8.ofInt (6)).toInt32) &&& 31)) (Int32.ofInt (4)) = nI t := e
    obtain ⟨s1, H1, g1, r1⟩ := t_out hM (t := t) (by omega) (d := d + 2) (by omega) hs
    refine rk_14015_99 (fun q => absurd q (by decide +kernel)) (fun _ => ?_)
    refine rk_14015_103 ?_
    refine rc_14015_110 (R := fun v' G1 => lo (x5 >>> (((Int8.ofInt (6)).toInt32) &&& 31)) (Int32.ofInt (4)) = v' ∧ G = G1) (q_low (by decide +kernel)) (fun v' G1 hR => ?_)
    obtain ⟨rfl, rfl⟩ := hR
    rw [e']
    refine rc_14015_113 (R := fun v' G1 => Int32.ofInt (1) = v' ∧ TW K H1 H a b G1) (RV_1 r1 hT (fun G1 h1 => ⟨_, rfl, rfl, h1⟩)) (fun v' G1 hR => ?_)
    obtain ⟨rfl, hT1⟩ := hR
    refine rk_14015_116 (fun q => absurd q (by decide +kernel)) (fun _ => ?_)
    refine rk_14015_119 ?_
    refine rc_14015_126 (R := fun v' G2 => lo (x5 >>> (((Int8.ofInt (6)).toInt32) &&& 31)) (Int32.ofInt (4)) = v' ∧ G1 = G2) (q_low (by decide +kernel)) (fun v' G2 hR => ?_)
    obtain ⟨rfl, rfl⟩ := hR
    rw [e']
    refine rc_14015_129 (R := fun v' G2 => Int32.ofInt (1) = v' ∧ TW K H1 H1 a b G2) (RV_2 r1 hT1 (fun G2 h1 => ⟨_, rfl, rfl, h1⟩)) (fun v' G2 hR => ?_)
    obtain ⟨rfl, hT2⟩ := hR
    refine rk_14015_132 (fun q => absurd q (by decide +kernel)) (fun _ => ?_)
    refine rk_14015_135 (rk_14015_140 ?_)
    exact w_141 hd hM hj hn g1 (by omega) hT2
theorem w_68 (hd : 1200 ≤ d) (hM : mm_S Gm) (hj : j < 90) (hn : ∀ s' H' G', OB (cBu (j + 1)) s' H' → TW K H' H' a b G' → rj_X (d + 6) 14015 21 [some (.inr (.inr 1)), some (.inr (.inr a)), some (.inr (.inr b)), some (.inl (Int32.ofInt (1))), some (.inl (nI (j + 1))), none] [] G' Q) {c : Nat} (hs : OB c s H) (hc : c + 30 ≤ 1136 * (j + 1) + 5010 * ((j + 3) / 9) + 3100 * (j / 7)) (hT : TW K H H a b G) : rj_X (d + 6) 14015 68 [some (.inr (.inr 1)), some (.inr (.inr a)), some (.inr (.inr b)), none, some (.inl (nI j)), some (.inl x5)] [] G Q := by
  have e9 := md_n (c := 9) (C := (Int8.ofInt (9)).toInt32) (j := j) (by omega) (by decide +kernel) (by decide)
  refine rk_14015_68 (by decide +kernel) e9 (fun q => ?_) (fun q => ?_)
  · refine rk_14015_85 ?_
    exact w_90 hd hM hj hn hs (by omega) hT
  · rw [show Int32.ofInt (5) = nI 5 from rfl, z_eq (by omega) (by decide)] at q
    obtain ⟨H1, g1, r1⟩ := t_alike hM (d := d + 2) (by omega) hs
    refine rk_14015_77 ?_
    refine rc_14015_79 (R := fun v' G1 => Int32.ofInt (1) = v' ∧ TW K H1 H1 a b G1) (r1 K a b G _ hT (fun G1 h1 => ⟨_, rfl, rfl, h1⟩)) (fun v' G1 hR => ?_)
    obtain ⟨rfl, hT1⟩ := hR
    refine rk_14015_82 (fun q => absurd q (by decide +kernel)) (fun _ => ?_)
    refine rk_14015_85 ?_
    exact w_90 hd hM hj hn g1 (by omega) hT1
theorem w_56 (hd : 1200 ≤ d) (hM : mm_S Gm) (hj : j < 90) (hn : ∀ s' H' G', OB (cBu (j + 1)) s' H' → TW K H' H' a b G' → rj_X (d + 6) 14015 21 [some (.inr (.inr 1)), some (.inr (.inr a)), some (.inr (.inr b)), some (.inl (Int32.ofInt (1))), some (.inl (nI (j + 1))), none] [] G' Q) {c : Nat} (hs : OB c s H) (hc : c ≤ cBu j) (hT : TW K H H a b G) : rj_X (d + 6) 14015 56 [some (.inr (.inr 1)), some (.inr (.inr a)), some (.inr (.inr b)), none, some (.inl (nI j)), some (.inl x5)] [.inl x5, .inr (.inr a)] G Q := by
  obtain ⟨s1, v1, H1, g1, r1⟩ := t_act (x1 := x5) hM hd hs
  refine rc_14015_56 (R := fun v' G1 => v1 = v' ∧ TW K H1 H a b G1) (RV_1 r1 hT (fun G1 h1 => ⟨_, rfl, rfl, h1⟩)) (fun v' G1 hR => ?_)
  obtain ⟨rfl, hT1⟩ := hR
  refine rk_14015_59 ?_
  refine rc_14015_62 (R := fun v' G2 => v1 = v' ∧ TW K H1 H1 a b G2) (RV_2 r1 hT1 (fun G2 h1 => ⟨_, rfl, rfl, h1⟩)) (fun v' G2 hR => ?_)
  obtain ⟨rfl, hT2⟩ := hR
  refine rk_14015_65 (fun q => absurd rfl q) (fun _ => ?_)
  unfold cBu at hc
  exact w_68 hd hM hj hn g1 (by omega) hT2
theorem w_loop21 (hd : 1200 ≤ d) (hM : mm_S Gm) (hQ : ∀ H' G', bR 194550 H' → TW K H' H' a b G' → Q (.inl (some (.inl (Int32.ofInt (1))))) G') : ∀ (m j : Nat) (s : lst) (H G : mj_G), j + m = 90 → OB (cBu j) s H → TW K H H a b G → rj_X (d + 6) 14015 21 [some (.inr (.inr 1)), some (.inr (.inr a)), some (.inr (.inr b)), some (.inl (Int32.ofInt (1))), some (.inl (nI j)), none] [] G Q
  | 0, j, s, H, G, hj, hs, hT => by
    have ej : j = 90 := by omega
    subst ej
    refine rk_14015_21 (fun _ => ?_) (fun q => absurd (by decide +kernel) q)
    refine rk_14015_230 (fun q => absurd q (by decide +kernel)) (fun _ => ?_)
    refine rk_14015_234 ?_
    obtain ⟨H1, g1, r1⟩ := t_alike hM (d := d + 2) (by omega) hs
    refine rc_14015_236 (R := fun v' G1 => Int32.ofInt (1) = v' ∧ TW K H1 H1 a b G1) (r1 K a b G _ hT (fun G1 h1 => ⟨_, rfl, rfl, h1⟩)) (fun v' G1 hR => ?_)
    obtain ⟨rfl, hT1⟩ := hR
    refine rk_14015_239 (fun q => absurd q (by decide +kernel)) (fun _ => ?_)
    refine rk_14015_242 (rk_14015_247 (Or.inr rfl) (hQ H1 G1 ?_ hT1))
    exact bR_m g1.2.2.2.2 (by decide)
  | m + 1, j, s, H, G, hj, hs, hT => by
    have h90 : (Int8.ofInt (90)).toInt32 = nI 90 := by decide +kernel
    refine rk_14015_21 (fun q => absurd q (by rw [h90, z_le (by decide) (by omega)]; omega)) (fun _ => ?_)
    refine rk_14015_28 (fun q => absurd q (by decide +kernel)) (fun _ => ?_)
    have e61 := md_n (c := 61) (C := (Int8.ofInt (61)).toInt32) (j := j) (by omega) (by decide +kernel) (by decide)
    refine rk_14015_32 (by decide +kernel) e61 ?_
    refine rc_14015_38 (R := fun _ G1 => G = G1) (q_cell (by omega) (TW_1 hT)) (fun v' G1 hR => ?_)
    subst hR
    refine rk_14015_41 (by decide +kernel) rfl ?_
    exact w_56 hd hM (by omega) (fun s' H' G' a1 a2 => w_loop21 hd hM hQ m (j + 1) s' H' G' (by omega) a1 a2) hs (Nat.le_refl _) hT
end H0C
