/-! DEFAULTS given by the class -/
section ZZG
variable {u : wo} {ρ ρ' : Nat → Nat} {D : Nat → rv} {I : Nat → Nat → rv} {G G1 G' : mj_G} {cur bN i p q s r d T tg rm me fN : Nat} {x a lt : Nat → Nat} {g : Nat → Option rv} {m : Nat} {e : Int32} {v : rv} {N : Nat} {B : Nat → Nat} {M : Nat} {S : Nat → Nat} {lc : Nat} {ln : Nat → Nat} {op : Nat} {ch : List en} {V : Nat → Nat → Option rv} {o : ost} {ra rd : Nat → Int32} {sp : Nat → Bool} {st hts : Nat} {FG : Nat → kfr} {V' : Nat → Nat → Option rv} {o' : ost} {ra' rd' : Nat → Int32} {sp' : Nat → Bool} {st' hts' : Nat} {FG' : Nat → kfr} {fr b cn : Nat → Nat} {top la : Nat}
theorem ck_N (hk : ck G N M S fr top ra rd) : ck G (N + 1) M S (e_bh fr N fN) top ra rd := by
  obtain ⟨h1, h2, h3, h4, h5⟩ := hk
  have e : ∀ k, k < M → e_bh fr N fN (S k) = fr (S k) := fun k hk => if_neg (by have := (h5 k hk).1; omega)
  refine ⟨h1, h2, h3, h4.trans (kc_fr (fun _ _ => rfl) (fun j hj => e j hj)).symm, fun k hk => ?_⟩
  obtain ⟨g1, g2, g3, g4, g5⟩ := h5 k hk
  rw [e k hk]
  exact ⟨by omega, g2, g3, g4.trans (kc_fr (fun _ _ => rfl) (fun j hj => e j (by omega))).symm, g5⟩
theorem ck_N' (hS : ∀ k, k < M → S k < N) (hk : ck G (N + 1) M S (e_bh fr N fN) top ra rd) : ck G N M S fr top ra rd := by
  obtain ⟨h1, h2, h3, h4, h5⟩ := hk
  have e : ∀ k, k < M → e_bh fr N fN (S k) = fr (S k) := fun k hk => if_neg (by have := hS k hk; omega)
  refine ⟨h1, h2, h3, h4.trans (kc_fr (fun _ _ => rfl) (fun j hj => e j hj)), fun k hk => ?_⟩
  obtain ⟨g1, g2, g3, g4, g5⟩ := h5 k hk
  rw [e k hk] at g3 g4 g5
  exact ⟨hS k hk, g2, g3, g4.trans (kc_fr (fun _ _ => rfl) (fun j hj => e j (by omega))), g5⟩
/-- a variable's letter is written -/
theorem var_w {y : Int32} (h : hh ρ D I G) (hp : p < 320) (e : G1 = mj_pI G (67 + 2 * p) 6 y) : hh ρ D I G1 ∧ fw ρ (fun q => q = 67 + 2 * p) G G1 ∧ mj_i G1 (67 + 2 * p) 6 = y ∧ mj_n G1 = mj_n G ∧ ∀ (P : Nat → Prop) (v : rv), cv P G (67 + 2 * p) v → cv P G1 (67 + 2 * p) v := by
  have ho : ow ρ (67 + 2 * p) = 67 + 2 * p := ow_s (by omega)
  have hk := cs_g13 h.1 hp
  subst e
  refine ⟨hh_I h ?_ (fun q => absurd q (by decide)), fw_I ho, z_iIs, rfl, fun P v c => cv_I6 c (by rw [hk]; decide)⟩
  unfold imm
  rw [ho]
  unfold im_o
  omega
/-- a parameter that has its value -/
theorem c_gd9s {K : Int32 → mj_G → Prop} (hC : CC u ρ G N B M S lc ln op ch V o ra rd sp st hts FG fr b cn top la) (mc : mcP u T tg rm x a m me) (hb : bN + 3 ≤ 320) (ha : aC ρ (u_D u) G bN (p_lt (u_w u T) a) g m) (hi : i < m) (hg : g i = some v) (h1 : Rn_giveDefaults_9 (d + 2) (nI bN) (nI (top + 1)) (x (i + 1)) (nI (i + 1)) G K) : Rn_giveDefaults_9 (d + 2) (nI bN) (nI (top + 1)) (x i) (nI i) G K := by
  obtain ⟨pc, -, -⟩ := mc_pC hC.2.1 mc
  obtain ⟨p1, p2, p3, -⟩ := pc.2.2 i hi
  have hm := pc.1
  have hl := (mc_lt mc hi).1
  obtain ⟨c1, -, -⟩ := (ha i hi).2 v hg
  refine w_Rn_giveDefaults_9 hC.1.1 (z_bf (by rw [z_le (by omega) (by omega)]; omega) (z_bf p1 ?_))
  rw [z_add]
  refine z_ixi (by omega) (by omega) (z_bf (by rw [c1]; exact z_m1n (by omega)) ⟨p2, ?_⟩)
  rw [p3, z_add]
  exact h1
/-- a parameter without one: up to its default -/
theorem c_gd9 {K : Int32 → mj_G → Prop} (hC : CC u ρ G N B M S lc ln op ch V o ra rd sp st hts FG fr b cn top la) (mc : mcP u T tg rm x a m me) (ht : top < 199) (hbN : bN = b (N - 1) + cn (N - 1)) (hb : bN + 3 ≤ 320) (ha : aC ρ (u_D u) G bN (p_lt (u_w u T) a) g m) (hf : aF G top bN m) (hi : i < m) (hg : g i = none)
    (h1 : mj_r (u_G u) (x i) 6 = 0 → ∀ ρ' G', CC u ρ' G' N B M S lc ln op ch V o ra rd sp st hts FG fr b cn top la → ro_e ρ ρ' G → fw ρ bW G G' → FF ρ top (fr (N - 1)) G G' → mj_r G' (707 + 4 * top) 2 = mj_r G (707 + 4 * top) 2 → aC ρ' (u_D u) G' bN (p_lt (u_w u T) a) (g_u g i (some rv_0)) m → aF G' top bN m → Rn_giveDefaults_9 (d + 2) (nI bN) (nI (top + 1)) (x (i + 1)) (nI (i + 1)) G' K)
    (h2 : ¬ mj_r (u_G u) (x i) 6 = 0 → 2 * (q - s) + 22 ≤ d + 1 ∧ fnC (u_D u) (u_I u) (N + 1) (e_bh B N 0) (e_cl V N (p_vl (p_lt (u_w u T) a) g m)) M S (N + 1) (u_A u) (u_G u) (mj_r (u_G u) (x i) 6) s q 0 0 ra rd e v ra' rd' ∧ (e = nI 0 → rv_in (u_D u) v))
    (h3 : ¬ mj_r (u_G u) (x i) 6 = 0 → ¬ e = nI 0 → ∀ ρ' G', CC u ρ' G' N B M S lc ln op ch V o ra' rd' sp st hts FG fr b cn top la → ro_e ρ ρ' G → fw ρ bW G G' → FF ρ top (fr (N - 1)) G G' → mj_r G' (707 + 4 * top) 2 = mj_r G (707 + 4 * top) 2 → K e G')
    (h4 : ¬ mj_r (u_G u) (x i) 6 = 0 → e = nI 0 → ∀ ρ' G', CC u ρ' G' N B M S lc ln op ch V o ra' rd' sp st hts FG fr b cn top la → ro_e ρ ρ' G → fw ρ bW G G' → FF ρ top (fr (N - 1)) G G' → mj_r G' (707 + 4 * top) 2 = mj_r G (707 + 4 * top) 2 → aC ρ' (u_D u) G' bN (p_lt (u_w u T) a) (g_u g i (some v)) m → aF G' top bN m → Rn_giveDefaults_9 (d + 2) (nI bN) (nI (top + 1)) (x (i + 1)) (nI (i + 1)) G' K) : Rn_giveDefaults_9 (d + 2) (nI bN) (nI (top + 1)) (x i) (nI i) G K := by
  obtain ⟨pc, -, -⟩ := mc_pC hC.2.1 mc
  obtain ⟨p1, p2, p3, p4, -⟩ := pc.2.2 i hi
  have hm := pc.1
  have hG := hh_n hC.1
  have hp : bN + i < 320 := by omega
  have hA : u_A u (x i) := (mc.2.2.2.2.2.2.1.2.2 i hi).1
  have hxk : mj_k (u_G u) (x i) = 6 := (mc.2.2.2.2.2.2.1.2.2 i hi).2.2.1
  have hx4 : mj_i (u_G u) (x i) 4 = nI (p_lt (u_w u T) a i) := (mc.2.2.2.2.2.2.1.2.2 i hi).2.2.2.2.1
  have hx10 : x (i + 1) = mj_r (u_G u) (x i) 10 := (mc.2.2.2.2.2.2.1.2.2 i hi).2.2.2.2.2.1
  have c6 := (ha i hi).1 hg
  have nx : ∀ {W : Nat → Prop} {G' : mj_G}, fw ρ W G G' → ¬ W (707 + 4 * top) → mj_r G' (707 + 4 * top) 2 = mj_r G (707 + 4 * top) 2 := fun F hw => ((F.2.2.2 (707 + 4 * top) (by have := hC.2.2.1.2.1; omega)).2.2 (by rw [ow_s (by have := hC.2.2.1.2.1; omega)]; exact hw)).1 2
  refine w_Rn_giveDefaults_9 hC.1.1 (z_bf (by rw [z_le (by omega) (by omega)]; omega) (z_bf p1 ?_))
  rw [z_add]
  have ho : ow ρ (67 + 2 * (bN + i)) = 67 + 2 * (bN + i) := ow_s (by omega)
  refine z_ixi hp (by omega) (z_bt c6 (c_setNothing (P := vP ρ (bN + i)) hC.1 (vm_s hC.1.1 (Or.inl ⟨by omega, by omega, by omega⟩) (cs_g13 hC.1.1 hp)) (fun G1 k1 F1' k3 k4 => ?_)))
  have F1 : fw ρ (fun q => q = 67 + 2 * (bN + i)) G G1 := fw_m F1' (fun o q => by rw [ho] at q; exact q)
  obtain ⟨d1, d2, d3⟩ := CC_a (cur := fr (N - 1)) hC ht hbN k1 (fw_m F1 (fun o q => by unfold aW; omega)) ro_r
  obtain ⟨A1, A2, A3⟩ := wC_A d1.2.1 hA
  refine ⟨A1.trans hxk, ?_⟩
  rw [A2 6]
  refine z_br (fun hq => ⟨cs_g13 k1.1 hp, ?_⟩) (fun hq => ?_)
  · intro G2 e2
    rw [A3 4, hx4] at e2
    obtain ⟨w1, w2, w3, w4, w5⟩ := var_w k1 hp e2
    clear e2
    have F : fw ρ (fun q => q = 67 + 2 * (bN + i)) G G2 := fw_t F1 ro_r w2
    obtain ⟨i1, i2, i3⟩ := CC_a (cur := fr (N - 1)) hC ht hbN w1 (fw_m F (fun o q => by unfold aW; omega)) ro_r
    obtain ⟨B1, B2, B3⟩ := wC_A i1.2.1 hA
    rw [B2 10, ← hx10, z_add]
    exact h1 hq ρ G2 i1 ro_r i2 i3 (nx F (by omega)) (aC_up hC.1 ha (by omega) hi F ro_r w3 (w5 _ _ k4) rv_in0) (aF_f hC.1 hf ht F (by omega))
  · obtain ⟨q1, q2, q3⟩ := h2 hq
    -- what is given stays
    have ha1 : aC ρ (u_D u) G1 bN (p_lt (u_w u T) a) g m := fun k hk => by
      by_cases t : k = i
      · subst t
        refine ⟨fun _ => k3.2.trans c6, fun v hv => ?_⟩
        rw [hg] at hv
        exact nomatch hv
      · obtain ⟨y1, y2⟩ := ha k hk
        have ey : mj_i G1 (67 + 2 * (bN + k)) 6 = mj_i G (67 + 2 * (bN + k)) 6 := ce_i hC.1 F1 (by omega) (by omega)
        refine ⟨fun z => ey.trans (y1 z), fun v hv => ?_⟩
        obtain ⟨z1, z2, z3⟩ := y2 v hv
        exact ⟨ey.trans z1, ce_cv1 hC.1 F1 ro_r (fun o r => by rw [r]; unfold im_o; omega) (by omega) (by omega) z3.1 z2, z3⟩
    have hf1 := aF_f hC.1 hf ht F1 (by omega)
    have hce := ce_arg d1 ht hbN (by omega) (mc_dis mc) (fun i hi => (mc_lt mc hi).1) ha1 hf1
    have hsf : nI (top + 1) = sf (e_bh fr N (top + 1)) (N + 1) := by
      rw [sf_s, show e_bh fr N (top + 1) N = top + 1 from if_pos rfl]
    have hSN : ∀ k, k < M → S k < N := fun k hk => (hC.2.2.1.2.2.2.2.2.2.2.2.2.2.2.2.2 k hk).1
    rw [hsf]
    refine q2 (e_bh fr N (top + 1)) (e_bh b N bN) (e_bh cn N m) top ρ G1 ⟨k1, hce, ck_N (CC_ck d1), d1.2.1.2.2.2.1⟩ (d + 1) _ q1 (fun ρ2 G2 b1 b2 b3 b4 b5 => ?_)
    obtain ⟨i1, i2, i3⟩ := CC_v (cur := fr (N - 1)) d1 b1 b2 b3 (ck_N' hSN b4)
    have he2 : ro_e ρ ρ2 G := fun y hy => b2 y (Nat.lt_of_lt_of_le hy F1.1)
    have n2 : mj_r G2 (707 + 4 * top) 2 = mj_r G (707 + 4 * top) 2 := ((b3.2 (707 + 4 * top) (by have := F1.1; omega) (by rw [ow_s (by omega)]; unfold fF; omega)).1 2).trans (nx F1 (by omega))
    have FF2 := FF_t d3 ro_r F1.1 i3
    have fw2 := fw_t d2 ro_r i2
    refine z_br (fun he => ?_) (fun he => h3 hq he ρ2 G2 i1 he2 fw2 FF2 n2)
    have ha2 := aC_fv k1 ha1 (by omega) b3 b2
    have hf2 := aF_fv k1 hf1 ht b3
    refine w_Fi_found b1.1 (z_ixi (by decide) (by decide) ⟨cs_g13 b1.1 hp, ?_⟩)
    refine c_kp b1 hp (q3 he).1 (show (1509 : Nat) ≠ 67 + 2 * (bN + i) by omega) (b5 he) (fun ρ3 G3 j1 j2 j3 j4 j5 => ?_)
    obtain ⟨y1, y2, y3⟩ := CC_a (cur := fr (N - 1)) i1 ht hbN j1 (fw_m j3 (fun o q => by unfold aW; omega)) j2
    obtain ⟨B1, B2, B3⟩ := wC_A y1.2.1 hA
    refine ⟨B1.trans hxk, cs_g13 j1.1 hp, ?_⟩
    intro G4 e4
    rw [B3 4, hx4] at e4
    obtain ⟨w1, w2, w3, w4, w5⟩ := var_w j1 hp e4
    clear e4
    have F4 : fw ρ2 (fun q => q = 67 + 2 * (bN + i)) G2 G4 := fw_t j3 j2 w2
    obtain ⟨z1, z2, z3⟩ := CC_a (cur := fr (N - 1)) i1 ht hbN w1 (fw_m F4 (fun o q => by unfold aW; omega)) j2
    obtain ⟨C1, C2, C3⟩ := wC_A z1.2.1 hA
    rw [C2 10, ← hx10, z_add, ← hsf]
    have n4 : mj_r G4 (707 + 4 * top) 2 = mj_r G (707 + 4 * top) 2 := (((F4.2.2.2 (707 + 4 * top) (by have := fw2.1; omega)).2.2 (by rw [ow_s (by omega)]; omega)).1 2).trans n2
    exact h4 hq he ρ3 G4 z1 (ro_t he2 fw2.1 j2) (fw_t fw2 he2 z2) (FF_t FF2 he2 fw2.1 z3) n4 (aC_up b1 ha2 (by omega) hi F4 j2 w3 (w5 _ _ j5) (q3 he)) (aF_f b1 hf2 ht F4 (by omega))
end ZZG
