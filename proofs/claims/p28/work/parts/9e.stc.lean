/-! RENDERING: a variable is set, by the class -/
/-- within a scope each letter stands once -/
def cu (G : mj_G) (N : Nat) (b cn : Nat → Nat) : Prop := ∀ s, s < N → ∀ p q, b s ≤ p → p < b s + cn s → b s ≤ q → q < b s + cn s → mj_i G (67 + 2 * p) 6 = mj_i G (67 + 2 * q) 6 → mj_i G (67 + 2 * p) 6 = Int32.ofInt (-1) ∨ p = q
/-- the frame on top, the innermost scope, how many variables there are -/
def cF (G : mj_G) (N : Nat) (fr b cn : Nat → Nat) (top : Nat) : Prop := 1 ≤ N ∧ top < 200 ∧ mj_i G 11 4 = nI top ∧ mj_i G (707 + 4 * top) 3 = nI (fr (N - 1)) ∧ mj_i G 11 2 = nI (b (N - 1) + cn (N - 1))
section SC
variable {ρ ρ' : Nat → Nat} {D : Nat → rv} {I : Nat → Nat → rv} {G G' : mj_G} {N d l x top a p : Nat} {B fr b cn cn' : Nat → Nat} {V : Nat → Nat → Option rv} {v : rv} {P : Nat → Prop}
theorem c_placeIn {s : Nat} {K : Int32 → mj_G → Prop} (h : hh ρ D I G) (hE : ce ρ D G N B V fr b cn) (hs : s < N) (hl : l < 26) (h1 : V s l = none → K (Int32.ofInt (-1)) G) (h2 : ∀ p, b s ≤ p → p < b s + cn s → mj_i G (67 + 2 * p) 6 = nI l → K (nI p) G) : St_placeIn d (707 + 4 * fr s) (nI l) G K := by
  obtain ⟨g1, g2, g3, g4, g5, g6, g7, g8⟩ := hE.2 s hs
  refine w_St_placeIn h.1 ⟨cs_g14 h.1 g1, ?_⟩
  rw [g5, g6, z_add, z_mn (by omega) (by decide), Nat.min_eq_left g2]
  have go : ∀ m p, p + m = b s + cn s → b s ≤ p → (∀ q, b s ≤ q → q < p → ¬ mj_i G (67 + 2 * q) 6 = nI l) → St_placeIn_22 d (nI l) (nI (b s + cn s)) (nI p) G K := fun m => by
    induction m with
    | zero =>
      intro p hp hbp hno
      refine w_St_placeIn_22 h.1 (z_bt (by rw [z_le (by omega) (by omega)]; omega) (h1 ?_))
      cases hV : V s l with
      | none => rfl
      | some v =>
        obtain ⟨q, q1, q2, q3⟩ := g8 l v hV
        exact absurd q3 (hno q q1 (by omega))
    | succ m ih =>
      intro p hp hbp hno
      refine w_St_placeIn_22 h.1 (z_bf (by rw [z_le (by omega) (by omega)]; omega) (z_ixi (by omega) (by decide) (z_br (fun q => h2 p hbp (by omega) q) (fun q => ?_))))
      rw [z_add]
      exact ih (p + 1) (by omega) (by omega) (fun r r1 r2 => by
        by_cases er : r = p
        · rw [er]; exact q
        · exact hno r r1 (by omega))
  exact go (cn s) (b s) rfl (Nat.le_refl _) (fun q q1 q2 => absurd q1 (by omega))
/-- the scopes with one variable set -/
theorem ce_up (hL : ∀ s l v, V s l = some v → l < 26) (hE : ce ρ D G N B V fr b cn) (hu : cu G N b cn) (hN : 1 ≤ N) (hl : l < 26) (hvin : rv_in D v) (hp1 : b (N - 1) ≤ p) (hp2 : p < b (N - 1) + cn' (N - 1)) (hp3 : b (N - 1) + cn' (N - 1) ≤ 320) (hcn : ∀ s, s < N → s ≠ N - 1 → cn' s = cn s)
    (hway : (cn' (N - 1) = cn (N - 1) ∧ mj_i G (67 + 2 * p) 6 = nI l) ∨ (cn' (N - 1) = cn (N - 1) + 1 ∧ p = b (N - 1) + cn (N - 1) ∧ V (N - 1) l = none))
    (e45 : ∀ s, s < N → mj_i G' (707 + 4 * fr s) 4 = mj_i G (707 + 4 * fr s) 4 ∧ mj_i G' (707 + 4 * fr s) 5 = mj_i G (707 + 4 * fr s) 5 ∧ mj_i G' (707 + 4 * fr s) 6 = nI (cn' s)) (el : ∀ q, q < 320 → mj_i G' (67 + 2 * q) 6 = if q = p then nI l else mj_i G (67 + 2 * q) 6)
    (ev : ∀ q w, q < 320 → q ≠ p → rv_ok w → cv (vP ρ q) G (67 + 2 * q) w → cv (vP ρ' q) G' (67 + 2 * q) w) (hv : cv (vP ρ' p) G' (67 + 2 * p) v) : ce ρ' D G' N B (e_st V (N - 1) l v) fr b cn' ∧ cu G' N b cn' := by
  have hp320 : p < 320 := by omega
  -- what stands at a place of a scope
  have old : ∀ s, s < N → ∀ q, b s ≤ q → q < b s + cn' s → q ≠ p → b s ≤ q ∧ q < b s + cn s := fun s hs q h1 h2 hq => by
    refine ⟨h1, ?_⟩
    by_cases r : s = N - 1
    · subst r
      rcases hway with hw | hw
      · omega
      · omega
    · rw [hcn s hs r] at h2; exact h2
  have inN : ∀ s, s < N → ∀ q, b s ≤ q → q < b s + cn' s → q = p → s = N - 1 := fun s hs q h1 h2 hq => by
    by_cases r : s = N - 1
    · exact r
    · rw [hcn s hs r] at h2
      have := ((hE.2 (N - 1) (by omega)).2.2.1 s (by omega)).2
      omega
  -- another place of the same letter in the innermost scope
  have uni : ∀ q, b (N - 1) ≤ q → q < b (N - 1) + cn (N - 1) → mj_i G (67 + 2 * q) 6 = nI l → q = p := fun q h1 h2 h3 => by
    rcases hway with ⟨hw1, hw2⟩ | ⟨hw1, hw2, hw3⟩
    · rcases hu (N - 1) (by omega) q p h1 h2 hp1 (by omega) (h3.trans hw2.symm) with r | r
      · rw [h3, ← sh_s, sh_n (by omega)] at r
        omega
      · exact r
    · obtain ⟨-, -, -, -, -, -, g7, -⟩ := hE.2 (N - 1) (by omega)
      rcases g7 q h1 h2 with g | ⟨l', w, a1, a2, a3, -⟩
      · rw [h3, ← sh_s, sh_n (by omega)] at g
        omega
      · rw [h3, z_eq (by omega) (by omega)] at a2
        rw [← a2, hw3] at a3
        exact absurd a3 (by simp)
  refine ⟨⟨hE.1, fun s hs => ?_⟩, fun s hs q1 q2 a1 a2 a3 a4 a5 => ?_⟩
  · obtain ⟨g1, g2, g3, g4, g5, g6, g7, g8⟩ := hE.2 s hs
    obtain ⟨c4, c5, c6⟩ := e45 s hs
    refine ⟨g1, ?_, fun r hr => ⟨(g3 r hr).1, ?_⟩, c4.trans g4, c5.trans g5, c6, fun q q1 q2 => ?_, fun l' w q => ?_⟩
    · by_cases r : s = N - 1
      · rw [r]; exact hp3
      · rw [hcn s hs r]; exact g2
    · rw [hcn r (by omega) (by omega)]
      exact (g3 r hr).2
    · by_cases hq : q = p
      · have hs1 := inN s hs q q1 q2 hq
        refine Or.inr ⟨l, v, hl, by rw [el q (by omega), if_pos hq], by rw [hs1]; exact e_st_s, by rw [hq]; exact hv, hvin⟩
      · obtain ⟨o1, o2⟩ := old s hs q q1 q2 hq
        rcases g7 q o1 o2 with g | ⟨l', w, a1, a2, a3, a4, a5⟩
        · exact Or.inl (by rw [el q (by omega), if_neg hq]; exact g)
        · refine Or.inr ⟨l', w, a1, by rw [el q (by omega), if_neg hq]; exact a2, (e_st_n (fun r => hq ?_)).trans a3, ev q w (by omega) hq a5.1 a4, a5⟩
          obtain ⟨r1, r2⟩ := r
          subst r1
          exact uni q o1 o2 (by rw [a2, r2])
    · by_cases r : s = N - 1 ∧ l' = l
      · obtain ⟨rfl, rfl⟩ := r
        exact ⟨p, hp1, hp2, by rw [el p hp320, if_pos rfl]⟩
      · rw [e_st_n r] at q
        obtain ⟨p', a1, a2, a3⟩ := g8 l' w q
        by_cases hq : p' = p
        · exfalso
          have hs1 : s = N - 1 := inN s hs p' a1 (by
            by_cases t : s = N - 1
            · subst t
              rcases hway with hw | hw <;> omega
            · rw [hcn s hs t]; exact a2) hq
          rcases hway with ⟨hw1, hw2⟩ | ⟨hw1, hw2, hw3⟩
          · rw [hq, hw2] at a3
            have hl2 := hL s l' w q
            rw [z_eq (by omega) (by omega)] at a3
            exact r ⟨hs1, a3.symm⟩
          · rw [hs1] at a2
            omega
        · refine ⟨p', a1, ?_, by rw [el p' (by omega), if_neg hq]; exact a3⟩
          by_cases t : s = N - 1
          · subst t
            rcases hway with hw | hw <;> omega
          · rw [hcn s hs t]; exact a2
  · rw [el q1 (by have := (hE.2 s hs).2.1; by_cases t : s = N - 1; subst t; omega; rw [hcn s hs t] at a2; omega), el q2 (by have := (hE.2 s hs).2.1; by_cases t : s = N - 1; subst t; omega; rw [hcn s hs t] at a4; omega)] at a5
    rw [el q1 (by have := (hE.2 s hs).2.1; by_cases t : s = N - 1; subst t; omega; rw [hcn s hs t] at a2; omega)]
    by_cases h1 : q1 = p
    · by_cases h2 : q2 = p
      · exact Or.inr (h1.trans h2.symm)
      · rw [if_pos h1, if_neg h2] at a5
        have hs1 := inN s hs q1 a1 a2 h1
        subst hs1
        obtain ⟨o1, o2⟩ := old _ hs q2 a3 a4 h2
        exact absurd (uni q2 o1 o2 a5.symm) h2
    · by_cases h2 : q2 = p
      · rw [if_neg h1, if_pos h2] at a5
        have hs1 := inN s hs q2 a3 a4 h2
        subst hs1
        obtain ⟨o1, o2⟩ := old _ hs q1 a1 a2 h1
        exact absurd (uni q1 o1 o2 a5) h1
      · rw [if_neg h1, if_neg h2] at a5
        rw [if_neg h1]
        obtain ⟨o1, o2⟩ := old s hs q1 a1 a2 h1
        obtain ⟨o3, o4⟩ := old s hs q2 a3 a4 h2
        exact hu s hs q1 q2 o1 o2 o3 o4 a5
/-- a Value that is not written by ints of other cells -/
theorem cv_I {P : Nat → Prop} {c j : Nat} {y : Int32} (h : cv P G a v) (hca : c ≠ a) (hk : mj_k G c ≠ 22) : cv P (mj_pI G c j y) a v := by
  obtain ⟨h1, h2, h3, h4, h5, h6⟩ := h
  refine ⟨h1, by rw [z_iIn hca.symm]; exact h2, (z_iIn hca.symm).trans h3, fun q => (z_iIn hca.symm).trans (h4 q), fun q => ?_, h6⟩
  obtain ⟨b1, b2, b3, b4, b5, b6, b7, b8⟩ := h5 q
  exact ⟨(z_iIn hca.symm).trans b1, (z_iIn hca.symm).trans b2, b3, b4, b5, b6, b7, fun i hi => (z_iIn (fun e => hk (by rw [← e]; exact b6))).trans (b8 i hi)⟩
def sW (fr : Nat → Nat) (N o : Nat) : Prop := o = 11 ∨ (67 ≤ o ∧ o ≤ 706) ∨ o = 707 + 4 * fr (N - 1)
theorem sW_im {fr : Nat → Nat} {o : Nat} (hf : fr (N - 1) < 200) (h : sW fr N o) : ¬ im_o o := by
  unfold sW at h
  unfold im_o
  omega
/-- a variable's cell is kept anew: what that leaves -/
theorem c_kp {K : mj_G → Prop} (h : hh ρ D I G) (hp : p < 320) (hv : rv_ok v) (hab : a ≠ 67 + 2 * p) (hb : cv P G a v) (hK : ∀ ρ' G', hh ρ' D I G' → ro_e ρ ρ' G → fw ρ (fun q => q = 67 + 2 * p) G G' → mj_i G' (67 + 2 * p) 6 = mj_i G (67 + 2 * p) 6 → cv (vP ρ' p) G' (67 + 2 * p) v → K G') : Va_keep (d + 1) (67 + 2 * p) a G K := by
  have hk := cs_g13 h.1 hp
  have ho : ow ρ (67 + 2 * p) = 67 + 2 * p := ow_s (by omega)
  refine c_keep h (vm_s h.1 (Or.inl ⟨by omega, by omega, by omega⟩) hk) (Or.inl ⟨p, hp, rfl, rfl⟩) hv hab hb (fun ρ' G' h' e' F' l' c' => hK ρ' G' h' e' (fw_m F' (fun q r => by rw [ho] at r; exact r)) l' (cv_m c' (fun c q => ?_)))
  unfold vP
  rw [ho] at q
  exact q
theorem c_set {K : Bool → mj_G → Prop} (hL : ∀ s l v, V s l = some v → l < 26) (h : hh ρ D I G) (hE : ce ρ D G N B V fr b cn) (hu : cu G N b cn) (hF : cF G N fr b cn top) (hl : l < 26) (hvin : rv_in D v) (ha : cv P G a v) (han : ¬ (67 ≤ a ∧ a ≤ 706)) (hroom : b (N - 1) + cn (N - 1) < 320)
    (hK : ∀ ρ' G' cn', hh ρ' D I G' → ro_e ρ ρ' G → fw ρ (sW fr N) G G' → ce ρ' D G' N B (e_st V (N - 1) l v) fr b cn' → cu G' N b cn' → cF G' N fr b cn' top → (∀ s, s ≠ N - 1 → cn' s = cn s) → cn' (N - 1) ≤ cn (N - 1) + 1 → (∀ j, j ≠ 6 → mj_i G' (707 + 4 * fr (N - 1)) j = mj_i G (707 + 4 * fr (N - 1)) j) → (∀ j, mj_r G' (707 + 4 * fr (N - 1)) j = mj_r G (707 + 4 * fr (N - 1)) j) → (∀ x, 1768 ≤ x → x < mj_n G → ¬ (67 ≤ ρ x ∧ ρ x ≤ 706) → (∀ j, mj_r G' x j = mj_r G x j) ∧ ∀ j, mj_i G' x j = mj_i G x j) → K true G') : St_set (d + 2) (nI l) a G K := by
  obtain ⟨hN, htop, h11, h3, hfl⟩ := hF
  have hG := hh_n h
  obtain ⟨g1, g2, g3, g4, g5, g6, g7, g8⟩ := hE.2 (N - 1) (by omega)
  have hak := ha.1
  have frl : ∀ s, s < N → fr s < 200 := fun s hs => (hE.2 s hs).1
  have fri : ∀ s, s < N → fr s = fr (N - 1) → s = N - 1 := fun s hs e => by
    by_cases q : s = N - 1
    · exact q
    · have := ((hE.2 (N - 1) (by omega)).2.2.1 s (by omega)).1
      omega
  refine w_St_set h.1 ?_
  rw [h11]
  refine z_bt (by rw [z_le (by decide) (by omega)]; exact Nat.zero_le _) (z_ixi htop (by decide) ?_)
  rw [h3]
  refine z_ixi g1 (by decide) (c_placeIn h hE (by omega) hl (fun hV => z_bt rfl ?_) (fun p hp1 hp2 hp3 => z_bf (fun q => ?_) (z_ixi (by omega) (by decide) ?_)))
  · -- a new one
    rw [hfl, z_lt (by omega) (by decide)]
    refine z_bt hroom (z_ixi hroom (by decide) ?_)
    have hp : b (N - 1) + cn (N - 1) < 320 := hroom
    have ev6 : 67 + 2 * (b (N - 1) + cn (N - 1)) ≠ 11 := by omega
    have ef6 : 67 + 2 * (b (N - 1) + cn (N - 1)) ≠ 707 + 4 * fr (N - 1) := by omega
    have k67 := cs_g13 h.1 hp
    have k11 : mj_k G 11 = 10 := cs_k h.1 rfl
    have kfr := cs_g14 h.1 g1
    rintro _ rfl
    rintro _ rfl
    rw [show mj_i (mj_pI G (67 + 2 * (b (N - 1) + cn (N - 1))) 6 (nI l)) 11 2 = nI (b (N - 1) + cn (N - 1)) from (z_iIn ev6.symm).trans hfl, z_add]
    refine ⟨kfr, ?_⟩
    rintro _ rfl
    rw [show mj_i (mj_pI (mj_pI G (67 + 2 * (b (N - 1) + cn (N - 1))) 6 (nI l)) 11 2 (nI (b (N - 1) + cn (N - 1) + 1))) (707 + 4 * fr (N - 1)) 6 = nI (cn (N - 1)) from (z_iIn (by omega)).trans ((z_iIn ef6.symm).trans g6), z_add]
    refine z_ixi hroom (by decide) ?_
    have hna : ∀ x, x = 11 ∨ (67 ≤ x ∧ x ≤ 706) ∨ x = 707 + 4 * fr (N - 1) → ¬ imm ρ x := fun x q => by
      unfold imm
      rw [ow_s (by omega)]
      unfold im_o
      omega
    have a1 := hh_I (a := 67 + 2 * (b (N - 1) + cn (N - 1))) (j := 6) (z := nI l) h (hna _ (by omega)) (fun q => absurd q (by decide))
    have f1 : fw ρ (sW fr N) G (mj_pI G (67 + 2 * (b (N - 1) + cn (N - 1))) 6 (nI l)) := fw_I (by rw [ow_s (by omega)]; unfold sW; omega)
    have a2 := hh_I (a := 11) (j := 2) (z := nI (b (N - 1) + cn (N - 1) + 1)) a1 (hna _ (by omega)) (fun _ q => absurd (k11.symm.trans q) (by decide))
    have f2 : fw ρ (sW fr N) (mj_pI G (67 + 2 * (b (N - 1) + cn (N - 1))) 6 (nI l)) (mj_pI (mj_pI G (67 + 2 * (b (N - 1) + cn (N - 1))) 6 (nI l)) 11 2 (nI (b (N - 1) + cn (N - 1) + 1))) := fw_I (by rw [ow_s (by decide)]; unfold sW; omega)
    have a3 := hh_I (a := 707 + 4 * fr (N - 1)) (j := 6) (z := nI (cn (N - 1) + 1)) a2 (hna _ (by omega)) (fun q => absurd q (by decide))
    have f3 : fw ρ (sW fr N) (mj_pI (mj_pI G (67 + 2 * (b (N - 1) + cn (N - 1))) 6 (nI l)) 11 2 (nI (b (N - 1) + cn (N - 1) + 1))) (mj_pI (mj_pI (mj_pI G (67 + 2 * (b (N - 1) + cn (N - 1))) 6 (nI l)) 11 2 (nI (b (N - 1) + cn (N - 1) + 1))) (707 + 4 * fr (N - 1)) 6 (nI (cn (N - 1) + 1))) := fw_I (by rw [ow_s (by omega)]; unfold sW; omega)
    have c3 := cv_I (c := 707 + 4 * fr (N - 1)) (j := 6) (y := nI (cn (N - 1) + 1)) (cv_I (c := 11) (j := 2) (y := nI (b (N - 1) + cn (N - 1) + 1)) (cv_I (c := 67 + 2 * (b (N - 1) + cn (N - 1))) (j := 6) (y := nI l) ha (by omega) (by rw [k67]; decide)) (z_kne k11 hak (by decide)) (by rw [show mj_k (mj_pI G (67 + 2 * (b (N - 1) + cn (N - 1))) 6 (nI l)) 11 = mj_k G 11 from rfl, k11]; decide)) (z_kne kfr hak (by decide)) (show mj_k G (707 + 4 * fr (N - 1)) ≠ 22 by rw [kfr]; decide)
    have cvq : ∀ q w, q < 320 → q ≠ b (N - 1) + cn (N - 1) → cv (vP ρ q) G (67 + 2 * q) w → cv (vP ρ q) (mj_pI (mj_pI (mj_pI G (67 + 2 * (b (N - 1) + cn (N - 1))) 6 (nI l)) 11 2 (nI (b (N - 1) + cn (N - 1) + 1))) (707 + 4 * fr (N - 1)) 6 (nI (cn (N - 1) + 1))) (67 + 2 * q) w := fun q w hq hne c => cv_I (cv_I (cv_I c (by omega) (by rw [k67]; decide)) (by omega) (show mj_k G 11 ≠ 22 by rw [k11]; decide)) (by omega) (show mj_k G (707 + 4 * fr (N - 1)) ≠ 22 by rw [kfr]; decide)
    have el3 : ∀ q, q < 320 → mj_i (mj_pI (mj_pI (mj_pI G (67 + 2 * (b (N - 1) + cn (N - 1))) 6 (nI l)) 11 2 (nI (b (N - 1) + cn (N - 1) + 1))) (707 + 4 * fr (N - 1)) 6 (nI (cn (N - 1) + 1))) (67 + 2 * q) 6 = if q = b (N - 1) + cn (N - 1) then nI l else mj_i G (67 + 2 * q) 6 := fun q hq => by
      refine (z_iIn (by omega)).trans ((z_iIn (by omega)).trans ?_)
      by_cases e : q = b (N - 1) + cn (N - 1)
      · rw [if_pos e, e, z_iIs]
      · rw [if_neg e, z_iIn (by omega)]
    have ef3 : ∀ s j, s < 200 → j ≠ 6 → mj_i (mj_pI (mj_pI (mj_pI G (67 + 2 * (b (N - 1) + cn (N - 1))) 6 (nI l)) 11 2 (nI (b (N - 1) + cn (N - 1) + 1))) (707 + 4 * fr (N - 1)) 6 (nI (cn (N - 1) + 1))) (707 + 4 * s) j = mj_i G (707 + 4 * s) j := fun s j hs hj => by
      by_cases e : s = fr (N - 1)
      · rw [e]
        exact (z_iIm hj).trans ((z_iIn (by omega)).trans (z_iIn (by omega)))
      · exact (z_iIn (by omega)).trans ((z_iIn (by omega)).trans (z_iIn (by omega)))
    have eg3 : ∀ s, s < 200 → s ≠ fr (N - 1) → mj_i (mj_pI (mj_pI (mj_pI G (67 + 2 * (b (N - 1) + cn (N - 1))) 6 (nI l)) 11 2 (nI (b (N - 1) + cn (N - 1) + 1))) (707 + 4 * fr (N - 1)) 6 (nI (cn (N - 1) + 1))) (707 + 4 * s) 6 = mj_i G (707 + 4 * s) 6 := fun s hs hne => (z_iIn (by omega)).trans ((z_iIn (by omega)).trans (z_iIn (by omega)))
    have eh3 : mj_i (mj_pI (mj_pI (mj_pI G (67 + 2 * (b (N - 1) + cn (N - 1))) 6 (nI l)) 11 2 (nI (b (N - 1) + cn (N - 1) + 1))) (707 + 4 * fr (N - 1)) 6 (nI (cn (N - 1) + 1))) (707 + 4 * fr (N - 1)) 6 = nI (cn (N - 1) + 1) := z_iIs
    have e11 : mj_i (mj_pI (mj_pI (mj_pI G (67 + 2 * (b (N - 1) + cn (N - 1))) 6 (nI l)) 11 2 (nI (b (N - 1) + cn (N - 1) + 1))) (707 + 4 * fr (N - 1)) 6 (nI (cn (N - 1) + 1))) 11 4 = nI top := (z_iIn (by omega)).trans ((z_iIm (by decide)).trans ((z_iIn (by omega)).trans h11))
    have e12 : mj_i (mj_pI (mj_pI (mj_pI G (67 + 2 * (b (N - 1) + cn (N - 1))) 6 (nI l)) 11 2 (nI (b (N - 1) + cn (N - 1) + 1))) (707 + 4 * fr (N - 1)) 6 (nI (cn (N - 1) + 1))) 11 2 = nI (b (N - 1) + cn (N - 1) + 1) := (z_iIn (by omega)).trans z_iIs
    have er3 : ∀ x j, mj_r (mj_pI (mj_pI (mj_pI G (67 + 2 * (b (N - 1) + cn (N - 1))) 6 (nI l)) 11 2 (nI (b (N - 1) + cn (N - 1) + 1))) (707 + 4 * fr (N - 1)) 6 (nI (cn (N - 1) + 1))) x j = mj_r G x j := fun _ _ => rfl
    have eb3 : ∀ x j, 1768 ≤ x → mj_i (mj_pI (mj_pI (mj_pI G (67 + 2 * (b (N - 1) + cn (N - 1))) 6 (nI l)) 11 2 (nI (b (N - 1) + cn (N - 1) + 1))) (707 + 4 * fr (N - 1)) 6 (nI (cn (N - 1) + 1))) x j = mj_i G x j := fun x j hx => (z_iIn (by omega)).trans ((z_iIn (by omega)).trans (z_iIn (by omega)))
    have F3 := fw_t f1 ro_r (fw_t f2 ro_r f3)
    generalize mj_pI (mj_pI (mj_pI G (67 + 2 * (b (N - 1) + cn (N - 1))) 6 (nI l)) 11 2 (nI (b (N - 1) + cn (N - 1) + 1))) (707 + 4 * fr (N - 1)) 6 (nI (cn (N - 1) + 1)) = G3 at a3 c3 cvq el3 ef3 eg3 eh3 e11 e12 er3 eb3 F3 ⊢
    refine c_kp a3 hroom hvin.1 (by omega) c3 (fun ρ' G4 h4 e4 F4 l4 c4 => ?_)
    have hG3 := hh_n a3
    have st : ∀ x j, x < 1768 → x ≠ 67 + 2 * (b (N - 1) + cn (N - 1)) → mj_i G4 x j = mj_i G3 x j := fun x j hx hne => ce_i a3 F4 hx hne
    have cne : ∀ s, s < N → s ≠ N - 1 → (if s = N - 1 then cn s + 1 else cn s) = cn s := fun s _ q => if_neg q
    have cN : (if N - 1 = N - 1 then cn (N - 1) + 1 else cn (N - 1)) = cn (N - 1) + 1 := if_pos rfl
    have e45 : ∀ s, s < N → mj_i G4 (707 + 4 * fr s) 4 = mj_i G (707 + 4 * fr s) 4 ∧ mj_i G4 (707 + 4 * fr s) 5 = mj_i G (707 + 4 * fr s) 5 ∧ mj_i G4 (707 + 4 * fr s) 6 = nI (if s = N - 1 then cn s + 1 else cn s) := fun s hs => by
      have fl := frl s hs
      refine ⟨(st _ _ (by omega) (by omega)).trans (ef3 _ _ fl (by decide)), (st _ _ (by omega) (by omega)).trans (ef3 _ _ fl (by decide)), (st _ _ (by omega) (by omega)).trans ?_⟩
      by_cases e : s = N - 1
      · rw [if_pos e, e]; exact eh3
      · rw [if_neg e, eg3 _ fl (fun r => e (fri s hs r))]
        exact (hE.2 s hs).2.2.2.2.2.1
    have el4 : ∀ q, q < 320 → mj_i G4 (67 + 2 * q) 6 = if q = b (N - 1) + cn (N - 1) then nI l else mj_i G (67 + 2 * q) 6 := fun q hq => by
      by_cases e : q = b (N - 1) + cn (N - 1)
      · rw [if_pos e, e, l4, el3 _ hroom, if_pos rfl]
      · rw [if_neg e, st _ _ (by omega) (by omega), el3 _ hq, if_neg e]
    have ev4 : ∀ q w, q < 320 → q ≠ b (N - 1) + cn (N - 1) → rv_ok w → cv (vP ρ q) G (67 + 2 * q) w → cv (vP ρ' q) G4 (67 + 2 * q) w := fun q w hq hne ow' cw => by
      refine cv_fw (cvq q w hq hne cw) ow' a3.2.2.2 F4 (fun x r => by rw [r]; unfold im_o; omega) hG3 (by omega) (by rw [ow_s (by omega)]; omega) (fun c hc r => ⟨by rw [r.1]; omega, ?_⟩)
      unfold vP at r ⊢
      rw [ro_ow e4 hc]
      exact r
    obtain ⟨u1, u2⟩ := ce_up (ρ' := ρ') (G' := G4) (cn' := fun s => if s = N - 1 then cn s + 1 else cn s) (p := b (N - 1) + cn (N - 1)) hL hE hu hN hl hvin (Nat.le_add_right _ _) (by show _ < b (N - 1) + (if N - 1 = N - 1 then cn (N - 1) + 1 else cn (N - 1)); rw [cN]; omega) (by show b (N - 1) + (if N - 1 = N - 1 then cn (N - 1) + 1 else cn (N - 1)) ≤ 320; rw [cN]; omega) cne (Or.inr ⟨cN, rfl, hV⟩) e45 el4 ev4 c4
    refine hK ρ' G4 _ h4 (fun x q => e4 x (Nat.lt_of_lt_of_le q F3.1)) (fw_t F3 ro_r (fw_m F4 (fun x q => by rw [q]; unfold sW; omega))) u1 u2 ⟨hN, htop, (st _ _ (by decide) (by omega)).trans e11, (st _ _ (by omega) (by omega)).trans ((ef3 _ _ htop (by decide)).trans h3), ?_⟩ (fun s q => if_neg q) (by show (if N - 1 = N - 1 then cn (N - 1) + 1 else cn (N - 1)) ≤ _; rw [cN]; exact Nat.le_refl _) (fun j hj => (st _ _ (by omega) (by omega)).trans (ef3 _ _ g1 hj)) (fun j => ?_) (fun x hx hxn ho => ?_)
    · show _ = nI (b (N - 1) + (if N - 1 = N - 1 then cn (N - 1) + 1 else cn (N - 1)))
      rw [cN]
      exact (st _ _ (by decide) (by omega)).trans (e12.trans (by rw [Nat.add_assoc]))
    · exact (((F4.2.2.2 _ (by omega)).2.2 (by rw [ow_s (by omega)]; omega)).1 j).trans (er3 _ _)
    · have q := (F4.2.2.2 x (Nat.lt_of_lt_of_le hxn F3.1)).2.2 (by rw [ow_d hx]; omega)
      exact ⟨fun j => (q.1 j).trans (er3 x j), fun j => (q.2 j).trans (eb3 x j hx)⟩
  · rw [← sh_s, sh_n (by omega)] at q
    omega
  · -- one that stands
    have hp : p < 320 := by omega
    refine c_kp h hp hvin.1 (by omega) ha (fun ρ' G4 h4 e4 F4 l4 c4 => ?_)
    have st : ∀ x j, x < 1768 → x ≠ 67 + 2 * p → mj_i G4 x j = mj_i G x j := fun x j hx hne => ce_i h F4 hx hne
    have e45 : ∀ s, s < N → mj_i G4 (707 + 4 * fr s) 4 = mj_i G (707 + 4 * fr s) 4 ∧ mj_i G4 (707 + 4 * fr s) 5 = mj_i G (707 + 4 * fr s) 5 ∧ mj_i G4 (707 + 4 * fr s) 6 = nI (cn s) := fun s hs => by
      have fl := frl s hs
      exact ⟨st _ _ (by omega) (by omega), st _ _ (by omega) (by omega), (st _ _ (by omega) (by omega)).trans (hE.2 s hs).2.2.2.2.2.1⟩
    have el4 : ∀ q, q < 320 → mj_i G4 (67 + 2 * q) 6 = if q = p then nI l else mj_i G (67 + 2 * q) 6 := fun q hq => by
      by_cases e : q = p
      · rw [if_pos e, e, l4]; exact hp3
      · rw [if_neg e, st _ _ (by omega) (by omega)]
    have ev4 : ∀ q w, q < 320 → q ≠ p → rv_ok w → cv (vP ρ q) G (67 + 2 * q) w → cv (vP ρ' q) G4 (67 + 2 * q) w := fun q w hq hne ow' cw => by
      refine cv_fw cw ow' h.2.2.2 F4 (fun x r => by rw [r]; unfold im_o; omega) hG (by omega) (by rw [ow_s (by omega)]; omega) (fun c hc r => ⟨by rw [r.1]; omega, ?_⟩)
      unfold vP at r ⊢
      rw [ro_ow e4 hc]
      exact r
    obtain ⟨u1, u2⟩ := ce_up (ρ' := ρ') (G' := G4) (cn' := cn) (p := p) hL hE hu hN hl hvin hp1 hp2 g2 (fun _ _ _ => rfl) (Or.inl ⟨rfl, hp3⟩) e45 el4 ev4 c4
    exact hK ρ' G4 cn h4 e4 (fw_m F4 (fun x q => by rw [q]; unfold sW; omega)) u1 u2 ⟨hN, htop, (st _ _ (by decide) (by omega)).trans h11, (st _ _ (by omega) (by omega)).trans h3, (st _ _ (by decide) (by omega)).trans hfl⟩ (fun _ _ => rfl) (Nat.le_succ _) (fun j _ => st _ _ (by omega) (by omega)) (fun j => ((F4.2.2.2 _ (by omega)).2.2 (by rw [ow_s (by omega)]; omega)).1 j) (fun x hx hxn ho => (F4.2.2.2 x hxn).2.2 (by rw [ow_d hx]; omega))
end SC
