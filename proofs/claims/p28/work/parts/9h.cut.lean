/-! RENDERING: frames opened and cut; kept fragments spoilt -/
/-- a frame that is opened -/
def pFO (G G' : mj_G) (top op : Nat) (kd : Int32) (r2 r3 : Nat) : Prop := mj_i G' 11 4 = nI (top + 1) ∧ mj_i G' 11 2 = mj_i G 11 2 ∧ (∀ j, j = 7 ∨ j = 10 ∨ j = 11 → mj_i G' (707 + 4 * (top + 1)) j = mj_i G (707 + 4 * top) j) ∧ mj_i G' (707 + 4 * (top + 1)) 0 = kd ∧ mj_i G' (707 + 4 * (top + 1)) 3 = nI (top + 1) ∧ mj_i G' (707 + 4 * (top + 1)) 4 = mj_i G (707 + 4 * top) 3 ∧ mj_i G' (707 + 4 * (top + 1)) 5 = mj_i G 11 2 ∧ mj_i G' (707 + 4 * (top + 1)) 6 = nI 0 ∧ mj_i G' (707 + 4 * (top + 1)) 12 = nI (op + 1) ∧ (∀ j, j ≠ 0 → ¬ (3 ≤ j ∧ j ≤ 7) → ¬ (10 ≤ j ∧ j ≤ 12) → mj_i G' (707 + 4 * (top + 1)) j = mj_i G (707 + 4 * (top + 1)) j) ∧ mj_r G' (707 + 4 * (top + 1)) 1 = r2 ∧ mj_r G' (707 + 4 * (top + 1)) 2 = r3 ∧ (∀ j, j ≠ 1 → j ≠ 2 → mj_r G' (707 + 4 * (top + 1)) j = mj_r G (707 + 4 * (top + 1)) j) ∧ mj_n G' = mj_n G
section CU
variable {ρ : Nat → Nat} {D : Nat → rv} {I : Nat → Nat → rv} {G : mj_G} {N M d top op r1 r2 : Nat} {B S fr b cn : Nat → Nat} {V : Nat → Nat → Option rv} {ra rd : Nat → Int32}
theorem c_open {K : Nat → mj_G → Prop} (h : hh ρ D I G) (h11 : mj_i G 11 4 = nI top) (ht : top < 199) (hop : mj_i G (707 + 4 * top) 12 = nI op) (hop2 : op ≤ 12) (hr1 : mj_k G r1 = 6) (h1 : op < 12 → ∀ G', hh ρ D I G' → fw ρ (pW top) G G' → pFO G G' top op (mj_i G r1 0) r1 r2 → K (707 + 4 * (top + 1)) G') (h2 : op = 12 → K 0 G) : St_open (d + 2) r1 r2 G K := by
  have n2 : 11 ≠ 707 + 4 * (top + 1) := by omega
  refine w_St_open h.1 ?_
  rw [h11, z_lt (by omega) (by decide)]
  refine z_bf (by omega) (z_ixi (by omega) (by decide) ?_)
  rw [hop, z_lt (by omega) (by decide)]
  refine z_br (fun q => ⟨hr1, c_pushScope h h11 ht (fun G1 k1 F1 p1 => z_bf (by omega) ⟨cs_g14 k1.1 (by omega), ?_⟩)⟩) (fun q => h2 (by omega))
  obtain ⟨b1, b2, b3, b4, b5, b6, b7, b8, b9, c1, c2, c3, c4⟩ := p1
  intro G2 e2
  rw [b3 12 (by decide), hop, z_add] at e2
  have s2 := pS_s (pS_0 (top := top) k1) ht e2
  clear e2
  obtain ⟨k2, F2, u2, o2, r2', m2⟩ := s2
  refine h1 q G2 k2 (fw_t F1 ro_r F2) ⟨(o2 _ _ n2).trans b1, (o2 _ _ n2).trans b2, fun j hj => ?_, ?_, ?_, ?_, ?_, ?_, ?_, fun j x1 x2 x3 => ?_, (r2' _ _).trans c1, (r2' _ _).trans c2, fun j x1 x2 => (r2' _ _).trans (c3 j x1 x2), m2.trans c4⟩
  · rw [u2]; exact (pU_n (by omega)).trans (b3 j (by omega))
  · rw [u2]; exact (pU_n (by decide)).trans b4
  · rw [u2]; exact (pU_n (by decide)).trans b5
  · rw [u2]; exact (pU_n (by decide)).trans b6
  · rw [u2]; exact (pU_n (by decide)).trans b7
  · rw [u2]; exact (pU_n (by decide)).trans b8
  · rw [u2]; exact pU_s
  · rw [u2]; exact (pU_n (by omega)).trans (b9 j x1 x2 x3)
/-- frames cut: fl i is how many variables there are once the i-th is off -/
theorem c_cut {K : mj_G → Prop} {at' : Nat} {fl : Nat → Int32} (h : hh ρ D I G) (h11 : mj_i G 11 4 = nI top) (ht : top < 200) (hat : at' ≤ top + 1) (hf0 : mj_i G 11 2 = fl (top + 1)) (hfl : ∀ i, at' ≤ i → i ≤ top → (mj_i G (707 + 4 * i) 3 = nI i → fl i = mj_i G (707 + 4 * i) 5) ∧ (¬ mj_i G (707 + 4 * i) 3 = nI i → fl i = fl (i + 1)))
    (hK : ∀ G', hh ρ D I G' → fw ρ (fun o => o = 11) G G' → mj_i G' 11 4 = sh at' → mj_i G' 11 2 = fl at' → (∀ j, j ≠ 2 → j ≠ 4 → mj_i G' 11 j = mj_i G 11 j) → (∀ x j, x ≠ 11 → mj_i G' x j = mj_i G x j) → (∀ x j, mj_r G' x j = mj_r G x j) → K G') : St_cut d (nI at') G K := by
  have wI : ∀ {j y} {G1 : mj_G}, hh ρ D I G1 → hh ρ D I (mj_pI G1 11 j y) ∧ fw ρ (fun o => o = 11) G1 (mj_pI G1 11 j y) := fun {j y} {G1} h1 => by
    have hk : mj_k G1 11 ≠ 12 := by rw [cs_k (K := 10) h1.1 rfl]; decide
    exact ⟨hh_I h1 (by unfold imm; rw [ow_s (by decide)]; unfold im_o; omega) (fun _ q => absurd q hk), fw_I (ow_s (by decide))⟩
  have go : ∀ m i G1, at' + m = i → i ≤ top + 1 → hh ρ D I G1 → fw ρ (fun o => o = 11) G G1 → mj_i G1 11 2 = fl i → (∀ j, j ≠ 2 → j ≠ 4 → mj_i G1 11 j = mj_i G 11 j) → (∀ x j, x ≠ 11 → mj_i G1 x j = mj_i G x j) → (∀ x j, mj_r G1 x j = mj_r G x j) → St_cut_5 d (nI at') (sh i) G1 K := fun m => by
    induction m with
    | zero =>
      intro i G1 hi hi2 h1 F1 e1 e2 e3 e4
      have hia : i = at' := by omega
      subst hia
      refine w_St_cut_5 h1.1 (z_bt ?_ ?_)
      · by_cases q : i = 0
        · rw [q, sh_0]; decide
        · obtain ⟨j, rfl⟩ : ∃ j, i = j + 1 := ⟨i - 1, by omega⟩
          rw [sh_s, z_lt (by omega) (by omega)]; omega
      · intro G2 eq2
        rw [sh_m] at eq2
        obtain ⟨h2, F2⟩ := wI (j := 4) (y := sh i) h1
        rw [← eq2] at h2 F2
        exact hK G2 h2 (fw_t F1 ro_r F2) (by rw [eq2, z_iIs]) (by rw [eq2, z_iIm (by decide)]; exact e1) (fun j x1 x2 => by rw [eq2, z_iIm x2]; exact e2 j x1 x2) (fun x j hx => by rw [eq2, z_iIn hx]; exact e3 x j hx) (fun x j => by rw [eq2]; exact e4 x j)
    | succ m ih =>
      intro i G1 hi hi2 h1 F1 e1 e2 e3 e4
      obtain ⟨j, rfl⟩ : ∃ j, i = j + 1 := ⟨i - 1, by omega⟩
      obtain ⟨f1, f2⟩ := hfl j (by omega) (by omega)
      have i3 : mj_i G1 (707 + 4 * j) 3 = mj_i G (707 + 4 * j) 3 := e3 _ _ (by omega)
      have i5 : mj_i G1 (707 + 4 * j) 5 = mj_i G (707 + 4 * j) 5 := e3 _ _ (by omega)
      refine w_St_cut_5 h1.1 ?_
      rw [sh_s, z_lt (by omega) (by omega), z_lt (by omega) (by decide)]
      refine z_bf (by omega) (z_bf (by omega) (z_ixi (by omega) (by decide) ?_))
      rw [i3, sh_p]
      refine z_br (fun q => z_ixi (by omega) (by decide) ?_) (fun q => ih j G1 (by omega) (by omega) h1 F1 (by rw [e1, ← f2 q]) e2 e3 e4)
      rw [i5]
      intro G2 eq2
      obtain ⟨h2, F2⟩ := wI (j := 2) (y := mj_i G (707 + 4 * j) 5) h1
      rw [← eq2] at h2 F2
      exact ih j G2 (by omega) (by omega) h2 (fw_t F1 ro_r F2) (by rw [eq2, z_iIs, f1 q]) (fun k x1 x2 => by rw [eq2, z_iIm x1]; exact e2 k x1 x2) (fun x k hx => by rw [eq2, z_iIn hx]; exact e3 x k hx) (fun x k => by rw [eq2]; exact e4 x k)
  refine w_St_cut h.1 ?_
  rw [h11, show nI top = sh (top + 1) from sh_s.symm]
  exact go (top + 1 - at') (top + 1) G (by omega) (Nat.le_refl _) h fw_r hf0 (fun _ _ _ => rfl) (fun _ _ _ => rfl) (fun _ _ => rfl)
/-- kept fragments that are open are spoilt -/
def nk (G G' : mj_G) : Prop := mj_n G' = mj_n G ∧ (∀ a j, mj_r G' a j = mj_r G a j) ∧ ∀ a j, (707 ≤ a ∧ a ≤ 1506 ∧ j = 21) ∨ mj_i G' a j = mj_i G a j
theorem c_spoil {K : mj_G → Prop} (h : hh ρ D I G) (hk : ck G N M S fr top ra rd) (hfr : ∀ s, s < N → fr s < 200)
    (hK : ∀ G', hh ρ D I G' → fw ρ fF G G' → nk G G' → (∀ k, k < M → mj_i G' (707 + 4 * fr (S k)) 21 = nI 0) → K G') : St_spoilKeeping d G K := by
  obtain ⟨hM12, htop, h11, hkt, hkk⟩ := hk
  have go : ∀ j i G1, j ≤ M → i + j = M → hh ρ D I G1 → fw ρ fF G G1 → nk G G1 → (∀ k, k < M → j ≤ k → mj_i G1 (707 + 4 * fr (S k)) 21 = nI 0) → St_spoilKeeping_26 d (kc fr S j) (nI i) G1 K := fun j => by
    induction j with
    | zero =>
      intro i G1 hj hi h1 F1 n1 g
      refine w_St_spoilKeeping_26 h1.1 (z_bf (by rw [z_le (by decide) (by omega)]; omega) (z_bt (by show Int32.ofInt (-1) ≤ nI 0; decide) (hK G1 h1 F1 n1 (fun k hk => g k hk (Nat.zero_le k)))))
    | succ j ih =>
      intro i G1 hj hi h1 F1 n1 g
      obtain ⟨g1, g2, g3, g4, g5, g6⟩ := hkk j (by omega)
      have hf := hfr _ g1
      refine w_St_spoilKeeping_26 h1.1 (z_bf (by rw [z_le (by decide) (by omega)]; omega) ?_)
      rw [show kc fr S (j + 1) = nI (fr (S j)) from rfl]
      refine z_bf (by rw [z_le (by omega) (by decide)]; omega) (z_ixi hf (by decide) ?_)
      intro G2 e2
      have hk5 : mj_k G1 (707 + 4 * fr (S j)) ≠ 12 := by rw [cs_g14 h1.1 hf]; decide
      have h2 := hh_I (a := 707 + 4 * fr (S j)) (j := 21) (z := nI 0) h1 (by unfold imm; rw [ow_s (by omega)]; unfold im_o; omega) (fun _ q => absurd q hk5)
      have F2 : fw ρ fF G1 (mj_pI G1 (707 + 4 * fr (S j)) 21 (nI 0)) := fw_I (by rw [ow_s (by omega)]; unfold fF; omega)
      rw [← e2] at h2 F2
      have n2 : nk G G2 := by
        refine ⟨by rw [e2]; exact n1.1, fun a i => by rw [e2]; exact n1.2.1 a i, fun a i => ?_⟩
        by_cases q : a = 707 + 4 * fr (S j) ∧ i = 21
        · exact Or.inl (by omega)
        · rcases n1.2.2 a i with q1 | q1
          · exact Or.inl q1
          · exact Or.inr (by rw [e2]; exact (if_neg q).trans q1)
      have e11 : mj_i G2 (707 + 4 * (fr (S j) - 1)) 11 = kc fr S j := by
        rcases n2.2.2 (707 + 4 * (fr (S j) - 1)) 11 with q | q
        · omega
        · exact q.trans g4
      have g' : ∀ k, k < M → j ≤ k → mj_i G2 (707 + 4 * fr (S k)) 21 = nI 0 := fun k hk hjk => by
        rw [e2]
        by_cases q : 707 + 4 * fr (S k) = 707 + 4 * fr (S j)
        · rw [q, z_iIs]
        · rw [z_iIn q]
          by_cases q1 : k = j
          · rw [q1] at q; exact absurd rfl q
          · exact g k hk (by omega)
      clear e2
      rw [z_sub (by omega)]
      refine z_ixi (by omega) (by decide) ?_
      rw [e11, z_add]
      exact ih (i + 1) G2 (by omega) (by omega) h2 (fw_t F1 ro_r F2) n2 g'
  refine w_St_spoilKeeping h.1 ?_
  rw [h11, z_lt (by omega) (by decide)]
  refine z_bf (by omega) (z_ixi htop (by decide) ?_)
  rw [hkt]
  exact go M 0 G (Nat.le_refl _) (by omega) h fw_r ⟨rfl, fun _ _ => rfl, fun _ _ => Or.inr rfl⟩ (fun k hk q => absurd q (by omega))
end CU
