/-! RENDERING: the class's scopes, one more and one less -/
section CX
variable {ρ ρ' : Nat → Nat} {D : Nat → rv} {I : Nat → Nat → rv} {G G' : mj_G} {N M top x bN fN : Nat} {B S fr b cn : Nat → Nat} {V : Nat → Nat → Option rv} {W : Nat → Prop} {ra rd : Nat → Int32}
/-- frames of scopes and variables that are not written -/
theorem ce_w (h : hh ρ D I G) (hE : ce ρ D G N B V fr b cn) (F : fw ρ W G G') (he : ro_e ρ ρ' G) (hW : ∀ o, W o → ¬ im_o o ∧ ¬ (67 ≤ o ∧ o ≤ 706)) (hf : ∀ s, s < N → ¬ W (707 + 4 * fr s)) : ce ρ' D G' N B V fr b cn := by
  refine ⟨hE.1, fun s hs => ?_⟩
  obtain ⟨h1, h2, h3, h4, h5, h6, h7, h8⟩ := hE.2 s hs
  have e : ∀ j, mj_i G' (707 + 4 * fr s) j = mj_i G (707 + 4 * fr s) j := fun j => ce_i h F (by omega) (hf s hs)
  have ev : ∀ p j, p < 320 → mj_i G' (67 + 2 * p) j = mj_i G (67 + 2 * p) j := fun p j hp => ce_i h F (by omega) (fun q => (hW _ q).2 (by omega))
  refine ⟨h1, h2, h3, (e 4).trans h4, (e 5).trans h5, (e 6).trans h6, fun p p1 p2 => ?_, fun l v q => ?_⟩
  · rcases h7 p p1 p2 with g | ⟨l, v, g1, g2, g3, g4, g5⟩
    · exact Or.inl ((ev p 6 (by omega)).trans g)
    · exact Or.inr ⟨l, v, g1, (ev p 6 (by omega)).trans g2, g3, ce_cv h F he hW (by omega) g5.1 g4, g5⟩
  · obtain ⟨p, p1, p2, p3⟩ := h8 l v q
    exact ⟨p, p1, p2, (ev p 6 (by omega)).trans p3⟩
theorem cu_w (h : hh ρ D I G) (hE : ce ρ D G N B V fr b cn) (hu : cu G N b cn) (F : fw ρ W G G') (hW : ∀ o, W o → ¬ (67 ≤ o ∧ o ≤ 706)) : cu G' N b cn := fun s hs p q p1 p2 q1 q2 e => by
  have hl := (hE.2 s hs).2.1
  have ev : ∀ p, p < 320 → mj_i G' (67 + 2 * p) 6 = mj_i G (67 + 2 * p) 6 := fun p hp => ce_i h F (by omega) (fun q => hW _ q (by omega))
  rw [ev p (by omega), ev q (by omega)] at e
  rw [ev p (by omega)]
  exact hu s hs p q p1 p2 q1 q2 e
theorem sf_x {y : Nat} (hy : y ≤ N) : sf (e_bh fr N fN) y = sf fr y := by
  unfold sf e_bh
  by_cases h : y = 0
  · rw [if_pos h, if_pos h]
  · rw [if_neg h, if_neg h, if_neg (by omega)]
/-- one scope more, that has no variable yet -/
theorem ce_ext (hE : ce ρ D G N B V fr b cn) (hB : ∀ s, B s ≤ s) (hN : N < 200) (hVN : ∀ l, V N l = none) (hfN : fN < 200) (hfr : ∀ s, s < N → fr s < fN) (hb : ∀ s, s < N → b s + cn s ≤ bN) (hbN : bN ≤ 320) (hx : x ≤ N) (e4 : mj_i G (707 + 4 * fN) 4 = sf fr x) (e5 : mj_i G (707 + 4 * fN) 5 = nI bN) (e6 : mj_i G (707 + 4 * fN) 6 = nI 0) : ce ρ D G (N + 1) (e_bh B N x) V (e_bh fr N fN) (e_bh b N bN) (e_bh cn N 0) := by
  have nw : ∀ (u : Nat → Nat) y, e_bh u N y N = y := fun u y => if_pos rfl
  have od : ∀ (u : Nat → Nat) y s, s < N → e_bh u N y s = u s := fun u y s hs => if_neg (by omega)
  refine ⟨by omega, fun s hs => ?_⟩
  by_cases q : s = N
  · subst q
    rw [nw, nw, nw, nw]
    refine ⟨hfN, by omega, fun r hr => ?_, ?_, e5, e6, fun p p1 p2 => absurd p2 (by omega), fun l v g => ?_⟩
    · rw [od fr fN r hr, od b bN r hr, od cn 0 r hr]
      exact ⟨hfr r hr, hb r hr⟩
    · rw [e4, sf_x hx]
    · rw [hVN l] at g
      exact absurd g (by simp)
  · have hs' : s < N := by omega
    obtain ⟨h1, h2, h3, h4, h5, h6, h7, h8⟩ := hE.2 s hs'
    have hBs := hB s
    rw [od fr fN s hs', od b bN s hs', od cn 0 s hs', od B x s hs']
    refine ⟨h1, h2, fun r hr => ?_, ?_, h5, h6, h7, h8⟩
    · rw [od fr fN r (by omega), od b bN r (by omega), od cn 0 r (by omega)]
      exact h3 r hr
    · rw [h4, sf_x (by omega)]
theorem cu_ext (hu : cu G N b cn) : cu G (N + 1) (e_bh b N bN) (e_bh cn N 0) := fun s hs p q p1 p2 q1 q2 e => by
  unfold e_bh at p1 p2 q1 q2
  by_cases h : s = N
  · rw [if_pos h] at p1 p2
    rw [if_pos h] at p2
    omega
  · rw [if_neg h] at p1 p2 q1 q2
    rw [if_neg h] at p2 q2
    exact hu s (by omega) p q p1 p2 q1 q2 e
/-- one scope less -/
theorem ce_cut (hE : ce ρ D G (N + 1) B V fr b cn) : ce ρ D G N B (e_rm V N) fr b cn := by
  refine ⟨by have := hE.1; omega, fun s hs => ?_⟩
  obtain ⟨h1, h2, h3, h4, h5, h6, h7, h8⟩ := hE.2 s (by omega)
  refine ⟨h1, h2, h3, h4, h5, h6, fun p p1 p2 => ?_, fun l v q => ?_⟩
  · rcases h7 p p1 p2 with g | ⟨l, v, g1, g2, g3, g4, g5⟩
    · exact Or.inl g
    · exact Or.inr ⟨l, v, g1, g2, (if_pos hs).trans g3, g4, g5⟩
  · have q' : (if s < N then V s l else none) = some v := q
    rw [if_pos hs] at q'
    exact h8 l v q'
theorem cu_cut (hu : cu G (N + 1) b cn) : cu G N b cn := fun s hs => hu s (by omega)
/-- the chain of kept fragments, where no frame of it is written -/
theorem ck_w {top' : Nat} (h : hh ρ D I G) (hk : ck G N M S fr top ra rd) (hfr : ∀ s, s < N → fr s < 200) (F : fw ρ W G G') (hf : ∀ k, k < M → ¬ W (707 + 4 * fr (S k)) ∧ ¬ W (707 + 4 * (fr (S k) - 1))) (ht : top' < 200) (h11 : mj_i G' 11 4 = nI top') (hkt : mj_i G' (707 + 4 * top') 11 = kc fr S M) : ck G' N M S fr top' ra rd := by
  obtain ⟨h1, -, -, -, h5⟩ := hk
  refine ⟨h1, ht, h11, hkt, fun k hk => ?_⟩
  obtain ⟨g1, g2, g3, g4, g5, g6⟩ := h5 k hk
  obtain ⟨f1, f2⟩ := hf k hk
  have := hfr _ g1
  exact ⟨g1, g2, g3, (ce_i h F (by omega) f2).trans g4, (ce_i h F (by omega) f1).trans g5, (ce_i h F (by omega) f1).trans g6⟩
end CX
