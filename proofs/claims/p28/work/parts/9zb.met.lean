/-! TAGS, the class's half: what is met -/
/-- what meeting a node comes down to, by its kind -/
def mtD (d c r : Nat) (G : mj_G) (K : Int32 → mj_G → Prop) : Prop := (c = 1 → Nd_origin d r G (fun v3 G2 => Ou_putLiteral d (mj_i G r 5) v3 G2 (fun v5 G4 => K v5 G4))) ∧ (c = 35 → Rn_firstBlock d (nI 0) (mj_i G r 3) G (fun v7 G6 => Rn_openBody d r v7 G6 (fun v9 G8 => K v9 G8))) ∧ ((c = 37 ∨ c = 42 ∨ c = 61 ∨ c = 63 ∨ c = 116) → Rn_meetWithValue d r G (fun v G' => K v G')) ∧ (c = 43 → Rn_enterTry d r G (fun v G' => K v G')) ∧ (c = 64 → Rn_openInclude d r G (fun v G' => K v G')) ∧ (c = 94 → Rn_openUp d r G (fun v G' => K v G')) ∧ (c = 107 → Rn_meetFragment d r G (fun v G' => K v G')) ∧ (c = 126 → Rn_openCallersBody d r G (fun v G' => K v G')) ∧ (c = 45 → St_spoilKeeping d G (fun G30 => Ou_trim d G30 (fun G31 => K (nI 0) G31))) ∧ ((c = 33 ∨ c = 38) → Rn_openCall (d + 1) r G (fun v G' => K v G'))
section ZB
variable {u : wo} {ρ ρ' : Nat → Nat} {G G1 G' : mj_G} {W : Nat → Prop} {cur r nx p q m d t T l s : Nat} {e : Int32} {K : Int32 → mj_G → Prop} {v : rv} {N : Nat} {B : Nat → Nat} {M : Nat} {S : Nat → Nat} {lc : Nat} {ln : Nat → Nat} {op : Nat} {ch : List en} {V : Nat → Nat → Option rv} {o : ost} {ra rd : Nat → Int32} {sp : Nat → Bool} {st hts : Nat} {FG : Nat → kfr} {V' : Nat → Nat → Option rv} {o' : ost} {ra' rd' : Nat → Int32} {sp' : Nat → Bool} {st' hts' : Nat} {FG' : Nat → kfr} {fr b cn : Nat → Nat} {top la : Nat}
/-- a call is met -/
theorem lp_125 (hS : cs_S G) (hk : mj_k G r = 6) (hcl : mj_i G r 0 = nI 33 ∨ mj_i G r 0 = nI 38) (hm : Rn_openCall d r G (fun v G3 => (v = nI 0 → lp d K (t + 1) G3) ∧ (¬ v = nI 0 → lf d K t v G3))) : Rn_run_124 (d + 1) (nI t) r G K := by
  unfold lp lf at hm
  rw [← z_add] at hm
  have : (fun v25 G24 => mm_br (v25 = nI 0) (Rn_run_33 (d + 1) v25 (nI t + nI 1) G24 K) (Rn_rescue d v25 G24 (fun v27 G26 => Rn_run_33 (d + 1) v27 (nI t + nI 1) G26 K))) = (fun v G3 => (v = nI 0 → Rn_run_33 (d + 1) (nI 0) (nI t + nI 1) G3 K) ∧ (¬ v = nI 0 → Rn_rescue d v G3 (fun v G' => Rn_run_33 (d + 1) v (nI t + nI 1) G' K))) := by
    funext v G3
    unfold mm_br
    refine propext ⟨fun h => ⟨fun q => by have := h.1 q; rw [q] at this; exact this, h.2⟩, fun h => ⟨fun q => by rw [q]; exact h.1 q, h.2⟩⟩
  have hm' : Rn_openCall d r G (fun v25 G24 => mm_br (v25 = nI 0) (Rn_run_33 (d + 1) v25 (nI t + nI 1) G24 K) (Rn_rescue d v25 G24 (fun v27 G26 => Rn_run_33 (d + 1) v27 (nI t + nI 1) G26 K))) := by
    rw [this]
    exact hm
  refine w_Rn_run_124 hS (w_Rn_isCall hS ⟨hk, z_br (fun _ => z_bt rfl hm') (fun q => z_bt (hcl.resolve_left q) (z_bt rfl hm'))⟩)
theorem c_meet {c : Nat} (hS : cs_S G) (hk : mj_k G r = 6) (h0 : mj_i G r 0 = nI c) (hc : c < 200) (hcc : c = 1 ∨ (tx_T c ∧ ¬ c = 36 ∧ ¬ c = 33 ∧ ¬ c = 38)) (h : mtD d c r G K) : Rn_meet (d + 1) r G K := by
  have ne : ∀ k : Nat, k < 200 → ¬ c = k → ¬ mj_i G r 0 = nI k := fun k hk hn => by rw [h0, z_eq (by omega) (by omega)]; exact hn
  have eq : ∀ k : Nat, c = k → mj_i G r 0 = nI k := fun k hn => by rw [h0, hn]
  have hl : c = 1 ∨ c = 35 ∨ c = 37 ∨ c = 42 ∨ c = 43 ∨ c = 61 ∨ c = 63 ∨ c = 64 ∨ c = 94 ∨ c = 107 ∨ c = 116 ∨ c = 126 ∨ c = 45 := by
    clear h ne eq
    unfold tx_T at hcc
    omega
  have n36 : ¬ c = 36 := by
    clear h ne eq
    omega
  refine w_Rn_meet hS ⟨hk, ?_⟩
  by_cases c1 : c = 1
  · exact z_bt (eq _ c1) (h.1 c1)
  refine z_bf (ne _ (by decide) c1) ?_
  by_cases c2 : c = 35
  · exact z_bt (eq _ c2) (h.2.1 c2)
  refine z_bf (ne _ (by decide) c2) (z_bf (ne _ (by decide) n36) ?_)
  by_cases c3 : c = 37
  · exact z_bt (eq _ c3) (h.2.2.1 (by clear h ne eq; omega))
  refine z_bf (ne _ (by decide) c3) ?_
  by_cases c4 : c = 42
  · exact z_bt (eq _ c4) (h.2.2.1 (by clear h ne eq; omega))
  refine z_bf (ne _ (by decide) c4) ?_
  by_cases c5 : c = 43
  · exact z_bt (eq _ c5) (h.2.2.2.1 c5)
  refine z_bf (ne _ (by decide) c5) ?_
  by_cases c6 : c = 61
  · exact z_bt (eq _ c6) (h.2.2.1 (by clear h ne eq; omega))
  refine z_bf (ne _ (by decide) c6) ?_
  by_cases c7 : c = 63
  · exact z_bt (eq _ c7) (h.2.2.1 (by clear h ne eq; omega))
  refine z_bf (ne _ (by decide) c7) ?_
  by_cases c8 : c = 64
  · exact z_bt (eq _ c8) (h.2.2.2.2.1 c8)
  refine z_bf (ne _ (by decide) c8) ?_
  by_cases c9 : c = 94
  · exact z_bt (eq _ c9) (h.2.2.2.2.2.1 c9)
  refine z_bf (ne _ (by decide) c9) ?_
  by_cases c10 : c = 107
  · exact z_bt (eq _ c10) (h.2.2.2.2.2.2.1 c10)
  refine z_bf (ne _ (by decide) c10) ?_
  by_cases c11 : c = 116
  · exact z_bt (eq _ c11) (h.2.2.1 (by clear h ne eq; omega))
  refine z_bf (ne _ (by decide) c11) ?_
  by_cases c12 : c = 126
  · exact z_bt (eq _ c12) (h.2.2.2.2.2.2.2.1 c12)
  refine z_bf (ne _ (by decide) c12) (h.2.2.2.2.2.2.2.2.1 ?_)
  clear h ne eq
  omega
/-- a node: in A, of a template's tree, at a place -/
def nd (u : wo) (T r p c : Nat) : Prop := u_A u r ∧ r ≠ 0 ∧ mj_k (u_G u) r = 6 ∧ mj_i (u_G u) r 1 = nI T ∧ mj_i (u_G u) r 2 = nI p ∧ mj_i (u_G u) r 0 = nI c
/-- a node that is no macro: what the loop comes down to -/
theorem lp_meet {c : Nat} (hn : nd u T r p c) (hc : c < 200) (hcc : c = 1 ∨ (tx_T c ∧ ¬ c = 36)) (hC : CC u ρ G N B M S lc ln op ch V o ra rd sp st hts FG fr b cn top la) (hr : mj_r G (707 + 4 * top) 2 = r) (ht : t < 1000000)
    (h1 : st < u_bu u → ∀ G', CC u ρ G' N B M S lc ln op ch V o ra rd sp (st + 1) hts FG fr b cn top la → fw ρ bW G G' → FF ρ top (fr (N - 1)) G G' → mj_r G' (707 + 4 * top) 2 = mj_r (u_G u) r 10 → mj_k G' r = 6 → (∀ j, mj_r G' r j = mj_r (u_G u) r j) → (∀ j, mj_i G' r j = mj_i (u_G u) r j) → mtD d c r G' (fun v G3 => (v = nI 0 → lp (d + 1) K (t + 1) G3) ∧ (¬ v = nI 0 → lf (d + 1) K t v G3)))
    (h2 : st = u_bu u → ∀ G', CC u ρ G' N B M S lc ln op ch V o ra rd sp st hts FG fr b cn top la → fw ρ bW G G' → FF ρ top (fr (N - 1)) G G' → lf (d + 1) K t (Int32.ofInt (-9)) G') : lp (d + 1) K t G := by
  obtain ⟨n1, n2, n3, n4, n5, n6⟩ := hn
  have ne : ∀ k : Nat, k < 200 → ¬ c = k → ¬ mj_i (u_G u) r 0 = nI k := fun k hk hn => by rw [n6, z_eq (by omega) (by omega)]; exact hn
  have h36 : ¬ c = 36 := by
    rcases hcc with h | h
    · omega
    · exact h.2
  refine lp_pay hC hr n1 n2 n3 (ne _ (by decide) h36) ht (by omega) (fun q G2 a1 a2 a3 a4 => ?_) h2
  obtain ⟨A1, A2, A3⟩ := wC_A a1.2.1 n1
  have hm := h1 q G2 a1 a2 a3 a4 (A1.trans n3) A2 A3
  by_cases hcl : c = 33 ∨ c = 38
  · exact lp_125 a1.1.1 (A1.trans n3) (by
      rw [A3, n6]
      rcases hcl with g | g
      · exact Or.inl (by rw [g])
      · exact Or.inr (by rw [g])) (hm.2.2.2.2.2.2.2.2.2 hcl)
  refine lp_124 a1.1.1 (A1.trans n3) (by rw [A3]; exact ne _ (by decide) (by omega)) (by rw [A3]; exact ne _ (by decide) (by omega)) ?_
  refine c_meet a1.1.1 (A1.trans n3) ((A3 0).trans n6) hc ?_ hm
  rcases hcc with h | h
  · exact Or.inl h
  · exact Or.inr ⟨h.1, h36, by omega, by omega⟩
/-- where a node comes from -/
theorem c_origin {c : Nat} {K : Int32 → mj_G → Prop} (hn : nd u T r p c) (hS : cs_S G) (hk : mj_k G r = 6) (hi : ∀ j, mj_i G r j = mj_i (u_G u) r j) (hK : K (nI (100 * T + p)) G) : Nd_origin d r G K := by
  obtain ⟨n1, n2, n3, n4, n5, n6⟩ := hn
  refine w_Nd_origin hS ⟨hk, ?_⟩
  rw [hi, hi, n4, n5, z_mul, z_add]
  exact hK
end ZB
