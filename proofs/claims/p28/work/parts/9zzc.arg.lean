/-! ARGUMENTS: what is given, in both sides' pictures -/
/-- a parameter's byte: 3 stands for none -/
def gb (a : Nat) : Nat := if a = 3 then 255 else a
def gI (ga : Nat → Nat) : Int32 := nI (gb (ga 0) + 256 * gb (ga 1) + 65536 * gb (ga 2))
def g_u {α : Type} (ga : Nat → α) (i : Nat) (j : α) : Nat → α := fun k => if k = i then j else ga k
theorem g_us {α : Type} {ga : Nat → α} {i : Nat} {j : α} : g_u ga i j i = j := if_pos rfl
theorem g_un {α : Type} {ga : Nat → α} {i k : Nat} {j : α} (h : ¬ k = i) : g_u ga i j k = ga k := if_neg h
theorem gi_g0 : ∀ a, a < 4 → ∀ b, b < 4 → ∀ c, c < 4 → mm_shr (nI (gb a + 256 * gb b + 65536 * gb c)) (nI 8 * nI 0) &&& nI 255 = nI (gb a) ∧ mm_shr (nI (gb a + 256 * gb b + 65536 * gb c)) (nI 8 * nI 1) &&& nI 255 = nI (gb b) ∧ mm_shr (nI (gb a + 256 * gb b + 65536 * gb c)) (nI 8 * nI 2) &&& nI 255 = nI (gb c) := by decide +kernel
theorem gi_p0 : ∀ a, a < 4 → ∀ b, b < 4 → ∀ c, c < 4 → ∀ j, j < 3 → (nI (gb a + 256 * gb b + 65536 * gb c) &&& ((mm_shl (nI 255) (nI 8 * nI 0)) ^^^ (Int32.ofInt (-1)))) ||| (mm_shl (nI j) (nI 8 * nI 0)) = nI (gb j + 256 * gb b + 65536 * gb c) ∧ (nI (gb a + 256 * gb b + 65536 * gb c) &&& ((mm_shl (nI 255) (nI 8 * nI 1)) ^^^ (Int32.ofInt (-1)))) ||| (mm_shl (nI j) (nI 8 * nI 1)) = nI (gb a + 256 * gb j + 65536 * gb c) ∧ (nI (gb a + 256 * gb b + 65536 * gb c) &&& ((mm_shl (nI 255) (nI 8 * nI 2)) ^^^ (Int32.ofInt (-1)))) ||| (mm_shl (nI j) (nI 8 * nI 2)) = nI (gb a + 256 * gb b + 65536 * gb j) := by decide +kernel
theorem gi_255 {a : Nat} (h : a < 4) : (nI (gb a) = nI 255) = (a = 3) := by
  have : a = 0 ∨ a = 1 ∨ a = 2 ∨ a = 3 := by omega
  rcases this with rfl | rfl | rfl | rfl <;> decide +kernel
theorem gi_get {ga : Nat → Nat} {k : Nat} (h : ∀ k, k < 3 → ga k < 4) (hk : k < 3) : mm_shr (gI ga) (nI 8 * nI k) &&& nI 255 = nI (gb (ga k)) := by
  obtain ⟨h0, h1, h2⟩ := gi_g0 (ga 0) (h 0 (by decide)) (ga 1) (h 1 (by decide)) (ga 2) (h 2 (by decide))
  have : k = 0 ∨ k = 1 ∨ k = 2 := by omega
  rcases this with rfl | rfl | rfl
  · exact h0
  · exact h1
  · exact h2
theorem gi_put {ga : Nat → Nat} {k j : Nat} (h : ∀ k, k < 3 → ga k < 4) (hk : k < 3) (hj : j < 3) : (gI ga &&& ((mm_shl (nI 255) (nI 8 * nI k)) ^^^ (Int32.ofInt (-1)))) ||| (mm_shl (nI (320 + j) - nI 320) (nI 8 * nI k)) = gI (g_u ga k j) := by
  rw [z_sub (by omega), Nat.add_sub_cancel_left]
  obtain ⟨h0, h1, h2⟩ := gi_p0 (ga 0) (h 0 (by decide)) (ga 1) (h 1 (by decide)) (ga 2) (h 2 (by decide)) j hj
  have : k = 0 ∨ k = 1 ∨ k = 2 := by omega
  rcases this with rfl | rfl | rfl
  · exact h0
  · exact h1
  · exact h2
/-- the values that are given -/
def gvO (ga : Nat → Nat) (av : Nat → rv) : Nat → Option rv := fun i => if ga i = 3 then none else some (av (ga i))
/-- of which letter they are -/
def p_vl (lt : Nat → Nat) (g : Nat → Option rv) : Nat → Nat → Option rv
  | 0, _ => none
  | m + 1, l => if lt m = l then g m else p_vl lt g m l
theorem p_vl_s {lt : Nat → Nat} {g : Nat → Option rv} {l : Nat} {v : rv} : ∀ {m : Nat}, p_vl lt g m l = some v → ∃ i, i < m ∧ lt i = l ∧ g i = some v
  | 0, h => nomatch h
  | m + 1, h => by
    unfold p_vl at h
    by_cases q : lt m = l
    · rw [if_pos q] at h
      exact ⟨m, by omega, q, h⟩
    · rw [if_neg q] at h
      obtain ⟨i, h1, h2, h3⟩ := p_vl_s h
      exact ⟨i, by omega, h2, h3⟩
/-- letters that are not twice -/
def p_dis (lt : Nat → Nat) (m : Nat) : Prop := ∀ i, i < m → ∀ j, j < i → ¬ lt j = lt i
theorem p_vl_i {lt : Nat → Nat} {g : Nat → Option rv} : ∀ {m i : Nat}, p_dis lt m → i < m → p_vl lt g m (lt i) = g i
  | m + 1, i, hd, hi => by
    unfold p_vl
    by_cases q : i = m
    · rw [q, if_pos rfl]
    · rw [if_neg (fun t => hd m (by omega) i (by omega) t.symm)]
      exact p_vl_i (fun a ha b hb => hd a (by omega) b hb) (by omega)
theorem p_vl_c {lt : Nat → Nat} {g g' : Nat → Option rv} {l : Nat} : ∀ {m : Nat}, (∀ i, i < m → g' i = g i) → p_vl lt g' m l = p_vl lt g m l
  | 0, _ => rfl
  | m + 1, h => by
    unfold p_vl
    rw [h m (by omega), p_vl_c (fun i hi => h i (by omega))]
theorem p_vl_0 {lt : Nat → Nat} {l : Nat} : ∀ {m : Nat}, p_vl lt (fun _ => none) m l = none
  | 0 => rfl
  | m + 1 => by
    unfold p_vl
    rw [p_vl_0]
    exact ite_self _
theorem p_vl_n {lt : Nat → Nat} {g : Nat → Option rv} {i l : Nat} {v : Option rv} (h : ¬ l = lt i) : ∀ {m : Nat}, p_vl lt (g_u g i v) m l = p_vl lt g m l
  | 0 => rfl
  | m + 1 => by
    unfold p_vl
    rw [p_vl_n h]
    by_cases q : lt m = l
    · rw [if_pos q, if_pos q, g_un (fun t => h (by rw [← q, t]))]
    · rw [if_neg q, if_neg q]
/-- the variables of one more scope -/
def e_cl (V : Nat → Nat → Option rv) (N : Nat) (h : Nat → Option rv) : Nat → Nat → Option rv := fun s l => if s = N then h l else V s l
theorem e_cl_st {V : Nat → Nat → Option rv} {N m i : Nat} {lt : Nat → Nat} {g : Nat → Option rv} {v : rv} (hd : p_dis lt m) (hi : i < m) : e_st (e_cl V N (p_vl lt g m)) N (lt i) v = e_cl V N (p_vl lt (g_u g i (some v)) m) := by
  funext s l
  by_cases q : s = N ∧ l = lt i
  · rw [q.1, q.2, e_st_s]
    unfold e_cl
    rw [if_pos rfl, p_vl_i hd hi, g_us]
  · rw [e_st_n q]
    unfold e_cl
    by_cases q1 : s = N
    · rw [if_pos q1, if_pos q1, p_vl_n (fun t => q ⟨q1, t⟩)]
    · rw [if_neg q1, if_neg q1]
theorem e_cl_0 {V : Nat → Nat → Option rv} {N m : Nat} {lt : Nat → Nat} (hV : ∀ l, V N l = none) : e_cl V N (p_vl lt (fun _ => none) m) = V := by
  funext s l
  unfold e_cl
  by_cases q : s = N
  · rw [if_pos q, p_vl_0, q, hV]
  · rw [if_neg q]
theorem pV_N {u : wo} {N : Nat} {V : Nat → Nat → Option rv} (hV : pV u N V) (l : Nat) : V N l = none := by
  cases hv : V N l with
  | none => rfl
  | some w => exact absurd (hV N l w hv).1 (Nat.lt_irrefl N)
theorem pV_cl {u : wo} {N m : Nat} {V : Nat → Nat → Option rv} {lt : Nat → Nat} {g : Nat → Option rv} (hV : pV u N V) (hl : ∀ i, i < m → lt i < 26) (hg : ∀ i v, i < m → g i = some v → rv_in (u_D u) v) : pV u (N + 1) (e_cl V N (p_vl lt g m)) := fun s l v h => by
  unfold e_cl at h
  by_cases q : s = N
  · rw [if_pos q] at h
    obtain ⟨i, i1, i2, i3⟩ := p_vl_s h
    exact ⟨by omega, by rw [← i2]; exact hl i i1, hg i v i1 i3⟩
  · rw [if_neg q] at h
    obtain ⟨h1, h2, h3⟩ := hV s l v h
    exact ⟨by omega, h2, h3⟩
/-- the class's variables that are given -/
def aC (ρ : Nat → Nat) (D : Nat → rv) (G : mj_G) (bN : Nat) (lt : Nat → Nat) (g : Nat → Option rv) (m : Nat) : Prop := ∀ i, i < m → (g i = none → mj_i G (67 + 2 * (bN + i)) 6 = Int32.ofInt (-1)) ∧ ∀ v, g i = some v → mj_i G (67 + 2 * (bN + i)) 6 = nI (lt i) ∧ cv (vP ρ (bN + i)) G (67 + 2 * (bN + i)) v ∧ rv_in D v
/-- and the frame that they are meant for -/
def aF (G : mj_G) (top bN m : Nat) : Prop := mj_i G (707 + 4 * (top + 1)) 4 = Int32.ofInt (-1) ∧ mj_i G (707 + 4 * (top + 1)) 5 = nI bN ∧ mj_i G (707 + 4 * (top + 1)) 6 = nI m
/-- what giving arguments writes -/
def aW (bN top o : Nat) : Prop := (67 + 2 * bN ≤ o ∧ o ≤ 706) ∨ o = 707 + 4 * (top + 1)
section ZZC
variable {u : wo} {ρ ρ' : Nat → Nat} {D : Nat → rv} {I : Nat → Nat → rv} {G G' : mj_G} {W : Nat → Prop} {cur bN i p : Nat} {lt : Nat → Nat} {g : Nat → Option rv} {m : Nat} {v : rv} {N : Nat} {B : Nat → Nat} {M : Nat} {S : Nat → Nat} {lc : Nat} {ln : Nat → Nat} {op : Nat} {ch : List en} {V : Nat → Nat → Option rv} {o : ost} {ra rd : Nat → Int32} {sp : Nat → Bool} {st hts : Nat} {FG : Nat → kfr} {fr b cn : Nat → Nat} {top la : Nat}
theorem aW_im (ht : top < 199) {o : Nat} (h : aW bN top o) : ¬ im_o o := by
  unfold aW at h
  unfold im_o
  omega
theorem ce_cv1 (h : hh ρ D I G) (F : fw ρ W G G') (he : ro_e ρ ρ' G) (hW : ∀ o, W o → ¬ im_o o) (hw : ¬ W (67 + 2 * p)) (hp : p < 320) (hv : rv_ok v) (hc : cv (vP ρ p) G (67 + 2 * p) v) : cv (vP ρ' p) G' (67 + 2 * p) v := by
  have hG := hh_n h
  refine cv_fw hc hv h.2.2.2 F hW hG (by omega) (by rw [ow_s (by omega)]; exact hw) (fun c hcn q => ⟨by rw [q.1]; exact hw, ?_⟩)
  unfold vP at q ⊢
  rw [ro_ow he hcn]
  exact q
/-- a Value whose letter is written -/
theorem cv_I6 {P : Nat → Prop} {a : Nat} {y : Int32} (h : cv P G a v) (hk : mj_k G a ≠ 22) : cv P (mj_pI G a 6 y) a v := by
  obtain ⟨h1, h2, h3, h4, h5, h6⟩ := h
  refine ⟨h1, by rw [z_iIm (by decide)]; exact h2, (z_iIm (by decide)).trans h3, fun q => (z_iIm (by decide)).trans (h4 q), fun q => ?_, h6⟩
  obtain ⟨b1, b2, b3, b4, b5, b6, b7, b8⟩ := h5 q
  exact ⟨(z_iIm (by decide)).trans b1, (z_iIm (by decide)).trans b2, b3, b4, b5, b6, b7, fun i hi => (z_iIn (fun e => hk (by rw [← e]; exact b6))).trans (b8 i hi)⟩
/-- scopes stay where neither their frames nor their variables are written -/
theorem ce_v (h : hh ρ D I G) (hE : ce ρ D G N B V fr b cn) (F : fw ρ W G G') (he : ro_e ρ ρ' G) (hW : ∀ o, W o → ¬ im_o o) (hv : ∀ s, s < N → ∀ p, b s ≤ p → p < b s + cn s → ¬ W (67 + 2 * p)) (hf : ∀ s, s < N → ¬ W (707 + 4 * fr s)) : ce ρ' D G' N B V fr b cn := by
  refine ⟨hE.1, fun s hs => ?_⟩
  obtain ⟨h1, h2, h3, h4, h5, h6, h7, h8⟩ := hE.2 s hs
  have e : ∀ j, mj_i G' (707 + 4 * fr s) j = mj_i G (707 + 4 * fr s) j := fun j => ce_i h F (by omega) (hf s hs)
  have ev : ∀ p j, b s ≤ p → p < b s + cn s → mj_i G' (67 + 2 * p) j = mj_i G (67 + 2 * p) j := fun p j h1 h2 => ce_i h F (by omega) (hv s hs p h1 h2)
  refine ⟨h1, h2, h3, (e 4).trans h4, (e 5).trans h5, (e 6).trans h6, fun p p1 p2 => ?_, fun l v q => ?_⟩
  · rcases h7 p p1 p2 with g | ⟨l, v, g1, g2, g3, g4, g5⟩
    · exact Or.inl ((ev p 6 p1 p2).trans g)
    · exact Or.inr ⟨l, v, g1, (ev p 6 p1 p2).trans g2, g3, ce_cv1 h F he hW (hv s hs p p1 p2) (by omega) g5.1 g4, g5⟩
  · obtain ⟨p, p1, p2, p3⟩ := h8 l v q
    exact ⟨p, p1, p2, (ev p 6 p1 p2).trans p3⟩
theorem cu_v (h : hh ρ D I G) (hE : ce ρ D G N B V fr b cn) (hu : cu G N b cn) (F : fw ρ W G G') (hv : ∀ s, s < N → ∀ p, b s ≤ p → p < b s + cn s → ¬ W (67 + 2 * p)) : cu G' N b cn := fun s hs p q p1 p2 q1 q2 e => by
  have hl := (hE.2 s hs).2.1
  have ev : ∀ p, b s ≤ p → p < b s + cn s → mj_i G' (67 + 2 * p) 6 = mj_i G (67 + 2 * p) 6 := fun p h1 h2 => ce_i h F (by omega) (hv s hs p h1 h2)
  rw [ev p p1 p2, ev q q1 q2] at e
  rw [ev p p1 p2]
  exact hu s hs p q p1 p2 q1 q2 e
/-- scopes end where the newest one does -/
theorem CC_bN (hC : CC u ρ G N B M S lc ln op ch V o ra rd sp st hts FG fr b cn top la) : ∀ s, s < N → b s + cn s ≤ b (N - 1) + cn (N - 1) := fun s hs => by
  by_cases q : s = N - 1
  · rw [q]
    exact Nat.le_refl _
  · have := ((hC.2.2.2.1.1.2 (N - 1) (by omega)).2.2.1 s (by omega)).2
    omega
/-- arguments given leave the picture -/
theorem CC_a (hC : CC u ρ G N B M S lc ln op ch V o ra rd sp st hts FG fr b cn top la) (ht : top < 199) (hbN : bN = b (N - 1) + cn (N - 1)) (hh' : hh ρ' (u_D u) (u_I u) G') (F : fw ρ (aW bN top) G G') (he : ro_e ρ ρ' G) : CC u ρ' G' N B M S lc ln op ch V o ra rd sp st hts FG fr b cn top la ∧ fw ρ bW G G' ∧ FF ρ top cur G G' := by
  have hb3 := CC_bN hC
  obtain ⟨h1, h2, h3, h4, h5, h5', hu, h8, h9⟩ := hC
  have hG := hh_n h1
  have hF : ∀ cur, FF ρ top cur G G' := fun cur => FF_push h1 F ht (fun o q => by unfold aW at q; omega)
  have nim : ∀ o, aW bN top o → ¬ im_o o := fun o q => aW_im ht q
  have nv : ∀ s, s < N → ∀ p, b s ≤ p → p < b s + cn s → ¬ aW bN top (67 + 2 * p) := fun s hs p p1 p2 q => by
    have := hb3 s hs
    have := (h4.1.2 s hs).2.1
    unfold aW at q
    omega
  have nf : ∀ s, s < N → ¬ aW bN top (707 + 4 * fr s) := fun s hs q => by
    have := h3.2.2.2.2.1 s hs
    unfold aW at q
    omega
  refine ⟨⟨hh', wC_f h1 h2 F he nim, sC_F (hF 0) h1 h3, ⟨ce_v h1 h4.1 F he nim nv nf, cu_v h1 h4.1 h4.2.1 F nv, fun k hk => ?_⟩, ?_, ?_, uC_f h1 hu F (fun o q => by unfold aW at q; omega), (oD_f h1 h8 F (fun o q => by unfold aW at q; unfold oW; omega)).1, fgC_f h1 h9 F he (fun o q => ⟨nim o q, by unfold aW at q; unfold gW; omega⟩)⟩, fw_m F (fun o q => ⟨by unfold aW at q; omega, nim o q⟩), hF cur⟩
  · have hS := (h3.2.2.2.2.2.2.2.2.2.2.2.2.2 k hk).1
    have hf := h3.2.2.2.2.1 _ hS
    have e : ∀ j, mj_i G' (707 + 4 * fr (S k)) j = mj_i G (707 + 4 * fr (S k)) j := fun j => ce_i h1 F (by omega) (nf _ hS)
    obtain ⟨g1, g2, g3⟩ := h4.2.2 k hk
    exact ⟨(e 19).trans g1, (e 20).trans g2, (e 21).trans g3⟩
  · exact (ce_i h1 F (by decide) (fun q => by unfold aW at q; omega)).trans h5
  · exact (ce_i h1 F (by decide) (fun q => by unfold aW at q; omega)).trans h5'
theorem aC_f (h : hh ρ D I G) (ha : aC ρ D G bN lt g m) (hb : bN + m ≤ 320) (F : fw ρ W G G') (he : ro_e ρ ρ' G) (hW : ∀ o, W o → ¬ im_o o) (hv : ∀ i, i < m → ¬ W (67 + 2 * (bN + i))) : aC ρ' D G' bN lt g m := fun i hi => by
  obtain ⟨h1, h2⟩ := ha i hi
  have e : mj_i G' (67 + 2 * (bN + i)) 6 = mj_i G (67 + 2 * (bN + i)) 6 := ce_i h F (by omega) (hv i hi)
  refine ⟨fun q => e.trans (h1 q), fun v q => ?_⟩
  obtain ⟨g1, g2, g3⟩ := h2 v q
  exact ⟨e.trans g1, ce_cv1 h F he hW (hv i hi) (by omega) g3.1 g2, g3⟩
theorem aC_fv {sl : Nat} (h : hh ρ D I G) (ha : aC ρ D G bN lt g m) (hb : bN + m ≤ 320) (F : fv ρ sl G G') (he : ro_e ρ ρ' G) : aC ρ' D G' bN lt g m := aC_f h ha hb F.1 he (fun o q => fx_im q) (fun i hi q => by unfold fx fW fF at q; omega)
theorem aF_fv {sl : Nat} (h : hh ρ D I G) (ha : aF G top bN m) (ht : top < 199) (F : fv ρ sl G G') : aF G' top bN m := by
  have hG := hh_n h
  have e : ∀ j, j < 19 → mj_i G' (707 + 4 * (top + 1)) j = mj_i G (707 + 4 * (top + 1)) j := fun j hj => by
    rcases (F.2 (707 + 4 * (top + 1)) (by omega) (by rw [ow_s (by omega)]; unfold fF; omega)).2 j with g | g
    · exact absurd g.2.2 (by omega)
    · exact g
  exact ⟨(e 4 (by decide)).trans ha.1, (e 5 (by decide)).trans ha.2.1, (e 6 (by decide)).trans ha.2.2⟩
theorem aF_f (h : hh ρ D I G) (ha : aF G top bN m) (ht : top < 199) (F : fw ρ W G G') (hW : ¬ W (707 + 4 * (top + 1))) : aF G' top bN m := by
  have e : ∀ j, mj_i G' (707 + 4 * (top + 1)) j = mj_i G (707 + 4 * (top + 1)) j := fun j => ce_i h F (by omega) hW
  exact ⟨(e 4).trans ha.1, (e 5).trans ha.2.1, (e 6).trans ha.2.2⟩
/-- one more is given -/
theorem aC_up (h : hh ρ D I G) (ha : aC ρ D G bN lt g m) (hb : bN + m ≤ 320) (hi : i < m) (F : fw ρ (fun q => q = 67 + 2 * (bN + i)) G G') (he : ro_e ρ ρ' G) (h6 : mj_i G' (67 + 2 * (bN + i)) 6 = nI (lt i)) (hc : cv (vP ρ' (bN + i)) G' (67 + 2 * (bN + i)) v) (hv : rv_in D v) : aC ρ' D G' bN lt (g_u g i (some v)) m := fun k hk => by
  by_cases q : k = i
  · subst q
    refine ⟨fun t => ?_, fun w t => ?_⟩
    · rw [g_us] at t
      exact nomatch t
    · rw [g_us] at t
      obtain rfl := Option.some.inj t
      exact ⟨h6, hc, hv⟩
  · rw [g_un q]
    obtain ⟨h1, h2⟩ := ha k hk
    have e : mj_i G' (67 + 2 * (bN + k)) 6 = mj_i G (67 + 2 * (bN + k)) 6 := ce_i h F (by omega) (by omega)
    refine ⟨fun t => e.trans (h1 t), fun w t => ?_⟩
    obtain ⟨g1, g2, g3⟩ := h2 w t
    exact ⟨e.trans g1, ce_cv1 h F he (fun o r => by rw [r]; unfold im_o; omega) (by omega) (by omega) g3.1 g2, g3⟩
/-- the scopes, with the one that is meant -/
theorem ce_arg (hC : CC u ρ G N B M S lc ln op ch V o ra rd sp st hts FG fr b cn top la) (ht : top < 199) (hbN : bN = b (N - 1) + cn (N - 1)) (hb : bN + m ≤ 320) (hd : p_dis lt m) (hl : ∀ i, i < m → lt i < 26) (ha : aC ρ (u_D u) G bN lt g m) (hf : aF G top bN m) : ce ρ (u_D u) G (N + 1) (e_bh B N 0) (e_cl V N (p_vl lt g m)) (e_bh fr N (top + 1)) (e_bh b N bN) (e_bh cn N m) := by
  have hb3 := CC_bN hC
  have hs := hC.2.2.1
  have hE := hC.2.2.2.1.1
  have hN199 : N < 200 := by
    have := fr_ge hE (s := N - 1) (by have := hs.1; omega)
    have := hs.2.2.2.2.1 (N - 1) (by have := hs.1; omega)
    omega
  refine ⟨by omega, fun s hsl => ?_⟩
  by_cases q : s = N
  · subst q
    have n1 : e_bh B s 0 s = 0 := if_pos rfl
    have n2 : e_bh fr s (top + 1) s = top + 1 := if_pos rfl
    have n3 : e_bh b s bN s = bN := if_pos rfl
    have n4 : e_bh cn s m s = m := if_pos rfl
    rw [n1, n2, n3, n4]
    refine ⟨by omega, hb, fun r hr => ?_, hf.1, hf.2.1, hf.2.2, fun p p1 p2 => ?_, fun l v q => ?_⟩
    · rw [show e_bh fr s (top + 1) r = fr r from if_neg (by omega), show e_bh b s bN r = b r from if_neg (by omega), show e_bh cn s m r = cn r from if_neg (by omega)]
      have := hs.2.2.2.2.1 r hr
      exact ⟨by omega, by have := hb3 r hr; omega⟩
    · obtain ⟨i, rfl⟩ : ∃ i, p = bN + i := ⟨p - bN, by omega⟩
      obtain ⟨a1, a2⟩ := ha i (by omega)
      cases hg : g i with
      | none => exact Or.inl (a1 hg)
      | some v =>
        obtain ⟨c1, c2, c3⟩ := a2 v hg
        refine Or.inr ⟨lt i, v, hl i (by omega), c1, ?_, c2, c3⟩
        unfold e_cl
        rw [if_pos rfl, p_vl_i hd (by omega), hg]
    · unfold e_cl at q
      rw [if_pos rfl] at q
      obtain ⟨i, i1, i2, i3⟩ := p_vl_s q
      obtain ⟨c1, -, -⟩ := (ha i i1).2 v i3
      exact ⟨bN + i, by omega, by omega, by rw [c1, i2]⟩
  · have hsN : s < N := by omega
    obtain ⟨h1, h2, h3, h4, h5, h6, h7, h8⟩ := hE.2 s hsN
    rw [show e_bh fr N (top + 1) s = fr s from if_neg q, show e_bh b N bN s = b s from if_neg q, show e_bh cn N m s = cn s from if_neg q, show e_bh B N 0 s = B s from if_neg q, show e_cl V N (p_vl lt g m) s = V s from funext fun l => if_neg q, sf_x (by have := hs.2.2.2.2.2.2.2.2.2.2.2.2.1 s hsN; omega)]
    refine ⟨h1, h2, fun r hr => ?_, h4, h5, h6, h7, h8⟩
    rw [show e_bh fr N (top + 1) r = fr r from if_neg (by omega), show e_bh b N bN r = b r from if_neg (by omega), show e_bh cn N m r = cn r from if_neg (by omega)]
    exact h3 r hr
theorem cu_arg (hC : CC u ρ G N B M S lc ln op ch V o ra rd sp st hts FG fr b cn top la) (hd : p_dis lt m) (hl : ∀ i, i < m → lt i < 26) (ha : aC ρ (u_D u) G bN lt g m) : cu G (N + 1) (e_bh b N bN) (e_bh cn N m) := fun s hsl p q p1 p2 q1 q2 e => by
  by_cases hq : s = N
  · subst hq
    rw [show e_bh b s bN s = bN from if_pos rfl] at p1 p2 q1 q2
    rw [show e_bh cn s m s = m from if_pos rfl] at p2 q2
    obtain ⟨i, rfl⟩ : ∃ i, p = bN + i := ⟨p - bN, by omega⟩
    obtain ⟨j, rfl⟩ : ∃ j, q = bN + j := ⟨q - bN, by omega⟩
    cases hi : g i with
    | none => exact Or.inl ((ha i (by omega)).1 hi)
    | some v =>
      cases hj : g j with
      | none => exact Or.inl (e.trans ((ha j (by omega)).1 hj))
      | some w =>
        rw [((ha i (by omega)).2 v hi).1, ((ha j (by omega)).2 w hj).1] at e
        have li := hl i (by omega)
        have lj := hl j (by omega)
        rw [z_eq (by omega) (by omega)] at e
        by_cases h1 : i < j
        · exact absurd e (hd j (by omega) i h1)
        · by_cases h2 : j < i
          · exact absurd e.symm (hd i (by omega) j h2)
          · exact Or.inr (by omega)
  · rw [show e_bh b N bN s = b s from if_neg hq] at p1 p2 q1 q2
    rw [show e_bh cn N m s = cn s from if_neg hq] at p2 q2
    exact hC.2.2.2.1.2.1 s (by omega) p q p1 p2 q1 q2 e
end ZZC
