/-! THE CLASS'S PICTURE WHILE RENDERING -/
/-- a call with a body: template, from, to, first node, scopes then, its line -/
abbrev en : Type := Nat × Nat × Nat × Nat × Nat × Nat × (Nat → Nat)
def en_T (e : en) : Nat := e.1
def en_p (e : en) : Nat := e.2.1
def en_q (e : en) : Nat := e.2.2.1
def en_r (e : en) : Nat := e.2.2.2.1
def en_x (e : en) : Nat := e.2.2.2.2.1
def en_n (e : en) : Nat := e.2.2.2.2.2.1
def en_c (e : en) : Nat → Nat := e.2.2.2.2.2.2
/-- a kept fragment: is there one; template, place and node of its tag; line; context and blanks; cells; bits read; values read, of the scopes and of the data; items then -/
abbrev kfr : Type := Bool × (Nat × Nat × Nat) × (Nat × (Nat → Nat)) × (Nat × Bool) × (Nat × (Nat → Nat)) × (Int32 × Int32) × ((Nat → rv) × (Nat → rv)) × (Nat → Nat → rv)
def k_is (k : kfr) : Bool := k.1
def k_T (k : kfr) : Nat := k.2.1.1
def k_p (k : kfr) : Nat := k.2.1.2.1
def k_r (k : kfr) : Nat := k.2.1.2.2
def k_lc (k : kfr) : Nat := k.2.2.1.1
def k_ln (k : kfr) : Nat → Nat := k.2.2.1.2
def k_x (k : kfr) : Nat := k.2.2.2.1.1
def k_w (k : kfr) : Bool := k.2.2.2.1.2
def k_n (k : kfr) : Nat := k.2.2.2.2.1.1
def k_c (k : kfr) : Nat → Nat := k.2.2.2.2.1.2
def k_ra (k : kfr) : Int32 := k.2.2.2.2.2.1.1
def k_rd (k : kfr) : Int32 := k.2.2.2.2.2.1.2
def k_vs (k : kfr) : Nat → rv := k.2.2.2.2.2.2.1.1
def k_vd (k : kfr) : Nat → rv := k.2.2.2.2.2.2.1.2
def k_I (k : kfr) : Nat → Nat → rv := k.2.2.2.2.2.2.2
/-- what does not change while rendering: data, items; texts, lengths, parents and bodies of the templates; their tags; forms, budget; cells of trees and their heap -/
abbrev wo : Type := ((Nat → rv) × (Nat → Nat → rv)) × ((Nat → Nat → Nat) × (Nat → Nat) × (Nat → Nat) × (Nat → Nat)) × ((Nat → List (Nat × Nat)) × (Nat → rv) × Nat) × (((Nat → Prop) × mj_G) × (Nat × Nat × (Nat → Nat)))
def u_D (u : wo) : Nat → rv := u.1.1
def u_I (u : wo) : Nat → Nat → rv := u.1.2
def u_w (u : wo) : Nat → Nat → Nat := u.2.1.1
def u_n (u : wo) : Nat → Nat := u.2.1.2.1
def u_pa (u : wo) : Nat → Nat := u.2.1.2.2.1
def u_bd (u : wo) : Nat → Nat := u.2.1.2.2.2
def u_L (u : wo) : Nat → List (Nat × Nat) := u.2.2.1.1
def u_F (u : wo) : Nat → rv := u.2.2.1.2.1
def u_bu (u : wo) : Nat := u.2.2.1.2.2
def u_A (u : wo) : Nat → Prop := u.2.2.2.1.1
def u_G (u : wo) : mj_G := u.2.2.2.1.2
/-- the output of the time before: its row, its length, its cells -/
def u_o2 (u : wo) : Nat := u.2.2.2.2.1
def u_on (u : wo) : Nat := u.2.2.2.2.2.1
def u_oc (u : wo) : Nat → Nat := u.2.2.2.2.2.2
/-- the first block, the first macro with a digit in a template: place and node -/
def u_qb (u : wo) (g T : Nat) : Option (Nat × Nat) := tl_fx (u_w u T) 35 (48 + g) (u_L u T)
def u_qm (u : wo) (g T : Nat) : Option (Nat × Nat) := tl_fx (u_w u T) 36 (48 + g) (u_L u T)
/-- the class's heap holds the world -/
def wC (u : wo) (ρ : Nat → Nat) (G : mj_G) : Prop := tH ρ G (u_pa u) (u_bd u) ∧ (∀ g, g < 10 → tB G 4 g (u_qb u g) ∧ tB G 5 g (u_qm u g)) ∧ (∀ t, t < 10 → ∀ j, j = 4 ∨ j = 5 → imm ρ (mj_r G (mj_r G 7 t) j) ∧ mj_r G (mj_r G 7 t) j < mj_n G) ∧ fA (u_A u) ρ (u_G u) G ∧ ∀ j, j < 20 → rv_ok (u_F u j) ∧ rv_t (u_F u j) = 2 ∧ cv (imm ρ) G (1674 + 2 * j) (u_F u j)
/-- frames up to the top stay, but for what is next, the count of the current scope and what fragments are told -/
def FF (ρ : Nat → Nat) (top cur : Nat) (G G' : mj_G) : Prop := ∀ a, a < mj_n G → 707 ≤ ow ρ a → ow ρ a < 711 + 4 * top → (∀ j, ¬ (a = 707 + 4 * top ∧ j = 2) → mj_r G' a j = mj_r G a j) ∧ ∀ j, ¬ (a = 707 + 4 * cur ∧ j = 6) → ¬ (a < 1507 ∧ 19 ≤ j ∧ j ≤ 21) → mj_i G' a j = mj_i G a j
/-- the calls whose bodies may be met, from below a place of the stack -/
def chC (A : Nat → Prop) (G0 : mj_G) (fr : Nat → Nat) (G : mj_G) : List en → Nat → Int32 → Prop
  | [], _, z => z = Int32.ofInt (-1)
  | e :: L, m, z => ∃ a la tg, a < m ∧ la ≤ a ∧ z = nI (a + 1) ∧ mj_r G (707 + 4 * (a + 1)) 1 = tg ∧ A tg ∧ mj_k G0 tg = 6 ∧ mj_r G0 tg 8 = en_r e ∧ 1 ≤ en_x e ∧ mj_i G (707 + 4 * a) 3 = nI (fr (en_x e - 1)) ∧ mj_i G (707 + 4 * a) 7 = nI la ∧ en_n e ≤ 10 ∧ fL G la (en_n e) (en_c e) ∧ chC A G0 fr G L a (mj_i G (707 + 4 * a) 10)
/-- what the frames at the top stand for -/
def sC (u : wo) (G : mj_G) (N : Nat) (B : Nat → Nat) (M : Nat) (S : Nat → Nat) (lc : Nat) (ln : Nat → Nat) (op : Nat) (ch : List en) (fr : Nat → Nat) (top la : Nat) : Prop := 1 ≤ N ∧ top < 200 ∧ M ≤ 12 ∧ la ≤ top ∧ (∀ s, s < N → fr s ≤ top) ∧ mj_i G (707 + 4 * top) 3 = nI (fr (N - 1)) ∧ mj_i G (707 + 4 * top) 7 = nI la ∧ mj_i G (707 + 4 * top) 11 = kc fr S M ∧ mj_i G (707 + 4 * top) 12 = nI op ∧ fL G la lc ln ∧ lc ≤ 10 ∧ chC (u_A u) (u_G u) fr G ch top (mj_i G (707 + 4 * top) 10) ∧ (∀ s, s < N → B s ≤ s) ∧ ∀ k, k < M → S k < N ∧ (∀ j, j < k → S j < S k) ∧ 1 ≤ fr (S k) ∧ mj_i G (707 + 4 * (fr (S k) - 1)) 11 = kc fr S k
/-- the scopes' variables, and what open fragments are told -/
def dC (u : wo) (ρ : Nat → Nat) (G : mj_G) (N : Nat) (B : Nat → Nat) (M : Nat) (S : Nat → Nat) (V : Nat → Nat → Option rv) (ra rd : Nat → Int32) (sp : Nat → Bool) (fr b cn : Nat → Nat) : Prop := ce ρ (u_D u) G N B V fr b cn ∧ cu G N b cn ∧ ∀ k, k < M → mj_i G (707 + 4 * fr (S k)) 19 = ra k ∧ mj_i G (707 + 4 * fr (S k)) 20 = rd k ∧ mj_i G (707 + 4 * fr (S k)) 21 = bI (!sp k)
/-- budget, steps and hits -/
def uC (u : wo) (G : mj_G) (st hts : Nat) : Prop := mj_i G 6 6 = nI (u_bu u) ∧ mj_i G 6 7 = nI st ∧ mj_i G 6 8 = nI hts ∧ u_bu u ≤ 2000 ∧ st ≤ u_bu u
/-- a value that a fragment keeps, with the items of then -/
def kvl (ρ : Nat → Nat) (G : mj_G) (i a : Nat) (v : rv) (I0 : Nat → Nat → rv) : Prop := 1768 ≤ a ∧ a < mj_n G ∧ ρ a = 2000 + i ∧ mj_k G a = 12 ∧ rv_ok v ∧ mj_b (mj_i G a 2) ∧ mj_i G a 0 = nI (rv_k (rv_t v)) ∧ (rv_t v = 1 → mj_i G a 1 = rv_n v) ∧
  (rv_t v = 2 → mj_i G a 4 = nI (rv_l v) ∧ mj_i G a 2 = bI (rv_s v) ∧ 1768 ≤ mj_r G a 3 ∧ mj_r G a 3 < mj_n G ∧ ρ (mj_r G a 3) = 2000 + i ∧ mj_k G (mj_r G a 3) = 22 ∧ rv_l v ≤ mj_l G (mj_r G a 3) ∧ ∀ j, j < rv_l v → mj_i G (mj_r G a 3) j = nI (rv_c v j)) ∧
  (rv_t v = 3 → imm ρ (mj_r G a 5) ∧ mj_r G a 5 < mj_n G ∧ mj_k G (mj_r G a 5) = 41 ∧ mj_l G (mj_r G a 5) = rv_l v ∧ ∀ k, k < rv_l v → imm ρ (mj_r G (mj_r G a 5) k) ∧ mj_r G (mj_r G a 5) k < mj_n G ∧ cv (imm ρ) G (mj_r G (mj_r G a 5) k) (I0 (rv_d v) k) ∧ rv_ok (I0 (rv_d v) k) ∧ (rv_t (I0 (rv_d v) k) = 1 ∨ (rv_t (I0 (rv_d v) k) = 2 ∧ rv_s (I0 (rv_d v) k) = false ∧ rv_l (I0 (rv_d v) k) ≤ 40)))
/-- a fragment's cells hold what is kept -/
def fgC1 (ρ : Nat → Nat) (G : mj_G) (i : Nat) (k : kfr) : Prop := (k_is k = false → mj_r G (1597 + 8 * i) 0 = 0) ∧ (k_is k = true → mj_r G (1597 + 8 * i) 0 = k_r k ∧ k_r k ≠ 0 ∧ k_T k < 10 ∧ k_p k < 80 ∧ mj_i G (1597 + 8 * i) 2 = nI (k_lc k) ∧ k_lc k ≤ 10 ∧ (∀ j, j < k_lc k → mj_i G (1598 + 8 * i) j = nI (k_ln k j) ∧ k_ln k j < 10) ∧ mj_i G (1597 + 8 * i) 3 = nI (k_x k) ∧ k_x k < 8 ∧ mj_i G (1597 + 8 * i) 4 = bI (k_w k) ∧ mj_i G (1597 + 8 * i) 6 = nI (k_n k) ∧ k_n k ≤ 300 ∧ (∀ j, j < k_n k → mj_i G (1599 + 8 * i) j = nI (k_c k j) ∧ k_c k j < 2 ^ 31 ∧ 32 ≤ k_c k j % 128 ∧ k_c k j % 128 ≤ 126 ∧ gz (kcx (k_x k) (k_c k) j) (k_c k j)) ∧ mj_i G (1597 + 8 * i) 7 = k_ra k ∧ mj_i G (1597 + 8 * i) 8 = k_rd k ∧
  ∀ l, l < 26 → (bt (k_ra k) l → kvl ρ G (52 * i + l) (mj_r G (1600 + 8 * i) l) (k_vs k l) (k_I k)) ∧ (bt (k_rd k) l → kvl ρ G (52 * i + 26 + l) (mj_r G (1601 + 8 * i) l) (k_vd k l) (k_I k)))
def fgC (u : wo) (ρ : Nat → Nat) (G : mj_G) (FG : Nat → kfr) : Prop := ∀ i, i < 10 → fgC1 ρ G i (FG i) ∧ (k_is (FG i) = true → (k_p (FG i), k_r (FG i)) ∈ u_L u (k_T (FG i)))
/-- the output, and that of the time before -/
def oD (u : wo) (G : mj_G) (o : ost) : Prop := oC G o ∧ mj_r G 1589 2 = u_o2 u ∧ mj_r G 1589 0 ≠ u_o2 u ∧ (u_o2 u = 1590 ∨ u_o2 u = 1591) ∧ mj_i G 1589 3 = nI (u_on u) ∧ ∀ i, i < u_on u → mj_i G (u_o2 u) i = nI (u_oc u i)
/-- the whole picture -/
def CC (u : wo) (ρ : Nat → Nat) (G : mj_G) (N : Nat) (B : Nat → Nat) (M : Nat) (S : Nat → Nat) (lc : Nat) (ln : Nat → Nat) (op : Nat) (ch : List en) (V : Nat → Nat → Option rv) (o : ost) (ra rd : Nat → Int32) (sp : Nat → Bool) (st hts : Nat) (FG : Nat → kfr) (fr b cn : Nat → Nat) (top la : Nat) : Prop := hh ρ (u_D u) (u_I u) G ∧ wC u ρ G ∧ sC u G N B M S lc ln op ch fr top la ∧ dC u ρ G N B M S V ra rd sp fr b cn ∧ mj_i G 11 4 = nI top ∧ mj_i G 11 2 = nI (b (N - 1) + cn (N - 1)) ∧ uC u G st hts ∧ oD u G o ∧ fgC u ρ G FG
section XA
variable {u : wo} {ρ ρ' : Nat → Nat} {G G1 G' : mj_G} {W : Nat → Prop} {cur top' cur' : Nat} {N : Nat} {B : Nat → Nat} {M : Nat} {S : Nat → Nat} {lc : Nat} {ln : Nat → Nat} {op : Nat} {ch : List en} {V : Nat → Nat → Option rv} {o : ost} {ra rd : Nat → Int32} {sp : Nat → Bool} {st hts : Nat} {FG : Nat → kfr} {fr b cn : Nat → Nat} {top la : Nat}
theorem wC_f (h : hh ρ (u_D u) (u_I u) G) (hw : wC u ρ G) (F : fw ρ W G G') (he : ro_e ρ ρ' G) (hW : ∀ o, W o → ¬ im_o o) : wC u ρ' G' := by
  have hG := hh_n h
  obtain ⟨h1, h2, h3, h4, h5⟩ := hw
  have e7 : ∀ t, mj_r G' 7 t = mj_r G 7 t := fun t => (fw_im F hW (a := 7) (by omega) (by rw [ow_s (by decide)]; unfold im_o; omega)).2.2.1 t
  have eT : ∀ t, t < 10 → mj_k G' (mj_r G 7 t) = mj_k G (mj_r G 7 t) ∧ ∀ j, mj_r G' (mj_r G 7 t) j = mj_r G (mj_r G 7 t) j := fun t ht => by
    obtain ⟨g1, g2, g3, -⟩ := h1 t ht
    have := fw_im F hW g3 g2
    exact ⟨this.1, this.2.2.1⟩
  have eA : ∀ t, t < 10 → ∀ j, j = 4 ∨ j = 5 → mj_k G' (mj_r G (mj_r G 7 t) j) = mj_k G (mj_r G (mj_r G 7 t) j) ∧ mj_l G' (mj_r G (mj_r G 7 t) j) = mj_l G (mj_r G (mj_r G 7 t) j) ∧ ∀ g, mj_r G' (mj_r G (mj_r G 7 t) j) g = mj_r G (mj_r G (mj_r G 7 t) j) g := fun t ht j hj => by
    obtain ⟨g1, g2⟩ := h3 t ht j hj
    have := fw_im F hW g2 g1
    exact ⟨this.1, this.2.1, this.2.2.1⟩
  have tb : ∀ j g q, j = 4 ∨ j = 5 → tB G j g q → tB G' j g q := fun j g q hj hB t ht => by
    obtain ⟨g1, g2, g3, g4, g5⟩ := hB t ht
    obtain ⟨t1, t2⟩ := eT t ht
    obtain ⟨a1, a2, a3⟩ := eA t ht j hj
    rw [e7, t2 j, t1, a1, a2, a3]
    exact ⟨g1, g2, g3, g4, g5⟩
  refine ⟨tH_f h h1 F he hW, fun g hg => ⟨tb _ _ _ (Or.inl rfl) (h2 g hg).1, tb _ _ _ (Or.inr rfl) (h2 g hg).2⟩, fun t ht j hj => ?_, fA_f h4 F hW he, fun j hj => ?_⟩
  · obtain ⟨g1, g2⟩ := h3 t ht j hj
    rw [e7, (eT t ht).2 j, imm_e he g2]
    exact ⟨g1, Nat.lt_of_lt_of_le g2 F.1⟩
  · obtain ⟨g1, g2, g3⟩ := h5 j hj
    exact ⟨g1, g2, cv_im g3 g1 h.2.2.2 F he hW hG (by omega) (by unfold imm; rw [ow_s (by omega)]; unfold im_o; omega)⟩
theorem FF_r : FF ρ top cur G G := fun _ _ _ _ => ⟨fun _ _ => rfl, fun _ _ _ => rfl⟩
theorem FF_t (h1 : FF ρ top cur G G1) (he : ro_e ρ ρ' G) (hn : mj_n G ≤ mj_n G1) (h2 : FF ρ' top cur G1 G') : FF ρ top cur G G' := fun a ha h7 h8 => by
  obtain ⟨a1, a2⟩ := h1 a ha h7 h8
  obtain ⟨b1, b2⟩ := h2 a (Nat.lt_of_lt_of_le ha hn) (by rw [ro_ow he ha]; exact h7) (by rw [ro_ow he ha]; exact h8)
  exact ⟨fun j hj => (b1 j hj).trans (a1 j hj), fun j hj hk => (b2 j hj hk).trans (a2 j hj hk)⟩
theorem FF_w (F : fw ρ W G G') (ht : top < 200) (hW : ∀ o, W o → ¬ (707 ≤ o ∧ o ≤ 1506)) : FF ρ top cur G G' := fun a ha h7 h8 => by
  have := (F.2.2.2 a ha).2.2 (fun q => hW _ q (by omega))
  exact ⟨fun j _ => this.1 j, fun j _ _ => this.2 j⟩
theorem FF_lo (h : FF ρ top' cur' G G') (ht : top' < 200) (hlt : top < top') (hcc : cur' = cur ∨ (top < cur' ∧ cur' < 200)) : FF ρ top cur G G' := fun a ha h7 h8 => by
  obtain ⟨a1, a2⟩ := h a ha h7 (by omega)
  have lo : ∀ i, top < i → i < 200 → a ≠ 707 + 4 * i := fun i h1 h2 q => by
    rw [ow_s (by omega)] at h8
    omega
  refine ⟨fun j _ => a1 j (fun q => lo top' hlt ht q.1), fun j hj hk => a2 j (fun q => ?_) hk⟩
  rcases hcc with g | ⟨g1, g2⟩
  · rw [g] at q
    exact hj q
  · exact lo cur' g1 g2 q.1
/-- a frame's own ints and references -/
theorem FF_i (h : FF ρ top cur G G') (hh : hh ρ (u_D u) (u_I u) G) {i j : Nat} (hi : i ≤ top) (ht : top < 200) (hj : j ≠ 6 ∧ ¬ (19 ≤ j ∧ j ≤ 21)) : mj_i G' (707 + 4 * i) j = mj_i G (707 + 4 * i) j := by
  have hG := hh_n hh
  exact (h (707 + 4 * i) (by omega) (by rw [ow_s (by omega)]; omega) (by rw [ow_s (by omega)]; omega)).2 j (fun q => hj.1 q.2) (fun q => hj.2 q.2)
theorem FF_l (h : FF ρ top cur G G') (hh : hh ρ (u_D u) (u_I u) G) {i j : Nat} (hi : i ≤ top) (ht : top < 200) (hj : j < 19) : mj_i G' (708 + 4 * i) j = mj_i G (708 + 4 * i) j := by
  have hG := hh_n hh
  exact (h (708 + 4 * i) (by omega) (by rw [ow_s (by omega)]; omega) (by rw [ow_s (by omega)]; omega)).2 j (fun q => by have := q.1; omega) (fun q => by have := q.2.1; omega)
theorem FF_p (h : FF ρ top cur G G') (hh : hh ρ (u_D u) (u_I u) G) {i j : Nat} (hi : i ≤ top) (ht : top < 200) (hj : i = top → j ≠ 2) : mj_r G' (707 + 4 * i) j = mj_r G (707 + 4 * i) j := by
  have hG := hh_n hh
  exact (h (707 + 4 * i) (by omega) (by rw [ow_s (by omega)]; omega) (by rw [ow_s (by omega)]; omega)).1 j (fun q => hj (by have := q.1; omega) q.2)
theorem fL_F (h : FF ρ top cur G G') (hh : hh ρ (u_D u) (u_I u) G) {i n : Nat} {c : Nat → Nat} (hi : i ≤ top) (ht : top < 200) (h10 : n ≤ 10) (hL : fL G i n c) : fL G' i n c := ⟨(FF_i h hh hi ht (by decide)).trans hL.1, fun k hk => ⟨(FF_l h hh hi ht (by omega)).trans (hL.2 k hk).1, (hL.2 k hk).2⟩⟩
theorem chC_F (h : FF ρ top cur G G') (hh : hh ρ (u_D u) (u_I u) G) (ht : top < 200) {A : Nat → Prop} {G0 : mj_G} : ∀ {L : List en} {m : Nat} {z : Int32}, m ≤ top → chC A G0 fr G L m z → chC A G0 fr G' L m z
  | [], _, _, _, hc => hc
  | e :: L, m, z, hm, hc => by
    obtain ⟨a, la, tg, h1, h2, h3, h4, h5, h6, h7, h8, h9, h10, h10', h11, h12⟩ := hc
    refine ⟨a, la, tg, h1, h2, h3, (FF_p h hh (by omega) ht (fun _ => by decide)).trans h4, h5, h6, h7, h8, (FF_i h hh (by omega) ht (by decide)).trans h9, (FF_i h hh (by omega) ht (by decide)).trans h10, h10', fL_F h hh (by omega) ht h10' h11, ?_⟩
    rw [FF_i h hh (by omega) ht (by decide)]
    exact chC_F h hh ht (by omega) h12
theorem sC_F (h : FF ρ top cur G G') (hh : hh ρ (u_D u) (u_I u) G) (hs : sC u G N B M S lc ln op ch fr top la) : sC u G' N B M S lc ln op ch fr top la := by
  obtain ⟨h1, h2, h3, h4, h5, h6, h7, h8, h9, h10, h10', h11, h12, h13⟩ := hs
  refine ⟨h1, h2, h3, h4, h5, (FF_i h hh (by omega) h2 (by decide)).trans h6, (FF_i h hh (by omega) h2 (by decide)).trans h7, (FF_i h hh (by omega) h2 (by decide)).trans h8, (FF_i h hh (by omega) h2 (by decide)).trans h9, fL_F h hh h4 h2 h10' h10, h10', ?_, h12, fun k hk => ?_⟩
  · rw [FF_i h hh (by omega) h2 (by decide)]
    exact chC_F h hh h2 (by omega) h11
  · obtain ⟨g1, g2, g3, g4⟩ := h13 k hk
    exact ⟨g1, g2, g3, (FF_i h hh (by have := h5 _ g1; omega) h2 (by decide)).trans g4⟩
/-- which owners are a fragment's -/
def gW (o : Nat) : Prop := (1594 ≤ o ∧ o ≤ 1673) ∨ 2000 ≤ o
theorem kvl_f {i a : Nat} {v : rv} {I0 : Nat → Nat → rv} (h : hh ρ (u_D u) (u_I u) G) (hk : kvl ρ G i a v I0) (F : fw ρ W G G') (he : ro_e ρ ρ' G) (hW : ∀ o, W o → ¬ im_o o ∧ ¬ gW o) : kvl ρ' G' i a v I0 := by
  have hG := hh_n h
  obtain ⟨h1, h2, h3, h4, h5, h6, h7, h8, h9, h10⟩ := hk
  have e : ∀ c, c < mj_n G → 1768 ≤ c → ρ c = 2000 + i → mj_k G' c = mj_k G c ∧ mj_l G' c = mj_l G c ∧ (∀ j, mj_r G' c j = mj_r G c j) ∧ ∀ j, mj_i G' c j = mj_i G c j := fun c hc hd ho => by
    have := F.2.2.2 c hc
    have q := this.2.2 (fun q => (hW _ q).2 (by rw [ow_d hd, ho]; unfold gW; omega))
    exact ⟨this.1, this.2.1, q.1, q.2⟩
  obtain ⟨k1, -, k3, k4⟩ := e a h2 h1 h3
  have hW1 : ∀ o, W o → ¬ im_o o := fun o q => (hW o q).1
  refine ⟨h1, Nat.lt_of_lt_of_le h2 F.1, (he a h2).trans h3, k1.trans h4, h5, by rw [k4]; exact h6, (k4 0).trans h7, fun t => (k4 1).trans (h8 t), fun t => ?_, fun t => ?_⟩
  · obtain ⟨g1, g2, g3, g4, g5, g6, g7, g8⟩ := h9 t
    obtain ⟨c1, c2, -, c4⟩ := e _ g4 g3 g5
    rw [k3 3]
    exact ⟨(k4 4).trans g1, (k4 2).trans g2, g3, Nat.lt_of_lt_of_le g4 F.1, (he _ g4).trans g5, c1.trans g6, by rw [c2]; exact g7, fun j hj => (c4 j).trans (g8 j hj)⟩
  · obtain ⟨g1, g2, g3, g4, g5⟩ := h10 t
    obtain ⟨c1, c2, c3, c4⟩ := fw_im F hW1 g2 g1
    rw [k3 5]
    refine ⟨by rw [imm_e he g2]; exact g1, Nat.lt_of_lt_of_le g2 F.1, c1.trans g3, c2.trans g4, fun k hk => ?_⟩
    obtain ⟨d1, d2, d3, d4, d5⟩ := g5 k hk
    rw [c3 k]
    exact ⟨by rw [imm_e he d2]; exact d1, Nat.lt_of_lt_of_le d2 F.1, cv_im d3 d4 h.2.2.2 F he hW1 hG d2 d1, d4, d5⟩
theorem fgC_f (h : hh ρ (u_D u) (u_I u) G) (hk : fgC u ρ G FG) (F : fw ρ W G G') (he : ro_e ρ ρ' G) (hW : ∀ o, W o → ¬ im_o o ∧ ¬ gW o) : fgC u ρ' G' FG := fun i hi => by
  have hG := hh_n h
  have e : ∀ a, 1594 ≤ a → a ≤ 1673 → (∀ j, mj_r G' a j = mj_r G a j) ∧ ∀ j, mj_i G' a j = mj_i G a j := fun a h1 h2 => (F.2.2.2 a (by omega)).2.2 (fun q => (hW _ q).2 (by rw [ow_s (by omega)]; unfold gW; omega))
  obtain ⟨⟨h1, h2⟩, h3⟩ := hk i hi
  obtain ⟨a1, a2⟩ := e (1597 + 8 * i) (by omega) (by omega)
  obtain ⟨-, b2⟩ := e (1598 + 8 * i) (by omega) (by omega)
  obtain ⟨-, c2⟩ := e (1599 + 8 * i) (by omega) (by omega)
  obtain ⟨d1, -⟩ := e (1600 + 8 * i) (by omega) (by omega)
  obtain ⟨e1, -⟩ := e (1601 + 8 * i) (by omega) (by omega)
  refine ⟨⟨fun q => (a1 0).trans (h1 q), fun q => ?_⟩, h3⟩
  obtain ⟨g1, g2, g3, g4, g5, g6, g7, g8, g9, g10, g11, g12, g13, g14, g15, g16⟩ := h2 q
  refine ⟨(a1 0).trans g1, g2, g3, g4, (a2 2).trans g5, g6, fun j hj => ⟨(b2 j).trans (g7 j hj).1, (g7 j hj).2⟩, (a2 3).trans g8, g9, (a2 4).trans g10, (a2 6).trans g11, g12, fun j hj => ⟨(c2 j).trans (g13 j hj).1, (g13 j hj).2⟩, (a2 7).trans g14, (a2 8).trans g15, fun l hl => ⟨fun t => ?_, fun t => ?_⟩⟩
  · rw [d1]
    exact kvl_f h ((g16 l hl).1 t) F he hW
  · rw [e1]
    exact kvl_f h ((g16 l hl).2 t) F he hW
theorem uC_f (h : hh ρ (u_D u) (u_I u) G) (hu : uC u G st hts) (F : fw ρ W G G') (hW : ∀ o, W o → o ≠ 6) : uC u G' st hts := by
  have hG := hh_n h
  have e : ∀ j, mj_i G' 6 j = mj_i G 6 j := fun j => ce_i h F (by decide) (fun q => hW _ q rfl)
  exact ⟨(e 6).trans hu.1, (e 7).trans hu.2.1, (e 8).trans hu.2.2.1, hu.2.2.2⟩
theorem dC_f (h : hh ρ (u_D u) (u_I u) G) (hd : dC u ρ G N B M S V ra rd sp fr b cn) (hS : ∀ k, k < M → S k < N) (F : fw ρ W G G') (he : ro_e ρ ρ' G) (hW : ∀ o, W o → ¬ im_o o ∧ ¬ (67 ≤ o ∧ o ≤ 1506)) : dC u ρ' G' N B M S V ra rd sp fr b cn := by
  obtain ⟨h1, h2, h3⟩ := hd
  refine ⟨ce_fw h h1 F he hW, cu_w h h1 h2 F (fun o q t => (hW o q).2 (by omega)), fun k hk => ?_⟩
  have hf := (h1.2 _ (hS k hk)).1
  have e : ∀ j, mj_i G' (707 + 4 * fr (S k)) j = mj_i G (707 + 4 * fr (S k)) j := fun j => ce_i h F (by omega) (fun q => (hW _ q).2 (by omega))
  obtain ⟨g1, g2, g3⟩ := h3 k hk
  exact ⟨(e 19).trans g1, (e 20).trans g2, (e 21).trans g3⟩
theorem oD_x {o' : ost} (h : oD u G o) (ho : oC G' o') (hx : oX G G') : oD u G' o' := by
  obtain ⟨h1, h2, h3, h4, h5, h6⟩ := h
  exact ⟨ho, (hx.1 2).trans h2, by rw [hx.1 0]; exact h3, h4, hx.2.1.trans h5, fun i hi => (hx.2.2 _ i h4 (fun q => h3 q.symm)).trans (h6 i hi)⟩
theorem oD_f (h : hh ρ (u_D u) (u_I u) G) (ho : oD u G o) (F : fw ρ W G G') (hW : ∀ a, W a → ¬ oW a) : oD u G' o ∧ oX G G' := by
  obtain ⟨h1, h2⟩ := oC_f h ho.1 F hW
  exact ⟨oD_x ho h1 h2, h2⟩
/-- what is written beside the picture leaves it -/
theorem CC_f (hc : CC u ρ G N B M S lc ln op ch V o ra rd sp st hts FG fr b cn top la) (hh' : hh ρ' (u_D u) (u_I u) G') (F : fw ρ W G G') (he : ro_e ρ ρ' G) (hW : ∀ o, W o → ¬ im_o o ∧ ¬ gW o ∧ o ≠ 6 ∧ o ≠ 11 ∧ ¬ (67 ≤ o ∧ o ≤ 1506) ∧ ¬ oW o) : CC u ρ' G' N B M S lc ln op ch V o ra rd sp st hts FG fr b cn top la ∧ FF ρ top cur G G' := by
  obtain ⟨h1, h2, h3, h4, h5, h6, h7, h8, h9⟩ := hc
  have hF : FF ρ top cur G G' := FF_w F h3.2.1 (fun o q t => (hW o q).2.2.2.2.1 (by omega))
  refine ⟨⟨hh', wC_f h1 h2 F he (fun o q => (hW o q).1), sC_F (cur := cur) hF h1 h3, dC_f h1 h4 (fun k hk => (h3.2.2.2.2.2.2.2.2.2.2.2.2.2 k hk).1) F he (fun o q => ⟨(hW o q).1, (hW o q).2.2.2.2.1⟩), ?_, ?_, uC_f h1 h7 F (fun o q => (hW o q).2.2.1), (oD_f h1 h8 F (fun o q => (hW o q).2.2.2.2.2)).1, fgC_f h1 h9 F he (fun o q => ⟨(hW o q).1, (hW o q).2.1⟩)⟩, hF⟩
  · exact (ce_i h1 F (by decide) (fun q => (hW _ q).2.2.2.1 rfl)).trans h5
  · exact (ce_i h1 F (by decide) (fun q => (hW _ q).2.2.2.1 rfl)).trans h6
/-- output put out, nothing else -/
theorem CC_o {o' : ost} (hc : CC u ρ G N B M S lc ln op ch V o ra rd sp st hts FG fr b cn top la) (hh' : hh ρ' (u_D u) (u_I u) G') (F : fw ρ oW G G') (he : ro_e ρ ρ' G) (hx : oX G G') (ho : oC G' o') : CC u ρ' G' N B M S lc ln op ch V o' ra rd sp st hts FG fr b cn top la ∧ FF ρ top cur G G' := by
  obtain ⟨h1, h2, h3, h4, h5, h6, h7, h8, h9⟩ := hc
  have hF : FF ρ top cur G G' := FF_w F h3.2.1 (fun o q t => by unfold oW at q; omega)
  have nim : ∀ o, oW o → ¬ im_o o := fun o q => oW_im q
  refine ⟨⟨hh', wC_f h1 h2 F he nim, sC_F (cur := cur) hF h1 h3, dC_f h1 h4 (fun k hk => (h3.2.2.2.2.2.2.2.2.2.2.2.2.2 k hk).1) F he (fun o q => ⟨nim o q, by unfold oW at q; omega⟩), ?_, ?_, uC_f h1 h7 F (fun o q => by unfold oW at q; omega), oD_x h8 ho hx, fgC_f h1 h9 F he (fun o q => ⟨nim o q, by unfold oW at q; unfold gW; omega⟩)⟩, hF⟩
  · exact (ce_i h1 F (by decide) (fun q => by unfold oW at q; omega)).trans h5
  · exact (ce_i h1 F (by decide) (fun q => by unfold oW at q; omega)).trans h6
end XA
