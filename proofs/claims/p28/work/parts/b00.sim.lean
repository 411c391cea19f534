/-! A VIEW: the ghost machine's object within the real machine's heap (wip/p28/gensim.py) -/
def zv_r (φ : Nat → Nat) (r : Nat) : Nat := if r = 0 then 0 else φ r
def zv_m (φ : Nat → Nat) : mj_V → mj_V
  | .inl x => .inl x
  | .inr (.inl x) => .inr (.inl x)
  | .inr (.inr a) => .inr (.inr (zv_r φ a))
def zv_d (D : Nat → Prop) : mj_V → Prop
  | .inr (.inr a) => a = 0 ∨ D a
  | _ => True
def zv_L (φ : Nat → Nat) (ls : List (Option mj_V)) : List (Option mj_V) := ls.map (fun o => o.map (zv_m φ))
def zv_K (φ : Nat → Nat) (st : List mj_V) : List mj_V := st.map (zv_m φ)
def zv_lD (D : Nat → Prop) (ls : List (Option mj_V)) : Prop := ∀ o, o ∈ ls → ∀ v, o = some v → zv_d D v
def zv_kD (D : Nat → Prop) (st : List mj_V) : Prop := ∀ v, v ∈ st → zv_d D v
/-- a cell of the object, where it lies -/
def zv_C (φ : Nat → Nat) (D : Nat → Prop) (H G : mj_G) (a : Nat) : Prop := (2 ≤ a ∧ a < mj_n H ∧ φ a < mj_n G ∧ ((a = 2 ∧ φ a = 2) ∨ (3 ≤ a ∧ 3 ≤ φ a))) ∧ mj_k G (φ a) = mj_k H a ∧ mj_l G (φ a) = mj_l H a ∧ (∀ j, mj_i G (φ a) j = mj_i H a j) ∧ (∀ j, mj_j G (φ a) j = mj_j H a j) ∧ ∀ j, (mj_r H a j = 0 ∨ D (mj_r H a j)) ∧ mj_r G (φ a) j = zv_r φ (mj_r H a j)
def zv_S (φ : Nat → Nat) (D : Nat → Prop) (H G : mj_G) : Prop := (∀ a, D a → zv_C φ D H G a) ∧ (∀ a b, D a → D b → φ a = φ b → a = b) ∧ D 2 ∧ mj_k H 0 = 0 ∧ mj_k H 2 = 22
/-- a cell stays -/
def zv_q (G G' : mj_G) (b : Nat) : Prop := mj_k G' b = mj_k G b ∧ mj_l G' b = mj_l G b ∧ (∀ j, mj_i G' b j = mj_i G b j) ∧ (∀ j, mj_r G' b j = mj_r G b j) ∧ ∀ j, mj_j G' b j = mj_j G b j
/-- what a step leaves: the view grows, the rest of the heap stays, both heaps grow alike -/
def zv_E (φ : Nat → Nat) (D : Nat → Prop) (H G : mj_G) (φ' : Nat → Nat) (D' : Nat → Prop) (H' G' : mj_G) : Prop := (∀ a, D a → D' a ∧ φ' a = φ a) ∧ (∀ a, D' a → D a ∨ (mj_n H ≤ a ∧ mj_n G ≤ φ' a)) ∧ mj_n H ≤ mj_n H' ∧ mj_n G + mj_n H' = mj_n G' + mj_n H ∧ mj_u G + mj_u H' = mj_u G' + mj_u H ∧ ∀ b, b < mj_n G → (b = 2 ∨ ∀ a, D a → φ a ≠ b) → zv_q G G' b
def zv_go (φ : Nat → Nat) (D : Nat → Prop) (H G : mj_G) (K : mj_K) (F' : mj_K → Prop) : Prop := ∃ q ls2 st2 H' φ' D' G', K q ls2 st2 H' ∧ zv_S φ' D' H' G' ∧ zv_E φ D H G φ' D' H' G' ∧ zv_lD D' ls2 ∧ zv_kD D' st2 ∧ ∀ K' : mj_K, K' q (zv_L φ' ls2) (zv_K φ' st2) G' → F' K'
section SV
variable {φ φ' : Nat → Nat} {D D' : Nat → Prop} {H H' G G' : mj_G} {ls ls2 : List (Option mj_V)} {st st2 : List mj_V} {K : mj_K} {F' : mj_K → Prop} {pc q a b j k n : Nat}
theorem zv_qr : zv_q G G b := ⟨rfl, rfl, fun _ => rfl, fun _ => rfl, fun _ => rfl⟩
theorem zv_qt {G1 G2 : mj_G} (h1 : zv_q G G1 b) (h2 : zv_q G1 G2 b) : zv_q G G2 b := ⟨h2.1.trans h1.1, h2.2.1.trans h1.2.1, fun j => (h2.2.2.1 j).trans (h1.2.2.1 j), fun j => (h2.2.2.2.1 j).trans (h1.2.2.2.1 j), fun j => (h2.2.2.2.2 j).trans (h1.2.2.2.2 j)⟩
theorem zv_Er : zv_E φ D H G φ D H G := ⟨fun _ h => ⟨h, rfl⟩, fun _ h => Or.inl h, Nat.le_refl _, rfl, rfl, fun _ _ _ => zv_qr⟩
theorem zv_Et {φ1 φ2 : Nat → Nat} {D1 D2 : Nat → Prop} {H1 H2 G1 G2 : mj_G} (hS1 : zv_S φ D H G) (h1 : zv_E φ D H G φ1 D1 H1 G1) (h2 : zv_E φ1 D1 H1 G1 φ2 D2 H2 G2) : zv_E φ D H G φ2 D2 H2 G2 := by
  obtain ⟨a1, a2, a3, a4, a5, a6⟩ := h1
  obtain ⟨b1, b2, b3, b4, b5, b6⟩ := h2
  refine ⟨fun a ha => ⟨(b1 a (a1 a ha).1).1, ((b1 a (a1 a ha).1).2).trans (a1 a ha).2⟩, fun a ha => ?_, by omega, by omega, by omega, fun b hb hn => ?_⟩
  · rcases b2 a ha with h | ⟨h, h'⟩
    · rcases a2 a h with h0 | ⟨h0, h0'⟩
      · exact Or.inl h0
      · exact Or.inr ⟨h0, by rw [(b1 a h).2]; exact h0'⟩
    · exact Or.inr ⟨by omega, by omega⟩
  · refine zv_qt (a6 b hb hn) (b6 b (by omega) (hn.imp id fun hn a ha e => ?_))
    rcases a2 a ha with h0 | ⟨h0, h0'⟩
    · exact hn a h0 (by rw [← (a1 a h0).2]; exact e)
    · omega
theorem zv_cell (h : zv_S φ D H G) (ha : D a) : zv_C φ D H G a := h.1 a ha
theorem zv_ne (h : zv_S φ D H G) (ha : D a) : a ≠ 0 ∧ a ≠ 1 ∧ φ a ≠ 0 ∧ φ a ≠ 1 := by
  obtain ⟨⟨h1, -, -, h2⟩, -⟩ := h.1 a ha
  omega
theorem zv_rD (h : zv_S φ D H G) (ha : D a) : zv_r φ a = φ a := if_neg (zv_ne h ha).1
/-- a reference to something -/
theorem zv_at (h : zv_S φ D H G) (hd : a = 0 ∨ D a) (hk : mj_k H a ≠ 0) : D a ∧ zv_r φ a = φ a := by
  rcases hd with rfl | hd
  · exact absurd h.2.2.2.1 hk
  · exact ⟨hd, zv_rD h hd⟩
theorem zv_kc {v : mj_V} (h1 : zv_d D v) (h2 : zv_kD D st) : zv_kD D (v :: st) := fun w hw => by
  rcases List.mem_cons.mp hw with e | e
  · rw [e]; exact h1
  · exact h2 w e
theorem zv_kh {v : mj_V} (h : zv_kD D (v :: st)) : zv_d D v := h v List.mem_cons_self
theorem zv_kt {v : mj_V} (h : zv_kD D (v :: st)) : zv_kD D st := fun w hw => h w (List.mem_cons_of_mem _ hw)
theorem zv_g (ls : List (Option mj_V)) : ∀ k, mj_g (zv_L φ ls) k = (mj_g ls k).map (zv_m φ) := by
  induction ls with
  | nil => exact fun _ => rfl
  | cons x xs ih =>
    intro k
    cases k with
    | zero => rfl
    | succ n => exact ih n
theorem zv_p (ls : List (Option mj_V)) : ∀ (k : Nat) (v : Option mj_V), zv_L φ (mj_p ls k v) = mj_p (zv_L φ ls) k (v.map (zv_m φ)) := by
  induction ls with
  | nil => exact fun _ _ => rfl
  | cons x xs ih =>
    intro k v
    cases k with
    | zero => rfl
    | succ n =>
      show x.map (zv_m φ) :: zv_L φ (mj_p xs n v) = x.map (zv_m φ) :: mj_p (zv_L φ xs) n (v.map (zv_m φ))
      rw [ih n v]
theorem zv_isL (v : Option mj_V) : mj_L (v.map (zv_m φ)) = mj_L v := by
  rcases v with _ | x | x | x <;> rfl
theorem zv_cl0 (ls : List (Option mj_V)) (k : Nat) : zv_L φ (mj_cl0 ls k) = mj_cl0 (zv_L φ ls) k := by
  cases k with
  | zero => rfl
  | succ k =>
    unfold mj_cl0
    dsimp only
    rw [zv_g, zv_isL]
    cases mj_L (mj_g ls k)
    · rfl
    · exact zv_p ls k none
theorem zv_s (ls : List (Option mj_V)) (k : Nat) (v : mj_V) : zv_L φ (mj_s ls k v) = mj_s (zv_L φ ls) k (zv_m φ v) := by
  unfold mj_s
  rw [zv_p, zv_cl0]
  rfl
theorem zv_sL (ls : List (Option mj_V)) (k : Nat) (v : mj_V) : zv_L φ (mj_sL ls k v) = mj_sL (zv_L φ ls) k (zv_m φ v) := by
  unfold mj_sL
  rw [zv_p, zv_p, zv_cl0]
  rfl
theorem zv_len (ls : List (Option mj_V)) : (zv_L φ ls).length = ls.length := List.length_map ..
theorem zv_e (vs : List mj_V) : zv_L φ (mj_e vs) = mj_e (zv_K φ vs) := by
  induction vs with
  | nil => rfl
  | cons v vs ih =>
    rcases v with x | x | x
    · show some (.inl x) :: zv_L φ (mj_e vs) = some (.inl x) :: mj_e (zv_K φ vs)
      rw [ih]
    · show some (.inr (.inl x)) :: none :: zv_L φ (mj_e vs) = some (.inr (.inl x)) :: none :: mj_e (zv_K φ vs)
      rw [ih]
    · show some (.inr (.inr (zv_r φ x))) :: zv_L φ (mj_e vs) = some (.inr (.inr (zv_r φ x))) :: mj_e (zv_K φ vs)
      rw [ih]
theorem zv_en (vs : List mj_V) (n : Nat) : zv_L φ (mj_en vs n) = mj_en (zv_K φ vs) n := by
  unfold mj_en
  rw [← zv_e, zv_len]
  unfold zv_L
  rw [List.map_append, List.map_replicate]
  rfl
theorem zv_w (vs : List mj_V) : mj_w (zv_K φ vs) = mj_w vs := by
  induction vs with
  | nil => rfl
  | cons v vs ih =>
    rcases v with x | x | x
    · show mj_w (zv_K φ vs) + 1 = mj_w vs + 1
      rw [ih]
    · show mj_w (zv_K φ vs) + 2 = mj_w vs + 2
      rw [ih]
    · show mj_w (zv_K φ vs) + 1 = mj_w vs + 1
      rw [ih]
theorem zv_tk : ∀ {n : Nat} {acc st as rest : List mj_V}, mj_tk n acc st = some (as, rest) → mj_tk n (zv_K φ acc) (zv_K φ st) = some (zv_K φ as, zv_K φ rest)
  | 0, acc, st, as, rest, h => by
    cases h
    rfl
  | n + 1, acc, [], as, rest, h => by cases h
  | n + 1, acc, v :: st, as, rest, h => zv_tk (n := n) (acc := v :: acc) (st := st) h
theorem zv_tkD : ∀ {n : Nat} {acc st as rest : List mj_V}, mj_tk n acc st = some (as, rest) → zv_kD D acc → zv_kD D st → zv_kD D as ∧ zv_kD D rest
  | 0, acc, st, as, rest, h, h1, h2 => by
    cases h
    exact ⟨h1, h2⟩
  | n + 1, acc, [], as, rest, h, _, _ => by cases h
  | n + 1, acc, v :: st, as, rest, h, h1, h2 => zv_tkD (n := n) (acc := v :: acc) (st := st) h (zv_kc (zv_kh h2) h1) (zv_kt h2)
theorem zv_gm : ∀ {ls : List (Option mj_V)} {k : Nat} {v : mj_V}, mj_g ls k = some v → some v ∈ ls
  | [], _, _, h => by cases h
  | x :: xs, 0, v, h => by
    have h' : x = some v := h
    rw [h']
    exact List.mem_cons_self
  | x :: xs, n + 1, v, h => List.mem_cons_of_mem _ (zv_gm (ls := xs) (k := n) h)
theorem zv_gd {v : mj_V} (hl : zv_lD D ls) (h : mj_g ls k = some v) : zv_d D v := hl _ (zv_gm h) v rfl
theorem zv_pm : ∀ {ls : List (Option mj_V)} {k : Nat} {o o' : Option mj_V}, o' ∈ mj_p ls k o → o' ∈ ls ∨ o' = o
  | [], _, _, _, h => Or.inl h
  | x :: xs, 0, o, o', h => by
    rcases List.mem_cons.mp h with e | e
    · exact Or.inr e
    · exact Or.inl (List.mem_cons_of_mem _ e)
  | x :: xs, n + 1, o, o', h => by
    rcases List.mem_cons.mp h with e | e
    · exact Or.inl (by rw [e]; exact List.mem_cons_self)
    · rcases zv_pm (ls := xs) e with t | t
      · exact Or.inl (List.mem_cons_of_mem _ t)
      · exact Or.inr t
theorem zv_pd {o : Option mj_V} (hl : zv_lD D ls) (h : ∀ v, o = some v → zv_d D v) : zv_lD D (mj_p ls k o) := fun o' ho' v e => by
  rcases zv_pm ho' with t | t
  · exact hl _ t v e
  · exact h v (t.symm.trans e)
theorem zv_cd (hl : zv_lD D ls) : zv_lD D (mj_cl0 ls k) := by
  unfold mj_cl0
  split
  · exact hl
  · cases mj_L (mj_g ls _)
    · exact hl
    · exact zv_pd hl fun v e => by cases e
theorem zv_sd {v : mj_V} (hl : zv_lD D ls) (h : zv_d D v) : zv_lD D (mj_s ls k v) := zv_pd (zv_cd hl) fun w e => by cases e; exact h
theorem zv_sLd {v : mj_V} (hl : zv_lD D ls) (h : zv_d D v) : zv_lD D (mj_sL ls k v) := zv_pd (zv_pd (zv_cd hl) fun w e => by cases e; exact h) fun w e => by cases e
theorem zv_end : ∀ {vs : List mj_V}, zv_kD D vs → zv_lD D (mj_e vs)
  | [], _ => fun o ho => by cases ho
  | v :: vs, h => by
    have ih := zv_end (vs := vs) (zv_kt h)
    have hv := zv_kh h
    have go : ∀ r : List (Option mj_V), mj_e (v :: vs) = some v :: r → (∀ o, o ∈ r → o = none ∨ o ∈ mj_e vs) → zv_lD D (mj_e (v :: vs)) := fun r e hr o ho w ew => by
      rw [e] at ho
      rcases List.mem_cons.mp ho with t | t
      · rw [t] at ew
        cases ew
        exact hv
      · rcases hr o t with t' | t'
        · rw [t'] at ew; cases ew
        · exact ih o t' w ew
    rcases v with x | x | x
    · exact go _ rfl fun o ho => Or.inr ho
    · refine go _ rfl fun o ho => ?_
      rcases List.mem_cons.mp ho with t | t
      · exact Or.inl t
      · exact Or.inr t
    · exact go _ rfl fun o ho => Or.inr ho
theorem zv_enD {vs : List mj_V} (h : zv_kD D vs) : zv_lD D (mj_en vs n) := fun o ho v e => by
  rcases List.mem_append.mp ho with t | t
  · exact zv_end h o t v e
  · rw [(List.mem_replicate.mp t).2] at e
    cases e
/-- values of a view that has grown -/
theorem zv_mE {v : mj_V} (h : zv_E φ D H G φ' D' H' G') (hv : zv_d D v) : zv_m φ' v = zv_m φ v ∧ zv_d D' v := by
  rcases v with x | x | x
  · exact ⟨rfl, trivial⟩
  · exact ⟨rfl, trivial⟩
  · have hv' : x = 0 ∨ D x := hv
    by_cases q : x = 0
    · subst q
      exact ⟨rfl, Or.inl rfl⟩
    · have hD := hv'.resolve_left q
      refine ⟨?_, Or.inr (h.1 x hD).1⟩
      show (Sum.inr (Sum.inr (zv_r φ' x)) : mj_V) = Sum.inr (Sum.inr (zv_r φ x))
      unfold zv_r
      rw [if_neg q, if_neg q, (h.1 x hD).2]
theorem zv_KE (h : zv_E φ D H G φ' D' H' G') (hk : zv_kD D st) : zv_K φ' st = zv_K φ st ∧ zv_kD D' st := ⟨List.map_congr_left fun v hv => (zv_mE h (hk v hv)).1, fun v hv => (zv_mE h (hk v hv)).2⟩
theorem zv_LE (h : zv_E φ D H G φ' D' H' G') (hl : zv_lD D ls) : zv_L φ' ls = zv_L φ ls ∧ zv_lD D' ls := ⟨List.map_congr_left fun o ho => by
  cases o with
  | none => rfl
  | some v => exact congrArg some (zv_mE h (hl _ ho v rfl)).1, fun o ho v e => (zv_mE h (hl o ho v e)).2⟩
/-- a cell that is not the row without characters -/
theorem zv_k3 (h : zv_S φ D H G) (ha : D a) (hk : mj_k H a ≠ 22) : 3 ≤ a := by
  obtain ⟨⟨-, -, -, t⟩, -⟩ := h.1 a ha
  rcases t with t | t
  · exact absurd (by rw [t.1]; exact h.2.2.2.2) hk
  · exact t.1
-- steps
theorem zv_g0 (hS : zv_S φ D H G) (hK : K q ls2 st2 H) (hl : zv_lD D ls2) (hk : zv_kD D st2) (hF : ∀ K' : mj_K, K' q (zv_L φ ls2) (zv_K φ st2) G → F' K') : zv_go φ D H G K F' := ⟨q, ls2, st2, H, φ, D, G, hK, hS, zv_Er, hl, hk, hF⟩
theorem zv_gb {off : Int} (hS : zv_S φ D H G) (h : mj_br pc off (fun t => K t ls st H)) (hl : zv_lD D ls) (hk : zv_kD D st) (hF : ∀ K' : mj_K, mj_br pc off (fun t => K' t (zv_L φ ls) (zv_K φ st) G) → F' K') : zv_go φ D H G K F' := by
  obtain ⟨t, ht, hK⟩ := rj_br_e h
  refine zv_g0 hS hK hl hk fun K' hK' => hF K' ?_
  unfold mj_br
  rw [ht]
  exact hK'
theorem zv_gs {x : Int32} {d : Int} (hS : zv_S φ D H G) (hl : zv_lD D ls) (hk : zv_kD D st) : ∀ (l : List (Int × Int)) (F' : mj_K → Prop), mj_sw x (mj_br pc d (fun t => K t ls st H)) (fun o => mj_br pc o (fun t => K t ls st H)) l → (∀ K' : mj_K, mj_sw x (mj_br pc d (fun t => K' t (zv_L φ ls) (zv_K φ st) G)) (fun o => mj_br pc o (fun t => K' t (zv_L φ ls) (zv_K φ st) G)) l → F' K') → zv_go φ D H G K F'
  | [], F', h, hF => zv_gb hS h hl hk hF
  | (k, o) :: ps, F', h, hF => by
    by_cases hx : x = Int32.ofInt k
    · exact zv_gb hS (h.1 hx) hl hk fun K' h' => hF K' ⟨fun _ => h', fun n => absurd hx n⟩
    · exact zv_gs hS hl hk ps F' (h.2 hx) fun K' h' => hF K' ⟨fun n => absurd n hx, fun _ => h'⟩
theorem zv_gc {c : Prop} {off : Int} (hS : zv_S φ D H G) (h : (c → mj_br pc off (fun t => K t ls st H)) ∧ (¬ c → K q ls st H)) (hl : zv_lD D ls) (hk : zv_kD D st) (hF : ∀ K' : mj_K, (c → mj_br pc off (fun t => K' t (zv_L φ ls) (zv_K φ st) G)) ∧ (¬ c → K' q (zv_L φ ls) (zv_K φ st) G) → F' K') : zv_go φ D H G K F' := by
  by_cases hc : c
  · exact zv_gb hS (h.1 hc) hl hk fun K' h' => hF K' ⟨fun _ => h', fun n => absurd hc n⟩
  · exact zv_g0 hS (h.2 hc) hl hk fun K' h' => hF K' ⟨fun n => absurd n hc, fun _ => h'⟩
-- loads and stores
theorem zv_ldi {x : Int32} {P : mj_V → Prop} (h : mj_g ls k = some (.inl x)) (hp : P (.inl x)) : mj_ldi (zv_L φ ls) k P := by
  unfold mj_ldi
  rw [zv_g, h]
  exact hp
theorem zv_ldl {x : Int64} {P : mj_V → Prop} (h : mj_g ls k = some (.inr (.inl x))) (hp : P (.inr (.inl x))) : mj_ldl (zv_L φ ls) k P := by
  unfold mj_ldl
  rw [zv_g, h]
  exact hp
theorem zv_lda {x : Nat} {P : mj_V → Prop} (h : mj_g ls k = some (.inr (.inr x))) (hp : P (.inr (.inr (zv_r φ x)))) : mj_lda (zv_L φ ls) k P := by
  unfold mj_lda
  rw [zv_g, h]
  exact hp
theorem zv_sti {x : Int32} {P : List (Option mj_V) → List mj_V → Prop} (h : k < ls.length) (hp : P (zv_L φ (mj_s ls k (.inl x))) st) : mj_sti (zv_L φ ls) k (.inl x :: st) P := by
  show bif decide (k < (zv_L φ ls).length) then P (mj_s (zv_L φ ls) k (.inl x)) st else False
  rw [zv_len, decide_eq_true h, ← show zv_L φ (mj_s ls k (.inl x)) = mj_s (zv_L φ ls) k (.inl x) from zv_s ls k (.inl x)]
  exact hp
theorem zv_stl {x : Int64} {P : List (Option mj_V) → List mj_V → Prop} (h : k + 1 < ls.length) (hp : P (zv_L φ (mj_sL ls k (.inr (.inl x)))) st) : mj_stl (zv_L φ ls) k (.inr (.inl x) :: st) P := by
  show bif decide (k + 1 < (zv_L φ ls).length) then P (mj_sL (zv_L φ ls) k (.inr (.inl x))) st else False
  rw [zv_len, decide_eq_true h, ← show zv_L φ (mj_sL ls k (.inr (.inl x))) = mj_sL (zv_L φ ls) k (.inr (.inl x)) from zv_sL ls k (.inr (.inl x))]
  exact hp
theorem zv_sta {x : Nat} {P : List (Option mj_V) → List mj_V → Prop} (h : k < ls.length) (hp : P (zv_L φ (mj_s ls k (.inr (.inr x)))) st) : mj_sta (zv_L φ ls) k (.inr (.inr (zv_r φ x)) :: st) P := by
  show bif decide (k < (zv_L φ ls).length) then P (mj_s (zv_L φ ls) k (.inr (.inr (zv_r φ x)))) st else False
  rw [zv_len, decide_eq_true h, ← show zv_L φ (mj_s ls k (.inr (.inr x))) = mj_s (zv_L φ ls) k (.inr (.inr (zv_r φ x))) from zv_s ls k (.inr (.inr x))]
  exact hp
-- the heap: written
theorem zv_wI {x : Int32} (h : zv_S φ D H G) (ha : D a) (h3 : 3 ≤ a) : zv_S φ D (mj_pI H a j x) (mj_pI G (φ a) j x) ∧ zv_E φ D H G φ D (mj_pI H a j x) (mj_pI G (φ a) j x) := by
  obtain ⟨h1, h2, h4, h5⟩ := h
  have nb : ∀ b, (b = 2 ∨ ∀ a, D a → φ a ≠ b) → b ≠ φ a := fun b hn e => by
    rcases hn with q | q
    · obtain ⟨⟨-, -, -, t⟩, -⟩ := h1 a ha
      omega
    · exact q a ha e.symm
  refine ⟨⟨fun b hb => ?_, h2, h4, h5⟩, fun b hb => ⟨hb, rfl⟩, fun b hb => Or.inl hb, Nat.le_refl _, rfl, rfl, fun b _ hn => ⟨rfl, rfl, fun i => ?_, fun _ => rfl, fun _ => rfl⟩⟩
  · obtain ⟨c1, c2, c3, c4, c5, c6⟩ := h1 b hb
    refine ⟨c1, c2, c3, fun i => ?_, c5, c6⟩
    show (if φ b = φ a ∧ i = j then x else mj_i G (φ b) i) = if b = a ∧ i = j then x else mj_i H b i
    by_cases e : b = a ∧ i = j
    · rw [if_pos e, if_pos ⟨by rw [e.1], e.2⟩]
    · rw [if_neg e, if_neg fun t => e ⟨h2 b a hb ha t.1, t.2⟩]
      exact c4 i
  · exact if_neg fun t => nb b hn t.1
theorem zv_wJ {x : Int64} (h : zv_S φ D H G) (ha : D a) (h3 : 3 ≤ a) : zv_S φ D (mj_pJ H a j x) (mj_pJ G (φ a) j x) ∧ zv_E φ D H G φ D (mj_pJ H a j x) (mj_pJ G (φ a) j x) := by
  obtain ⟨h1, h2, h4, h5⟩ := h
  have nb : ∀ b, (b = 2 ∨ ∀ a, D a → φ a ≠ b) → b ≠ φ a := fun b hn e => by
    rcases hn with q | q
    · obtain ⟨⟨-, -, -, t⟩, -⟩ := h1 a ha
      omega
    · exact q a ha e.symm
  refine ⟨⟨fun b hb => ?_, h2, h4, h5⟩, fun b hb => ⟨hb, rfl⟩, fun b hb => Or.inl hb, Nat.le_refl _, rfl, rfl, fun b _ hn => ⟨rfl, rfl, fun _ => rfl, fun _ => rfl, fun i => ?_⟩⟩
  · obtain ⟨c1, c2, c3, c4, c5, c6⟩ := h1 b hb
    refine ⟨c1, c2, c3, c4, fun i => ?_, c6⟩
    show (if φ b = φ a ∧ i = j then x else mj_j G (φ b) i) = if b = a ∧ i = j then x else mj_j H b i
    by_cases e : b = a ∧ i = j
    · rw [if_pos e, if_pos ⟨by rw [e.1], e.2⟩]
    · rw [if_neg e, if_neg fun t => e ⟨h2 b a hb ha t.1, t.2⟩]
      exact c5 i
  · exact if_neg fun t => nb b hn t.1
theorem zv_wR {x : Nat} (h : zv_S φ D H G) (ha : D a) (h3 : 3 ≤ a) (hx : x = 0 ∨ D x) : zv_S φ D (mj_pR H a j x) (mj_pR G (φ a) j (zv_r φ x)) ∧ zv_E φ D H G φ D (mj_pR H a j x) (mj_pR G (φ a) j (zv_r φ x)) := by
  obtain ⟨h1, h2, h4, h5⟩ := h
  have nb : ∀ b, (b = 2 ∨ ∀ a, D a → φ a ≠ b) → b ≠ φ a := fun b hn e => by
    rcases hn with q | q
    · obtain ⟨⟨-, -, -, t⟩, -⟩ := h1 a ha
      omega
    · exact q a ha e.symm
  refine ⟨⟨fun b hb => ?_, h2, h4, h5⟩, fun b hb => ⟨hb, rfl⟩, fun b hb => Or.inl hb, Nat.le_refl _, rfl, rfl, fun b _ hn => ⟨rfl, rfl, fun _ => rfl, fun i => ?_, fun _ => rfl⟩⟩
  · obtain ⟨c1, c2, c3, c4, c5, c6⟩ := h1 b hb
    refine ⟨c1, c2, c3, c4, c5, fun i => ?_⟩
    show ((if b = a ∧ i = j then x else mj_r H b i) = 0 ∨ D (if b = a ∧ i = j then x else mj_r H b i)) ∧ (if φ b = φ a ∧ i = j then zv_r φ x else mj_r G (φ b) i) = zv_r φ (if b = a ∧ i = j then x else mj_r H b i)
    by_cases e : b = a ∧ i = j
    · rw [if_pos e, if_pos ⟨by rw [e.1], e.2⟩]
      exact ⟨hx, rfl⟩
    · rw [if_neg e, if_neg fun t => e ⟨h2 b a hb ha t.1, t.2⟩]
      exact c6 i
  · exact if_neg fun t => nb b hn t.1
theorem zv_wC {a0 sp dp m : Nat} (h : zv_S φ D H G) (ha : D a) (h3 : 3 ≤ a) (h0 : D a0) : zv_S φ D (mj_cp H a0 sp a dp m) (mj_cp G (φ a0) sp (φ a) dp m) ∧ zv_E φ D H G φ D (mj_cp H a0 sp a dp m) (mj_cp G (φ a0) sp (φ a) dp m) := by
  obtain ⟨h1, h2, h4, h5⟩ := h
  have nb : ∀ b, (b = 2 ∨ ∀ a, D a → φ a ≠ b) → b ≠ φ a := fun b hn e => by
    rcases hn with q | q
    · obtain ⟨⟨-, -, -, t⟩, -⟩ := h1 a ha
      omega
    · exact q a ha e.symm
  refine ⟨⟨fun b hb => ?_, h2, h4, h5⟩, fun b hb => ⟨hb, rfl⟩, fun b hb => Or.inl hb, Nat.le_refl _, rfl, rfl, fun b _ hn => ⟨rfl, rfl, fun i => ?_, fun _ => rfl, fun _ => rfl⟩⟩
  · obtain ⟨c1, c2, c3, c4, c5, c6⟩ := h1 b hb
    refine ⟨c1, c2, c3, fun i => ?_, c5, c6⟩
    show (if φ b = φ a ∧ dp ≤ i ∧ i < dp + m then mj_i G (φ a0) (sp + (i - dp)) else mj_i G (φ b) i) = if b = a ∧ dp ≤ i ∧ i < dp + m then mj_i H a0 (sp + (i - dp)) else mj_i H b i
    by_cases e : b = a ∧ dp ≤ i ∧ i < dp + m
    · rw [if_pos e, if_pos ⟨by rw [e.1], e.2⟩]
      exact (h1 a0 h0).2.2.2.1 _
    · rw [if_neg e, if_neg fun t => e ⟨h2 b a hb ha t.1, t.2⟩]
      exact c4 i
  · exact if_neg fun t => nb b hn t.1
/-- the view with a new cell -/
def zv_f (φ : Nat → Nat) (H G : mj_G) : Nat → Nat := fun x => if x = mj_n H then mj_n G else φ x
def zv_D (D : Nat → Prop) (H : mj_G) : Nat → Prop := fun x => D x ∨ x = mj_n H
theorem zv_al {kd len : Nat} {row row' : Nat → Int32} (h : zv_S φ D H G) (hr : ∀ j, row' j = row j) (hk0 : kd ≠ 0) : zv_S (zv_f φ H G) (zv_D D H) (mj_al H kd len row) (mj_al G kd len row') ∧ zv_E φ D H G (zv_f φ H G) (zv_D D H) (mj_al H kd len row) (mj_al G kd len row') := by
  obtain ⟨h1, h2, h4, h5⟩ := h
  have hH3 : 3 ≤ mj_n H := by
    have := (h1 2 h4).1.2.1
    omega
  have hG3 : 3 ≤ mj_n G := by
    obtain ⟨-, -, t1, t2⟩ := (h1 2 h4).1
    omega
  have fo : ∀ b, D b → zv_f φ H G b = φ b ∧ b ≠ mj_n H := fun b hb => by
    have := (h1 b hb).1.2.1
    exact ⟨if_neg (by omega), by omega⟩
  have fn : zv_f φ H G (mj_n H) = mj_n G := if_pos rfl
  have sr : ∀ x, x = 0 ∨ D x → zv_r (zv_f φ H G) x = zv_r φ x := fun x hx => by
    unfold zv_r
    by_cases q : x = 0
    · rw [if_pos q, if_pos q]
    · rw [if_neg q, if_neg q, (fo x (hx.resolve_left q)).1]
  refine ⟨⟨fun b hb => ?_, fun b c hb hc e => ?_, Or.inl h4, ?_⟩, fun b hb => ⟨Or.inl hb, (fo b hb).1⟩, fun b hb => ?_, Nat.le_succ _, ?_, ?_, fun b hb _ => ?_⟩
  · rcases hb with hb | rfl
    · obtain ⟨c1, c2, c3, c4, c5, c6⟩ := h1 b hb
      obtain ⟨e1, e2⟩ := fo b hb
      have e3 : φ b ≠ mj_n G := by omega
      unfold zv_C
      rw [e1]
      refine ⟨⟨c1.1, Nat.lt_succ_of_lt c1.2.1, Nat.lt_succ_of_lt c1.2.2.1, c1.2.2.2⟩, ?_, ?_, fun j => ?_, fun j => ?_, fun j => ?_⟩
      · exact (if_neg e3).trans (c2.trans (if_neg e2).symm)
      · exact (if_neg e3).trans (c3.trans (if_neg e2).symm)
      · exact (if_neg e3).trans ((c4 j).trans (if_neg e2).symm)
      · exact (if_neg e3).trans ((c5 j).trans (if_neg e2).symm)
      · have e4 : mj_r (mj_al H kd len row) b j = mj_r H b j := if_neg e2
        rw [e4, sr _ (c6 j).1]
        refine ⟨(c6 j).1.imp id Or.inl, ?_⟩
        exact (if_neg e3).trans (c6 j).2
    · unfold zv_C
      rw [fn]
      refine ⟨⟨by omega, Nat.lt_succ_self _, Nat.lt_succ_self _, Or.inr ⟨hH3, hG3⟩⟩, ?_, ?_, fun j => ?_, fun j => ?_, fun j => ?_⟩
      · exact (if_pos rfl).trans (if_pos rfl).symm
      · exact (if_pos rfl).trans (if_pos rfl).symm
      · exact (if_pos rfl).trans ((hr j).trans (if_pos rfl).symm)
      · exact (if_pos rfl).trans (if_pos rfl).symm
      · have e4 : mj_r (mj_al H kd len row) (mj_n H) j = 0 := if_pos rfl
        rw [e4]
        exact ⟨Or.inl rfl, if_pos rfl⟩
  · have lt : ∀ x, D x → φ x < mj_n G := fun x hx => (h1 x hx).1.2.2.1
    rcases hb with hb | rfl
    · rcases hc with hc | rfl
      · rw [(fo b hb).1, (fo c hc).1] at e
        exact h2 b c hb hc e
      · rw [(fo b hb).1, fn] at e
        have := lt b hb
        omega
    · rcases hc with hc | rfl
      · rw [(fo c hc).1, fn] at e
        have := lt c hc
        omega
      · rfl
  · exact ⟨(if_neg (by omega)).trans h5.1, (if_neg (by omega)).trans h5.2⟩
  · rcases hb with hb | rfl
    · exact Or.inl hb
    · exact Or.inr ⟨Nat.le_refl _, by rw [fn]; exact Nat.le_refl _⟩
  · show mj_n G + (mj_n H + 1) = (mj_n G + 1) + mj_n H
    omega
  · show mj_u G + (mj_u H + len) = (mj_u G + len) + mj_u H
    omega
  · have e3 : b ≠ mj_n G := by omega
    exact ⟨if_neg e3, if_neg e3, fun j => if_neg e3, fun j => if_neg e3, fun j => if_neg e3⟩
/-- what is met behind a new cell -/
theorem zv_ga {kd len : Nat} {row row' : Nat → Int32} (hS : zv_S φ D H G) (hr : ∀ j, row' j = row j) (hk0 : kd ≠ 0) (hK : K q ls (.inr (.inr (mj_n H)) :: st) (mj_al H kd len row)) (hl : zv_lD D ls) (hk : zv_kD D st) (hF : ∀ K' : mj_K, K' q (zv_L φ ls) (.inr (.inr (mj_n G)) :: zv_K φ st) (mj_al G kd len row') → F' K') : zv_go φ D H G K F' := by
  obtain ⟨hS', hE⟩ := zv_al (len := len) hS hr hk0
  obtain ⟨l1, l2⟩ := zv_LE hE hl
  obtain ⟨k1, k2⟩ := zv_KE hE hk
  have hn0 : mj_n H ≠ 0 := by
    have := (hS.1 2 hS.2.2.1).1.2.1
    omega
  refine ⟨_, _, _, _, _, _, _, hK, hS', hE, l2, zv_kc (Or.inr (Or.inr rfl)) k2, fun K' hK' => hF K' ?_⟩
  have e : zv_K (zv_f φ H G) (.inr (.inr (mj_n H)) :: st) = .inr (.inr (mj_n G)) :: zv_K φ st := by
    show (.inr (.inr (zv_r (zv_f φ H G) (mj_n H))) : mj_V) :: zv_K (zv_f φ H G) st = _
    rw [k1, show zv_r (zv_f φ H G) (mj_n H) = mj_n G from (if_neg hn0).trans (if_pos rfl)]
  rw [l1, e] at hK'
  exact hK'
theorem zv_gw (hS' : zv_S φ D H' G') (hE : zv_E φ D H G φ D H' G') (hK : K q ls st H') (hl : zv_lD D ls) (hk : zv_kD D st) (hF : ∀ K' : mj_K, K' q (zv_L φ ls) (zv_K φ st) G' → F' K') : zv_go φ D H G K F' := ⟨q, ls, st, H', φ, D, G', hK, hS', hE, hl, hk, hF⟩
end SV
