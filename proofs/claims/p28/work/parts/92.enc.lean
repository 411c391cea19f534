/-! RENDERING: the class's variables, by scopes, and what is told to kept fragments -/
def sf (fr : Nat → Nat) (x : Nat) : Int32 := if x = 0 then Int32.ofInt (-1) else nI (fr (x - 1))
theorem sf_0 {fr : Nat → Nat} : sf fr 0 = Int32.ofInt (-1) := rfl
theorem sf_s {fr : Nat → Nat} {x : Nat} : sf fr (x + 1) = nI (fr x) := rfl
theorem sf_h {fr : Nat → Nat} {x : Nat} : sf fr x = sh (if x = 0 then 0 else fr (x - 1) + 1) := by
  cases x with
  | zero => rfl
  | succ x => rw [if_neg (by omega)]; rfl
/-- rows of a variable's characters, and of what a variable may be found to be -/
def vP (ρ : Nat → Nat) (p c : Nat) : Prop := ow ρ c = 67 + 2 * p ∧ 1768 ≤ c
def eP (ρ : Nat → Nat) (c : Nat) : Prop := imm ρ c ∨ (67 ≤ ow ρ c ∧ ow ρ c ≤ 706)
/-- N scopes, each one a frame; its variables from b on, cn of them -/
def ce (ρ : Nat → Nat) (D : Nat → rv) (G : mj_G) (N : Nat) (B : Nat → Nat) (V : Nat → Nat → Option rv) (fr b cn : Nat → Nat) : Prop := N ≤ 200 ∧ ∀ s, s < N → fr s < 200 ∧ b s + cn s ≤ 320 ∧ (∀ r, r < s → fr r < fr s ∧ b r + cn r ≤ b s) ∧ mj_i G (707 + 4 * fr s) 4 = sf fr (B s) ∧ mj_i G (707 + 4 * fr s) 5 = nI (b s) ∧ mj_i G (707 + 4 * fr s) 6 = nI (cn s) ∧
  (∀ p, b s ≤ p → p < b s + cn s → mj_i G (67 + 2 * p) 6 = Int32.ofInt (-1) ∨ ∃ l v, l < 26 ∧ mj_i G (67 + 2 * p) 6 = nI l ∧ V s l = some v ∧ cv (vP ρ p) G (67 + 2 * p) v ∧ rv_in D v) ∧ ∀ l v, V s l = some v → ∃ p, b s ≤ p ∧ p < b s + cn s ∧ mj_i G (67 + 2 * p) 6 = nI l
/-- the kept fragments that are open: M of them -/
def kc (fr S : Nat → Nat) (k : Nat) : Int32 := if k = 0 then Int32.ofInt (-1) else nI (fr (S (k - 1)))
def ck (G : mj_G) (N M : Nat) (S fr : Nat → Nat) (top : Nat) (ra rd : Nat → Int32) : Prop := M ≤ 12 ∧ top < 200 ∧ mj_i G 11 4 = nI top ∧ mj_i G (707 + 4 * top) 11 = kc fr S M ∧ ∀ k, k < M → S k < N ∧ (∀ j, j < k → S j < S k) ∧ 1 ≤ fr (S k) ∧ mj_i G (707 + 4 * (fr (S k) - 1)) 11 = kc fr S k ∧ mj_i G (707 + 4 * fr (S k)) 19 = ra k ∧ mj_i G (707 + 4 * fr (S k)) 20 = rd k
/-- what telling them writes -/
def nf (G G' : mj_G) : Prop := mj_n G' = mj_n G ∧ mj_u G' = mj_u G ∧ (∀ a, mj_k G' a = mj_k G a ∧ mj_l G' a = mj_l G a) ∧ (∀ a j, mj_r G' a j = mj_r G a j) ∧ ∀ a j, (707 ≤ a ∧ a ≤ 1506 ∧ (j = 19 ∨ j = 20)) ∨ mj_i G' a j = mj_i G a j
def fF (o : Nat) : Prop := 707 ≤ o ∧ o ≤ 1506
section CE
variable {ρ ρ' : Nat → Nat} {D : Nat → rv} {I : Nat → Nat → rv} {G G' : mj_G} {N M d l x top : Nat} {B S fr b cn : Nat → Nat} {V : Nat → Nat → Option rv} {v : rv} {W : Nat → Prop} {ra rd : Nat → Int32}
theorem nf_r : nf G G := ⟨rfl, rfl, fun _ => ⟨rfl, rfl⟩, fun _ _ => rfl, fun _ _ => Or.inr rfl⟩
theorem nf_t {G1 : mj_G} (h1 : nf G G1) (h2 : nf G1 G') : nf G G' := ⟨h2.1.trans h1.1, h2.2.1.trans h1.2.1, fun a => ⟨(h2.2.2.1 a).1.trans (h1.2.2.1 a).1, (h2.2.2.1 a).2.trans (h1.2.2.1 a).2⟩, fun a j => (h2.2.2.2.1 a j).trans (h1.2.2.2.1 a j), fun a j => by
  rcases h2.2.2.2.2 a j with q | q
  · exact Or.inl q
  · rcases h1.2.2.2.2 a j with q1 | q1
    · exact Or.inl q1
    · exact Or.inr (q.trans q1)⟩
theorem fF_im {o : Nat} (h : fF o) : ¬ im_o o := by
  unfold fF at h
  unfold im_o
  omega
theorem nf_I {i j : Nat} {y : Int32} (hi : i < 200) (hj : j = 19 ∨ j = 20) : nf G (mj_pI G (707 + 4 * i) j y) := ⟨rfl, rfl, fun _ => ⟨rfl, rfl⟩, fun _ _ => rfl, fun a q => by
  by_cases h : a = 707 + 4 * i ∧ q = j
  · exact Or.inl ⟨by omega, by omega, by omega⟩
  · exact Or.inr (if_neg h)⟩
theorem ce_cv {p : Nat} (h : hh ρ D I G) (F : fw ρ W G G') (he : ro_e ρ ρ' G) (hW : ∀ o, W o → ¬ im_o o ∧ ¬ (67 ≤ o ∧ o ≤ 706)) (hp : p < 320) (hv : rv_ok v) (hc : cv (vP ρ p) G (67 + 2 * p) v) : cv (vP ρ' p) G' (67 + 2 * p) v := by
  have hG := hh_n h
  refine cv_fw hc hv h.2.2.2 F (fun o q => (hW o q).1) hG (by omega) (by rw [ow_s (by omega)]; exact fun q => (hW _ q).2 (by omega)) (fun c hcn q => ⟨fun r => (hW _ r).2 ?_, ?_⟩)
  · have := q.1
    omega
  · unfold vP at q ⊢
    rw [ro_ow he hcn]
    exact q
theorem ce_i (h : hh ρ D I G) (F : fw ρ W G G') {a j : Nat} (ha : a < 1768) (hW : ¬ W a) : mj_i G' a j = mj_i G a j := by
  have hG := hh_n h
  exact ((F.2.2.2 a (by omega)).2.2 (by rw [ow_s ha]; exact hW)).2 j
/-- the variables stay, where neither frames nor variables are written -/
theorem ce_fw (h : hh ρ D I G) (hE : ce ρ D G N B V fr b cn) (F : fw ρ W G G') (he : ro_e ρ ρ' G) (hW : ∀ o, W o → ¬ im_o o ∧ ¬ (67 ≤ o ∧ o ≤ 1506)) : ce ρ' D G' N B V fr b cn := by
  refine ⟨hE.1, fun s hs => ?_⟩
  obtain ⟨h1, h2, h3, h4, h5, h6, h7, h8⟩ := hE.2 s hs
  have e : ∀ j, mj_i G' (707 + 4 * fr s) j = mj_i G (707 + 4 * fr s) j := fun j => ce_i h F (by omega) (fun q => (hW _ q).2 (by omega))
  have ev : ∀ p j, p < 320 → mj_i G' (67 + 2 * p) j = mj_i G (67 + 2 * p) j := fun p j hp => ce_i h F (by omega) (fun q => (hW _ q).2 (by omega))
  refine ⟨h1, h2, h3, (e 4).trans h4, (e 5).trans h5, (e 6).trans h6, fun p p1 p2 => ?_, fun l v q => ?_⟩
  · rcases h7 p p1 p2 with g | ⟨l, v, g1, g2, g3, g4, g5⟩
    · exact Or.inl ((ev p 6 (by omega)).trans g)
    · exact Or.inr ⟨l, v, g1, (ev p 6 (by omega)).trans g2, g3, ce_cv h F he (fun o q => ⟨(hW o q).1, fun r => (hW o q).2 (by omega)⟩) (by omega) g5.1 g4, g5⟩
  · obtain ⟨p, p1, p2, p3⟩ := h8 l v q
    exact ⟨p, p1, p2, (ev p 6 (by omega)).trans p3⟩
theorem ck_fw (h : hh ρ D I G) (hk : ck G N M S fr top ra rd) (hfr : ∀ s, s < N → fr s < 200) (F : fw ρ W G G') (hW : ∀ o, W o → o ≠ 11 ∧ ¬ (707 ≤ o ∧ o ≤ 1506)) : ck G' N M S fr top ra rd := by
  obtain ⟨h1, h2, h3, h4, h5⟩ := hk
  have e : ∀ i j, i < 200 → mj_i G' (707 + 4 * i) j = mj_i G (707 + 4 * i) j := fun i j hi => ce_i h F (by omega) (fun q => (hW _ q).2 (by omega))
  refine ⟨h1, h2, (ce_i h F (by decide) (fun q => (hW _ q).1 rfl)).trans h3, (e _ _ h2).trans h4, fun k hk => ?_⟩
  obtain ⟨g1, g2, g3, g4, g5, g6⟩ := h5 k hk
  have := hfr _ g1
  exact ⟨g1, g2, g3, (e _ _ (by omega)).trans g4, (e _ _ (by omega)).trans g5, (e _ _ (by omega)).trans g6⟩
/-- the variables stay, where fragments are told -/
theorem ce_nf (h : hh ρ D I G) (hE : ce ρ D G N B V fr b cn) (hn : nf G G') (F : fw ρ fF G G') : ce ρ D G' N B V fr b cn := by
  obtain ⟨-, -, -, -, n5⟩ := hn
  refine ⟨hE.1, fun s hs => ?_⟩
  obtain ⟨h1, h2, h3, h4, h5, h6, h7, h8⟩ := hE.2 s hs
  have e : ∀ j, j ≠ 19 → j ≠ 20 → mj_i G' (707 + 4 * fr s) j = mj_i G (707 + 4 * fr s) j := fun j j1 j2 => by
    rcases n5 (707 + 4 * fr s) j with q | q
    · omega
    · exact q
  have ev : ∀ p j, p < 320 → mj_i G' (67 + 2 * p) j = mj_i G (67 + 2 * p) j := fun p j hp => by
    rcases n5 (67 + 2 * p) j with q | q
    · omega
    · exact q
  refine ⟨h1, h2, h3, (e 4 (by decide) (by decide)).trans h4, (e 5 (by decide) (by decide)).trans h5, (e 6 (by decide) (by decide)).trans h6, fun p p1 p2 => ?_, fun l v q => ?_⟩
  · rcases h7 p p1 p2 with g | ⟨l, v, g1, g2, g3, g4, g5⟩
    · exact Or.inl ((ev p 6 (by omega)).trans g)
    · exact Or.inr ⟨l, v, g1, (ev p 6 (by omega)).trans g2, g3, ce_cv h F ro_r (fun o q => ⟨fF_im q, fun r => by unfold fF at q; omega⟩) (by omega) g5.1 g4, g5⟩
  · obtain ⟨p, p1, p2, p3⟩ := h8 l v q
    exact ⟨p, p1, p2, (ev p 6 (by omega)).trans p3⟩
/-- where a variable is found -/
def c_ok (ρ : Nat → Nat) (D : Nat → rv) (G : mj_G) (B : Nat → Nat) (V : Nat → Nat → Option rv) (b cn : Nat → Nat) (l x p : Nat) : Prop := p < 320 ∧ e_fd B V l x x ≠ 0 ∧ b (e_fd B V l x x - 1) ≤ p ∧ p < b (e_fd B V l x x - 1) + cn (e_fd B V l x x - 1) ∧ cv (vP ρ p) G (67 + 2 * p) (e_vl D B V l x) ∧ rv_in D (e_vl D B V l x)
theorem c_placeFrom5 {K : Int32 → mj_G → Prop} (h : hh ρ D I G) (hE : ce ρ D G N B V fr b cn) (hB : ∀ s, B s ≤ s) (hl : l < 26) : ∀ {n i x : Nat}, x ≤ n → x ≤ N → i + x ≤ 200 → (e_fd B V l x x = 0 → K (Int32.ofInt (-1)) G) → (∀ p, c_ok ρ D G B V b cn l x p → K (nI p) G) → St_placeFrom_5 d (nI l) (sf fr x) (nI i) G K
  | n, i, x, hn, hx, hi, h1, h2 => by
    have hN := hE.1
    by_cases h0 : x = 0
    · subst h0
      exact w_St_placeFrom_5 h.1 (z_br (fun _ => h1 rfl) (fun _ => z_bt (by show Int32.ofInt (-1) < nI 0; decide) (h1 rfl)))
    · obtain ⟨y, rfl⟩ : ∃ y, x = y + 1 := ⟨x - 1, by omega⟩
      obtain ⟨g1, g2, g3, g4, g5, g6, g7, g8⟩ := hE.2 y (by omega)
      have e := e_fd_s (V := V) (l := l) hB h0
      rw [Nat.add_sub_cancel] at e
      have hby := hB y
      refine w_St_placeFrom_5 h.1 (z_bf (by rw [z_le (by decide) (by omega)]; omega) ?_)
      rw [sf_s]
      refine z_bf (by rw [z_lt (by omega) (by decide)]; omega) (z_ixi g1 (by decide) ?_)
      rw [g5, g6, z_add, z_mn (by omega) (by decide), Nat.min_eq_left g2]
      -- the variables of this scope, from p on
      have go : ∀ m p, p + m = b y + cn y → b y ≤ p → (∀ q, b y ≤ q → q < p → ¬ mj_i G (67 + 2 * q) 6 = nI l) → St_placeFrom_51 d (nI l) (nI i) (707 + 4 * fr y) (nI (b y + cn y)) (nI p) G K := fun m => by
        induction m with
        | zero =>
          intro p hp hbp hno
          refine w_St_placeFrom_51 h.1 (z_bt (by rw [z_le (by omega) (by omega)]; omega) ⟨cs_g14 h.1 g1, ?_⟩)
          rw [g4, z_add]
          have hV : V y l = none := by
            cases hV : V y l with
            | none => rfl
            | some v =>
              obtain ⟨q, q1, q2, q3⟩ := g8 l v hV
              exact absurd q3 (hno q q1 (by omega))
          have e2 : e_fd B V l (y + 1) (y + 1) = e_fd B V l (B y) (B y) := by rw [e, hV]; rfl
          have e3 : e_vl D B V l (y + 1) = e_vl D B V l (B y) := by unfold e_vl; rw [e2]
          cases n with
          | zero => omega
          | succ n =>
            refine c_placeFrom5 h hE hB hl (n := n) (x := B y) (by omega) (by omega) (by omega) (fun q => h1 (e2.trans q)) (fun p hp => h2 p ?_)
            unfold c_ok at hp ⊢
            rw [e2, e3]
            exact hp
        | succ m ih =>
          intro p hp hbp hno
          refine w_St_placeFrom_51 h.1 (z_bf (by rw [z_le (by omega) (by omega)]; omega) (z_ixi (by omega) (by decide) (z_br (fun q => ?_) (fun q => ?_))))
          · rcases g7 p hbp (by omega) with g | ⟨l', v, k1, k2, k3, k4, k5⟩
            · rw [g] at q
              rw [show (Int32.ofInt (-1) = nI l) = (l + 1 = 0) from by rw [← sh_s, ← sh_n (x := l + 1) (by omega)]; exact propext ⟨fun r => r.symm, fun r => r.symm⟩] at q
              omega
            · rw [k2, z_eq (by omega) (by omega)] at q
              subst q
              have e2 : e_fd B V l' (y + 1) (y + 1) = y + 1 := by rw [e, k3]; rfl
              have e3 : e_vl D B V l' (y + 1) = v := by unfold e_vl; rw [e2, if_neg (by omega), Nat.add_sub_cancel, k3]; rfl
              refine h2 p ?_
              unfold c_ok
              rw [e2, e3]
              exact ⟨by omega, by omega, hbp, by rw [Nat.add_sub_cancel]; omega, k4, k5⟩
          · rw [z_add]
            exact ih (p + 1) (by omega) (by omega) (fun r r1 r2 => by
              by_cases er : r = p
              · rw [er]; exact q
              · exact hno r r1 (by omega))
      exact go (cn y) (b y) rfl (Nat.le_refl _) (fun q q1 q2 => absurd q1 (by omega))
theorem c_placeFrom {K : Int32 → mj_G → Prop} (h : hh ρ D I G) (hE : ce ρ D G N B V fr b cn) (hB : ∀ s, B s ≤ s) (hl : l < 26) (hx : x ≤ N) (h1 : e_fd B V l x x = 0 → K (Int32.ofInt (-1)) G) (h2 : ∀ p, c_ok ρ D G B V b cn l x p → K (nI p) G) : St_placeFrom d (sf fr x) (nI l) G K :=
  w_St_placeFrom h.1 (c_placeFrom5 h hE hB hl (Nat.le_refl _) hx (by have := hE.1; omega) h1 h2)
/-- the cell of a variable's value -/
def e_at (ρ : Nat → Nat) (D : Nat → rv) (G : mj_G) (v : rv) (a : Nat) : Prop := a < mj_n G ∧ (imm ρ a ∨ (67 ≤ a ∧ a ≤ 706)) ∧ cv (eP ρ) G a v ∧ rv_in D v
theorem e_atD (h : hh ρ D I G) (hl : l < 26) (hq : e_fd B V l x x = 0) : e_at ρ D G (e_vl D B V l x) (mj_r G 12 l) := by
  obtain ⟨a1, a2, a3, a4, a5⟩ := h.2.2.2 l hl
  unfold e_vl
  rw [if_pos hq]
  refine ⟨a2, Or.inl a1, cv_m a3 (fun c q => Or.inl q), a4, fun q => ?_⟩
  obtain ⟨b1, -⟩ := a5 q
  rw [b1]
  exact ⟨q, rfl⟩
theorem e_atV {p : Nat} (h : hh ρ D I G) (hp : c_ok ρ D G B V b cn l x p) : e_at ρ D G (e_vl D B V l x) (67 + 2 * p) := by
  obtain ⟨p1, p2, p3, p4, p5, p6⟩ := hp
  have hG := hh_n h
  refine ⟨by omega, Or.inr (by omega), cv_m p5 (fun c q => Or.inr ?_), p6⟩
  rw [q.1]; omega
theorem c_valueFrom {K : Nat → mj_G → Prop} (h : hh ρ D I G) (hE : ce ρ D G N B V fr b cn) (hB : ∀ s, B s ≤ s) (hl : l < 26) (hx : x ≤ N) (hK : ∀ a, e_at ρ D G (e_vl D B V l x) a → K a G) : St_valueFrom (d + 1) (sf fr x) (nI l) G K := by
  refine w_St_valueFrom h.1 (c_placeFrom h hE hB hl hx (fun q => z_bt rfl (z_ixi hl (by decide) (hK _ (e_atD h hl q)))) (fun p hp => ?_))
  have := hp.1
  rw [show (nI p = Int32.ofInt (-1)) = (p + 1 = 0) from by rw [← sh_s, sh_n (by omega)]]
  exact z_bf (by omega) (z_ixi hp.1 (by decide) (hK _ (e_atV h hp)))
/-- what was read is told -/
theorem c_tell {y : Nat} {c : Int32} {K : mj_G → Prop} (h : hh ρ D I G) (hE : ce ρ D G N B V fr b cn) (hk : ck G N M S fr top ra rd) (hB : ∀ s, B s ≤ s) (hl : l < 26) (hx : x ≤ N) (hy : (y = 0 ∧ c = Int32.ofInt (-1)) ∨ (y ≠ 0 ∧ y ≤ N ∧ ∃ p, p < 320 ∧ c = nI p ∧ b (y - 1) ≤ p ∧ p < b (y - 1) + cn (y - 1)))
    (hK : ∀ G', hh ρ D I G' → nf G G' → fw ρ fF G G' → ck G' N M S fr top (e_na B M S l x y ra) (e_nd B M S l x y rd) → K G') : St_noteRead d (sf fr x) c (nI l) G K := by
  have hN := hE.1
  obtain ⟨hM12, htop, h11, hkt, hkk⟩ := hk
  have hfr : ∀ s, s < N → fr s < 200 := fun s hs => (hE.2 s hs).1
  have hmono : ∀ s r, s < N → r < s → fr r < fr s ∧ b r + cn r ≤ b s := fun s r hs hr => (hE.2 s hs).2.2.1 r hr
  have hinj : ∀ k j, k < M → j < M → fr (S k) = fr (S j) → k = j := fun k j hk hj e => by
    have g1 := hkk k hk
    have g2 := hkk j hj
    by_cases a1 : k < j
    · have := g2.2.1 k a1
      have := (hmono _ _ g2.1 this).1
      omega
    · by_cases a2 : j < k
      · have := g1.2.1 j a2
        have := (hmono _ _ g1.1 this).1
        omega
      · omega
  -- the state ahead of the j-th one: those from j on are told
  have fin : ∀ G1, hh ρ D I G1 → nf G G1 → fw ρ fF G G1 → (∀ k, k < M → mj_i G1 (707 + 4 * fr (S k)) 19 = e_na B M S l x y ra k ∧ mj_i G1 (707 + 4 * fr (S k)) 20 = e_nd B M S l x y rd k) → K G1 := fun G1 h1 n1 F1 g => by
    have e : ∀ a j, j ≠ 19 → j ≠ 20 → mj_i G1 a j = mj_i G a j := fun a j j1 j2 => by
      rcases n1.2.2.2.2 a j with q | q
      · omega
      · exact q
    refine hK G1 h1 n1 F1 ⟨hM12, htop, (e _ _ (by decide) (by decide)).trans h11, (e _ _ (by decide) (by decide)).trans hkt, fun k hk => ?_⟩
    obtain ⟨g1, g2, g3, g4, g5, g6⟩ := hkk k hk
    obtain ⟨q1, q2⟩ := g k hk
    exact ⟨g1, g2, g3, (e _ _ (by decide) (by decide)).trans g4, q1, q2⟩
  have go : ∀ j i G1, j ≤ M → i + j = M → hh ρ D I G1 → nf G G1 → fw ρ fF G G1 → (∀ k, k < M → mj_i G1 (707 + 4 * fr (S k)) 19 = (if j ≤ k then e_na B M S l x y ra k else ra k) ∧ mj_i G1 (707 + 4 * fr (S k)) 20 = (if j ≤ k then e_nd B M S l x y rd k else rd k)) → St_noteRead_17 d (sf fr x) c (nI l) (kc fr S j) (nI i) G1 K := fun j => by
    induction j with
    | zero =>
      intro i G1 hj hi h1 n1 F1 g
      refine w_St_noteRead_17 h1.1 (z_bf (by rw [z_le (by decide) (by omega)]; omega) (z_bt (by show Int32.ofInt (-1) ≤ nI 0; decide) (fin G1 h1 n1 F1 (fun k hk => ?_))))
      obtain ⟨q1, q2⟩ := g k hk
      rw [if_pos (Nat.zero_le k)] at q1 q2
      exact ⟨q1, q2⟩
    | succ j ih =>
      intro i G1 hj hi h1 n1 F1 g
      obtain ⟨g1, g2, g3, g4, g5, g6⟩ := hkk j (by omega)
      have hf := hfr _ g1
      obtain ⟨-, e2, -, -, e5, -⟩ := hE.2 _ g1
      have e : ∀ a j, j ≠ 19 → j ≠ 20 → mj_i G1 a j = mj_i G a j := fun a j j1 j2 => by
        rcases n1.2.2.2.2 a j with q | q
        · omega
        · exact q
      refine w_St_noteRead_17 h1.1 (z_bf (by rw [z_le (by decide) (by omega)]; omega) ?_)
      rw [show kc fr S (j + 1) = nI (fr (S j)) from rfl]
      refine z_bf (by rw [z_le (by omega) (by decide)]; omega) (z_ixi hf (by decide) ?_)
      rw [e _ _ (by decide) (by decide), e5]
      -- found above it
      have own : (nI (b (S j)) ≤ c) = (S j < y) := by
        rcases hy with ⟨y1, y2⟩ | ⟨y1, y2, p, y3, y4, y5, y6⟩
        · rw [y2]
          refine propext ⟨fun q => ?_, fun q => absurd q (by omega)⟩
          rw [Int32.le_iff_toInt_le, nI_toInt (by omega)] at q
          have : (Int32.ofInt (-1)).toInt = -1 := by decide
          omega
        · rw [y4, z_le (by omega) (by omega)]
          refine propext ⟨fun q => ?_, fun q => ?_⟩
          · by_cases a : S j < y
            · exact a
            · have := (hmono (S j) (y - 1) g1 (by omega)).2
              omega
          · by_cases a : S j = y - 1
            · rw [a]; exact y5
            · have := (hmono (y - 1) (S j) (by omega) (by omega)).2
              omega
      rw [own]
      refine z_br (fun q => ?_) (fun q => ?_)
      · refine fin G1 h1 n1 F1 (fun k hk => ?_)
        obtain ⟨q1, q2⟩ := g k hk
        by_cases hjk : j + 1 ≤ k
        · rw [if_pos hjk] at q1 q2
          exact ⟨q1, q2⟩
        · rw [if_neg hjk] at q1 q2
          have hS : S k < y := by
            by_cases a : k = j
            · rw [a]; exact q
            · have := g2 k (by omega)
              omega
          rw [q1, q2]
          exact ⟨(if_neg (fun r => r.2.1 hS)).symm, (if_neg (fun r => r.2.1 hS)).symm⟩
      · -- the next one
        have nx : ∀ (jj : Nat) u, ((jj = 20 ∧ e_wk B (S j) x x = 0) ∨ (jj = 19 ∧ e_wk B (S j) x x ≠ 0)) → u = (mj_i G1 (707 + 4 * fr (S j)) jj) ||| mm_shl (nI 1) (nI l) → ∀ G2, G2 = mj_pI G1 (707 + 4 * fr (S j)) jj u → mm_ix (nI (fr (S j)) - nI 1) 200 (fun n8 => St_noteRead_17 d (sf fr x) c (nI l) (mj_i G2 (707 + 4 * n8) 11) (nI i + nI 1) G2 K) := fun jj u hdt hu G2 hG2 => by
          subst hG2
          have hd : jj = 19 ∨ jj = 20 := by omega
          have h2 : hh ρ D I (mj_pI G1 (707 + 4 * fr (S j)) jj u) := hh_I h1 (by unfold imm; rw [ow_s (by omega)]; unfold im_o; omega) (fun q2 => by omega)
          have F2 : fw ρ fF G1 (mj_pI G1 (707 + 4 * fr (S j)) jj u) := fw_I (by rw [ow_s (by omega)]; unfold fF; omega)
          have n2 := nf_t n1 (nf_I (G := G1) (i := fr (S j)) (y := u) hf hd)
          have e11 : mj_i (mj_pI G1 (707 + 4 * fr (S j)) jj u) (707 + 4 * (fr (S j) - 1)) 11 = kc fr S j := by
            rcases n2.2.2.2.2 (707 + 4 * (fr (S j) - 1)) 11 with q | q
            · omega
            · exact q.trans g4
          rw [z_sub (by omega)]
          refine z_ixi (by omega) (by decide) ?_
          rw [e11, z_add]
          refine ih (i + 1) _ (by omega) (by omega) h2 n2 (fw_t F1 ro_r F2) (fun k hk => ?_)
          obtain ⟨q1, q2⟩ := g k hk
          by_cases hkj : k = j
          · subst hkj
            rw [if_neg (by omega)] at q1 q2
            rw [if_pos (Nat.le_refl _), if_pos (Nat.le_refl _)]
            unfold e_na e_nd
            rcases hdt with ⟨rfl, w0⟩ | ⟨rfl, w0⟩
            · rw [if_neg (fun r => r.2.2 w0), if_pos ⟨hk, q, w0⟩]
              exact ⟨(z_iIm (by decide)).trans q1, z_iIs.trans (by rw [hu, q2])⟩
            · rw [if_pos ⟨hk, q, w0⟩, if_neg (fun r => w0 r.2.2)]
              exact ⟨z_iIs.trans (by rw [hu, q1]), (z_iIm (by decide)).trans q2⟩
          · have hne : 707 + 4 * fr (S k) ≠ 707 + 4 * fr (S j) := fun r => hkj (hinj k j hk (by omega) (by omega))
            by_cases e1 : j + 1 ≤ k
            · rw [if_pos e1] at q1 q2
              rw [if_pos (by omega), if_pos (by omega)]
              exact ⟨(z_iIn hne).trans q1, (z_iIn hne).trans q2⟩
            · rw [if_neg e1] at q1 q2
              rw [if_neg (by omega), if_neg (by omega)]
              exact ⟨(z_iIn hne).trans q1, (z_iIn hne).trans q2⟩
        -- the walk
        have wk : ∀ n z i2, z ≤ n → z ≤ N → i2 + z ≤ 200 → e_wk B (S j) z z = e_wk B (S j) x x → St_noteRead_50 d (sf fr x) c (nI l) (nI (fr (S j))) (nI i) (sf fr z) (nI i2) G1 K := fun n => by
          have end0 : e_wk B (S j) x x = 0 → mm_ix (nI (fr (S j))) 200 (fun n5 => ∀ G7, G7 = mj_pI G1 (707 + 4 * n5) 20 ((mj_i G1 (707 + 4 * n5) 20) ||| (mm_shl (nI 1) (nI l))) → mm_ix (nI (fr (S j)) - (nI 1)) 200 (fun n8 => St_noteRead_17 d (sf fr x) c (nI l) (mj_i G7 (707 + 4 * n8) 11) (nI i + nI 1) G7 K)) := fun w0 => z_ixi hf (by decide) (fun G7 hG7 => nx 20 _ (Or.inl ⟨rfl, w0⟩) rfl G7 hG7)
          have end1 : e_wk B (S j) x x ≠ 0 → mm_ix (nI (fr (S j))) 200 (fun n5 => ∀ G7, G7 = mj_pI G1 (707 + 4 * n5) 19 ((mj_i G1 (707 + 4 * n5) 19) ||| (mm_shl (nI 1) (nI l))) → mm_ix (nI (fr (S j)) - (nI 1)) 200 (fun n8 => St_noteRead_17 d (sf fr x) c (nI l) (mj_i G7 (707 + 4 * n8) 11) (nI i + nI 1) G7 K)) := fun w0 => z_ixi hf (by decide) (fun G7 hG7 => nx 19 _ (Or.inr ⟨rfl, w0⟩) rfl G7 hG7)
          have zero : ∀ i2, e_wk B (S j) 0 0 = e_wk B (S j) x x → St_noteRead_50 d (sf fr x) c (nI l) (nI (fr (S j))) (nI i) (sf fr 0) (nI i2) G1 K := fun i2 hw => by
            have w0 : e_wk B (S j) x x = 0 := hw.symm
            have s0 : sf fr 0 < nI 0 := by show Int32.ofInt (-1) < nI 0; decide
            have s1 : sf fr 0 < nI (fr (S j)) := by
              rw [show sf fr 0 = sh 0 from rfl, sh_t (by decide) (by omega)]; exact Nat.zero_le _
            exact w_St_noteRead_50 h1.1 (z_br (fun _ => z_bt s0 (end0 w0)) (fun _ => z_bt s1 (z_bt s0 (end0 w0))))
          induction n with
          | zero =>
            intro z i2 hz hzN hi2 hw
            have h0 : z = 0 := by omega
            subst h0
            exact zero i2 hw
          | succ n ihn =>
            intro z i2 hz hzN hi2 hw
            by_cases h0 : z = 0
            · subst h0
              exact zero i2 hw
            · obtain ⟨s, rfl⟩ : ∃ s, z = s + 1 := ⟨z - 1, by omega⟩
              obtain ⟨k1, k2, k3, k4, -⟩ := hE.2 s (by omega)
              have hb := hB s
              refine w_St_noteRead_50 h1.1 (z_bf (by rw [z_le (by decide) (by omega)]; omega) ?_)
              rw [sf_s, z_lt (by omega) (by omega), z_lt (by omega) (by decide)]
              refine z_br (fun q1 => z_bf (by omega) (end1 ?_)) (fun q1 => z_ixi k1 (by decide) ?_)
              · have hs : ¬ S j < s + 1 := fun r => by
                  by_cases a : S j = s
                  · rw [a] at q1; omega
                  · have := (hmono s (S j) (by omega) (by omega)).1
                    omega
                rw [← hw, e_wk_s hB, if_neg hs]
                omega
              · have hs : S j < s + 1 := by
                  by_cases a : S j < s + 1
                  · exact a
                  · have := (hmono (S j) s g1 (by omega)).1
                    omega
                rw [e _ _ (by decide) (by decide), k4, z_add]
                refine ihn (B s) (i2 + 1) (by omega) (by omega) (by omega) ?_
                rw [← hw, e_wk_s hB (x := s + 1), if_pos hs, Nat.add_sub_cancel]
        exact wk x x 0 (Nat.le_refl _) hx (by omega) rfl
  refine w_St_noteRead h.1 ?_
  rw [h11]
  refine z_ixi htop (by decide) ?_
  rw [hkt]
  exact go M 0 G (Nat.le_refl _) (by omega) h nf_r fw_r (fun k hk => by
    obtain ⟨-, -, -, -, g5, g6⟩ := hkk k hk
    rw [if_neg (by omega), if_neg (by omega)]
    exact ⟨g5, g6⟩)
/-- a value stays where frames are written -/
theorem e_at_f {a : Nat} (h : hh ρ D I G) (F : fw ρ fF G G') (ha : e_at ρ D G v a) : e_at ρ D G' v a := by
  obtain ⟨a1, a2, a3, a4⟩ := ha
  have hno : ∀ c, imm ρ c ∨ (67 ≤ ow ρ c ∧ ow ρ c ≤ 706) → ¬ fF (ow ρ c) := fun c q r => by
    rcases q with q | q
    · exact fF_im r q
    · unfold fF at r; omega
  refine ⟨Nat.lt_of_lt_of_le a1 F.1, a2, cv_fw a3 a4.1 h.2.2.2 F (fun o q => fF_im q) (hh_n h) a1 (hno a ?_) (fun c hc q => ⟨hno c q, q⟩), a4⟩
  rcases a2 with q | q
  · exact Or.inl q
  · exact Or.inr (by rw [ow_s (by omega)]; exact q)
theorem c_read {K : Nat → mj_G → Prop} (h : hh ρ D I G) (hE : ce ρ D G N B V fr b cn) (hk : ck G N M S fr top ra rd) (hB : ∀ s, B s ≤ s) (hl : l < 26) (hx : x ≤ N)
    (hK : ∀ a G', hh ρ D I G' → nf G G' → fw ρ fF G G' → ck G' N M S fr top (e_na B M S l x (e_fd B V l x x) ra) (e_nd B M S l x (e_fd B V l x x) rd) → e_at ρ D G' (e_vl D B V l x) a → K a G') : St_read (d + 1) (sf fr x) (nI l) G K := by
  obtain ⟨hM12, htop, h11, hkt, hkk⟩ := hk
  have hfd := e_fd_le (V := V) (l := l) hB (n := x) (x := x)
  have noM : M = 0 → ck G N M S fr top (e_na B M S l x (e_fd B V l x x) ra) (e_nd B M S l x (e_fd B V l x x) rd) := fun h0 => ⟨hM12, htop, h11, hkt, fun k hk => by omega⟩
  have hkM : M ≤ N := by
    by_cases a : M ≤ N
    · exact a
    · have hS : ∀ k, k < M → k ≤ S k := fun k => by
        induction k with
        | zero => intro _; exact Nat.zero_le _
        | succ k ih =>
          intro hk
          have := ih (by omega)
          have := (hkk (k + 1) hk).2.1 k (by omega)
          omega
      have h1 := hS (M - 1) (by omega)
      have h2 := (hkk (M - 1) (by omega)).1
      omega
  have kM : ∀ k, k ≤ M → (kc fr S k = Int32.ofInt (-1)) = (k = 0) := fun k hk => by
    cases k with
    | zero => exact propext ⟨fun _ => rfl, fun _ => rfl⟩
    | succ k =>
      have := (hE.2 _ (hkk k (by omega)).1).1
      show (nI (fr (S k)) = Int32.ofInt (-1)) = _
      rw [← sh_s, sh_n (by omega)]
      exact propext ⟨fun q => by omega, fun q => by omega⟩
  refine w_St_read h.1 (c_placeFrom h hE hB hl hx (fun q => ?_) (fun p hp => ?_))
  · rw [h11]
    refine z_bf (by rw [z_lt (by omega) (by decide)]; omega) (z_ixi htop (by decide) ?_)
    rw [hkt, kM M (Nat.le_refl _)]
    refine z_br (fun h0 => z_bt rfl (z_ixi hl (by decide) (hK _ G h nf_r fw_r (noM h0) (e_atD h hl q)))) (fun h0 => ?_)
    refine c_tell (y := e_fd B V l x x) h hE ⟨hM12, htop, h11, hkt, hkk⟩ hB hl hx (Or.inl ⟨q, rfl⟩) (fun G1 h1 n1 F1 k1 => z_bt rfl (z_ixi hl (by decide) ?_))
    have r := hK (mj_r G 12 l) G1 h1 n1 F1 k1 (e_at_f h F1 (e_atD h hl q))
    rw [← n1.2.2.2.1 12 l] at r
    exact r
  · have hp1 := hp.1
    have np : (nI p = Int32.ofInt (-1)) = (p + 1 = 0) := by rw [← sh_s, sh_n (by omega)]
    rw [h11]
    refine z_bf (by rw [z_lt (by omega) (by decide)]; omega) (z_ixi htop (by decide) ?_)
    rw [hkt, kM M (Nat.le_refl _), np]
    refine z_br (fun h0 => z_bf (by omega) (z_ixi hp1 (by decide) (hK _ G h nf_r fw_r (noM h0) (e_atV h hp)))) (fun h0 => ?_)
    refine c_tell (y := e_fd B V l x x) h hE ⟨hM12, htop, h11, hkt, hkk⟩ hB hl hx (Or.inr ⟨hp.2.1, by omega, p, hp1, rfl, hp.2.2.1, hp.2.2.2.1⟩) (fun G1 h1 n1 F1 k1 => z_bf (by omega) (z_ixi hp1 (by decide) (hK _ G1 h1 n1 F1 k1 (e_at_f h F1 (e_atV h hp)))))
end CE
