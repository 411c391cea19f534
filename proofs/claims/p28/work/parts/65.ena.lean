/-! WHERE A TEMPLATE MAY END: bodies -/
theorem z_13136 {c : Nat} (hc : c < 128) : (qb (q_13136 (nI c)) = true) = (c = 116 ∨ c = 35 ∨ c = 94 ∨ c = 64 ∨ c = 33 ∨ c = 38 ∨ c = 126) := by
  rw [z_qx (f := q_13136) (p := fun c => decide (c = 116 ∨ c = 35 ∨ c = 94 ∨ c = 64 ∨ c = 33 ∨ c = 38 ∨ c = 126)) (by decide +kernel) hc]
  exact propext decide_eq_true_iff
theorem bt_bit {S : Int32} {i j : Nat} (hi : i < 32) (hj : j < 32) : S ||| mm_shl ((mm_shr S (nI i)) &&& (nI 1)) (nI j) = (if S.toBitVec.getLsbD i = true then S ||| mm_shl (nI 1) (nI j) else S) := by
  rw [bt_v hi]
  by_cases h : S.toBitVec.getLsbD i = true
  · rw [if_pos h, if_pos h]
  · rw [if_neg h, if_neg h]
    refine bt_ext (fun k hk => ?_)
    rw [bt_or2]
    refine ⟨fun q => q.elim id (fun q => ?_), Or.inl⟩
    have hz : (mm_shl (nI 0) (nI j)) = nI 0 := by
      apply Int32.toBitVec.inj
      show (nI 0).toBitVec <<< ((nI j &&& (31 : Int32)).toBitVec.smod 32) = _
      rw [BitVec.shiftLeft_eq', bt_sm j hj]
      show (0#32) <<< j = 0#32
      exact BitVec.zero_shiftLeft j
    rw [hz] at q
    exact absurd q bt_0
section FA
variable {G Gm : mj_G} {f : mm_F} {w : Nat → Nat} {n t : Nat}
theorem c_behind {d r c : Nat} {S ch dep : Int32} {K : Int32 → mj_G → Prop} (hS : cs_S G) (hd : 15 ≤ d) (hk : mj_k G r = 6) (h0 : mj_i G r 0 = nI c) (hc : c ≤ 126)
    (h1 : c = 1 → Fo_leadAll d S (mj_i G r 5) G (fun v3 G2 => (mj_k G2 r = 6) ∧ mm_br ((mj_i G2 r 5) = (nI 32)) (K (v3 ||| S) G2) (K (v3 ||| (nI 0)) G2)))
    (h2 : c = 36 ∨ c = 37 → K S G) (h3 : c = 42 → Fo_behindLoop d r S ch dep G (fun v6 G5 => K v6 G5))
    (h4 : c = 43 ∨ c = 63 → Fo_through d (mj_r G r 8) S ch (dep + (nI 1)) G (fun v8 G7 => (mj_k G7 r = 6) ∧ Fo_through d (mj_r G7 r 9) S ch (dep + (nI 1)) G7 (fun v11 G10 => K (v8 ||| v11) G10)))
    (h5 : c = 45 → mm_br (bt S 2) (K (S ||| (nI 2)) G) (K S G))
    (h6 : c = 61 → Fo_mayBeSafe d (mj_r G r 6) ch (nI 0) G (fun v13 G12 => mm_br (v13 = true) (K (nI 255) G12) (mm_br (bt S 1) (K (S ||| (nI 4)) G12) (K S G12))))
    (h7 : c = 107 → Fo_through d (mj_r G r 8) S ch (dep + (nI 1)) G (fun v20 G19 => K v20 G19))
    (h8 : c = 116 ∨ c = 35 ∨ c = 94 ∨ c = 64 ∨ c = 33 ∨ c = 38 ∨ c = 126 → K (nI 255) G) (hT : c = 1 ∨ tx_T c) : Fo_behind (d + 1) r S ch dep G K := by
  refine w_Fo_behind hS hd ⟨hk, ?_⟩
  have e : ∀ {x : Nat}, x ≤ 126 → (mj_i G r 0 = nI x) = (c = x) := fun hx => by rw [h0, z_eq (by omega) (by omega)]
  rw [e (by decide), e (by decide), e (by decide), e (by decide), e (by decide), e (by decide), e (by decide), e (by decide), e (by decide), z_2003 (i := 2) (by decide), z_2003 (i := 1) (by decide)]
  refine z_br h1 (fun _ => z_br (fun q => h2 (Or.inl q)) (fun _ => z_br (fun q => h2 (Or.inr q)) (fun _ => z_br h3 (fun _ => z_br (fun q => h4 (Or.inl q)) (fun _ => z_br h5 (fun _ => z_br h6 (fun _ => z_br (fun q => h4 (Or.inr q)) (fun _ => z_br h7 (fun _ => h8 ?_)))))))))
  unfold tx_T at hT
  omega
theorem c_endsTag {d p c : Nat} {S : Int32} {K : Int32 → mm_F → Prop} (hM : mm_S Gm) (hT : mt_T f t w n) (hd : 15 ≤ d) (hp : p + 1 < n) (hc : w (p + 1) = c)
    (h2 : c = 36 ∨ c = 37 → K S f) (h3 : c = 42 ∨ c = 43 ∨ c = 63 → m_endsBodies Gm d (nI c) (nI t) (nI p) S f (fun v6 f5 => K v6 f5))
    (h5 : c = 45 → K (S ||| (mm_shl ((mm_shr S (nI 2)) &&& (nI 1)) (nI 1))) f)
    (h6 : c = 61 → m_endOf Gm d (nI t) (nI p) f (fun v20 f19 => m_mayBeSafe Gm d (nI t) (nI (p + 2)) v20 f19 (fun v22 f21 => mm_br (v22 = true) (K (nI 255) f21) (K (S ||| (mm_shl ((mm_shr S (nI 1)) &&& (nI 1)) (nI 2))) f21))))
    (h7 : c = 107 → m_endOf Gm d (nI t) (nI p) f (fun v13 f12 => m_closeOf Gm d (nI t) (nI p) f12 (fun v15 f14 => m_ends Gm d (nI t) (v13 + (nI 1)) v15 S f14 (fun v17 f16 => K v17 f16))))
    (h8 : c = 116 ∨ c = 35 ∨ c = 94 ∨ c = 64 ∨ c = 33 ∨ c = 38 ∨ c = 126 → K (nI 255) f) (hTx : tx_T c) : m_endsTag Gm (d + 1) (nI t) (nI p) S f K := by
  have hn := hT.2.1.1
  have hw := tx_le hT.2.1 (p + 1)
  refine w_m_endsTag hM hd ?_
  rw [z_add, z_add]
  refine c_letter hM hT (by omega) ?_
  rw [tx_nxi hp, hc, z_13136 (by omega), z_eq (by omega) (by omega), z_eq (by omega) (by omega), z_eq (by omega) (by omega), z_eq (by omega) (by omega), z_eq (by omega) (by omega), z_eq (by omega) (by omega)]
  refine z_br h8 (fun _ => z_br h5 (fun _ => z_br h6 (fun _ => z_br h7 (fun _ => z_br (fun q => ?_) (fun _ => z_br (fun q => ?_) (fun _ => z_br (fun q => ?_) (fun _ => h2 ?_)))))))
  · exact h3 (by omega)
  · exact h3 (by omega)
  · exact h3 (by omega)
  · unfold tx_T at hTx
    omega
/-- a body's set, by both sides -/
def fs_B (G Gm : mj_G) (f : mm_F) (t : Nat) (ch : Int32) (r p q : Nat) : Prop := ∀ (S : Int32) (dep : Nat), s8 S → dep ≤ p → ∃ S', s8 S' ∧ (∀ d K, 3 * (q - p) + 60 ≤ d → K S' G → Fo_through_16 d ch (nI dep) S r G K) ∧ (∀ d K, 3 * (q - p) + 60 ≤ d → K S' f → m_ends_7 Gm d (nI t) (nI q) S (nI p) f K)
theorem fs_thr {r p q : Nat} {ch : Int32} (hS : cs_S G) (hM : mm_S Gm) (hp : p ≤ 80) (h : fs_B G Gm f t ch r p q) (S : Int32) (dep : Nat) (hs : s8 S) (hd : dep ≤ p) : ∃ S', s8 S' ∧ (∀ d K, 3 * (q - p) + 61 ≤ d → K S' G → Fo_through d r S ch (nI dep) G K) ∧ (∀ d K, 3 * (q - p) + 61 ≤ d → K S' f → m_ends Gm d (nI t) (nI p) (nI q) S f K) := by
  obtain ⟨S', h1, h2, h3⟩ := h S dep hs hd
  refine ⟨S', h1, fun d K hd hK => ?_, fun d K hd hK => ?_⟩
  · obtain ⟨d, rfl⟩ : ∃ e, d = e + 1 := ⟨d - 1, by omega⟩
    refine w_Fo_through hS (z_bt ?_ (h2 (d + 1) K (by omega) hK))
    rw [z_lt (by omega) (by omega)]
    omega
  · obtain ⟨d, rfl⟩ : ∃ e, d = e + 1 := ⟨d - 1, by omega⟩
    exact w_m_ends hM (h3 (d + 1) K (by omega) hK)
theorem fs_nul {S ch : Int32} {d dep : Nat} {K : Int32 → mj_G → Prop} (hS : cs_S G) (hd : 1 ≤ d) (hdep : dep < 90) (h : K S G) : Fo_through d 0 S ch (nI dep) G K := by
  obtain ⟨d, rfl⟩ : ∃ e, d = e + 1 := ⟨d - 1, by omega⟩
  refine w_Fo_through hS (z_bt ?_ (w_Fo_through_16 hS (z_bt rfl h)))
  rw [z_lt (by omega) (by omega)]
  exact hdep
/-- the rounds of a loop -/
theorem fs_loop {r s q1 dep X6 : Nat} {x5 S v2 ch : Int32} {D : Nat} (hS : cs_S G) (hM : mm_S Gm) (hk : mj_k G r = 6) (hs80 : s ≤ 80) (hdep : dep + 1 ≤ s) (hb : fs_B G Gm f t ch (mj_r G r 8) s q1) (hx : (x5 = Int32.ofInt (-1) ∧ q1 = X6) ∨ (¬ x5 = Int32.ofInt (-1) ∧ x5 = nI q1))
    (hce : ∀ d (K : Int32 → mj_G → Prop), D ≤ d → K v2 G → Fo_through d (mj_r G r 9) S ch (nI (dep + 1)) G K)
    (hme : ∀ d (left : Int32) (K : Int32 → mm_F → Prop), D ≤ d → K (left ||| v2) f → mm_br (x5 = Int32.ofInt (-1)) (K (left ||| S) f) (m_ends Gm d (nI t) (x5 + nI 3) (nI X6) S f (fun v16 f15 => K (left ||| v16) f15))) (hD : 3 * (q1 - s) + 61 ≤ D) :
    ∀ (m : Nat) (ahead left : Int32) (i : Nat), s8 ahead → s8 left → i ≤ s8c ahead → 8 - s8c ahead ≤ m → ∃ l', s8 l' ∧ (∀ d (K : Int32 → mj_G → Prop), D ≤ d → K (l' ||| v2) G → Fo_behindLoop_21 (d + 1) r S ch (nI dep) ahead left (nI i) G K) ∧ (∀ d (K : Int32 → mm_F → Prop), D ≤ d → K (l' ||| v2) f → m_endsBodies_54 Gm (d + 1) (nI 42) (nI t) S x5 (nI X6) (nI s) ahead left f K) := by
  intro m
  induction m with
  | zero =>
    intro ahead left i ha hl hi hm
    have h8 := s8c_le (ahead ||| left)
    have same : (ahead ||| left) = ahead := Decidable.byContradiction (fun h => by have := s8c_lt hl h; omega)
    refine ⟨left, hl, fun d K hd hK => w_Fo_behindLoop_21 hS ?_, fun d K hd hK => w_m_endsBodies_54 hM (z_bt rfl (z_bt same (hme d left K hd hK)))⟩
    rw [z_add]
    exact z_br (fun _ => ⟨hk, hce d _ hd hK⟩) (fun _ => z_bt same ⟨hk, hce d _ hd hK⟩)
  | succ m ih =>
    intro ahead left i ha hl hi hm
    by_cases same : (ahead ||| left) = ahead
    · refine ⟨left, hl, fun d K hd hK => w_Fo_behindLoop_21 hS ?_, fun d K hd hK => w_m_endsBodies_54 hM (z_bt rfl (z_bt same (hme d left K hd hK)))⟩
      rw [z_add]
      exact z_br (fun _ => ⟨hk, hce d _ hd hK⟩) (fun _ => z_bt same ⟨hk, hce d _ hd hK⟩)
    · have hlt := s8c_lt hl same
      have h8 := s8c_le (ahead ||| left)
      have hor := s8_or ha hl
      obtain ⟨S', t1, t2, t3⟩ := fs_thr hS hM hs80 hb (ahead ||| left) (dep + 1) hor hdep
      obtain ⟨l', l1, l2, l3⟩ := ih (ahead ||| left) S' (i + 1) hor t1 (by omega) (by omega)
      refine ⟨l', l1, fun d K hd hK => w_Fo_behindLoop_21 hS ?_, fun d K hd hK => w_m_endsBodies_54 hM (z_bt rfl (z_bf same ?_))⟩
      · rw [z_add, z_add, z_le (by omega) (by omega)]
        exact z_bf (by omega) (z_bf same ⟨hk, t2 d _ (by omega) (l2 d K hd hK)⟩)
      · rcases hx with ⟨x1, rfl⟩ | ⟨x1, x2⟩
        · exact z_bt x1 (t3 d _ (by omega) (l3 d K hd hK))
        · refine z_bf x1 ?_
          have l3' := l3 d K hd hK
          rw [x2] at l3' ⊢
          exact t3 d _ (by omega) l3'
end FA
