/-! RENDERING: expressions found: the class's steps, and the model's that are left -/
def fx (sl o : Nat) : Prop := fW sl o ∨ fF o
/-- frames stay, but for what is told in them -/
def nG (ρ : Nat → Nat) (G G' : mj_G) : Prop := ∀ a, a < mj_n G → fF (ow ρ a) → (∀ j, mj_r G' a j = mj_r G a j) ∧ ∀ j, (707 ≤ a ∧ a ≤ 1506 ∧ (j = 19 ∨ j = 20)) ∨ mj_i G' a j = mj_i G a j
def fv (ρ : Nat → Nat) (sl : Nat) (G G' : mj_G) : Prop := fw ρ (fx sl) G G' ∧ nG ρ G G'
/-- the trees stay -/
def fA (A : Nat → Prop) (ρ : Nat → Nat) (G0 G : mj_G) : Prop := ∀ a, A a → 1768 ≤ a ∧ a < mj_n G ∧ imm ρ a ∧ mj_k G a = mj_k G0 a ∧ mj_l G a = mj_l G0 a ∧ (∀ j, mj_r G a j = mj_r G0 a j) ∧ ∀ j, mj_i G a j = mj_i G0 a j
def cE (D : Nat → rv) (I : Nat → Nat → rv) (N : Nat) (B : Nat → Nat) (V : Nat → Nat → Option rv) (M : Nat) (S fr b cn : Nat → Nat) (top : Nat) (ra rd : Nat → Int32) (A : Nat → Prop) (G0 : mj_G) (ρ : Nat → Nat) (G : mj_G) : Prop := hh ρ D I G ∧ ce ρ D G N B V fr b cn ∧ ck G N M S fr top ra rd ∧ fA A ρ G0 G
/-- what follows: a value in a slot, or why it fails -/
def jC (D : Nat → rv) (I : Nat → Nat → rv) (N : Nat) (M : Nat) (S fr : Nat → Nat) (top : Nat) (ρ : Nat → Nat) (G : mj_G) (sl : Nat) (e : Int32) (v : rv) (ra rd : Nat → Int32) (K : Int32 → mj_G → Prop) : Prop := ∀ ρ' G', hh ρ' D I G' → ro_e ρ ρ' G → fv ρ sl G G' → ck G' N M S fr top ra rd → (e = nI 0 → cv (sv ρ' sl) G' (1509 + 2 * sl) v) → K e G'
section FC
variable {ρ ρ' : Nat → Nat} {D : Nat → rv} {I : Nat → Nat → rv} {G G' G0 : mj_G} {N M d l x top sl : Nat} {B S fr b cn : Nat → Nat} {V : Nat → Nat → Option rv} {v w : rv} {W : Nat → Prop} {ra rd ra' rd' : Nat → Int32} {A : Nat → Prop} {e : Int32}
theorem fx_im {o : Nat} (h : fx sl o) : ¬ im_o o := by
  rcases h with h | h
  · exact fW_im h
  · exact fF_im h
theorem fv_r : fv ρ sl G G := ⟨fw_r, fun _ _ _ => ⟨fun _ => rfl, fun _ => Or.inr rfl⟩⟩
theorem fv_t {G1 : mj_G} (h1 : fv ρ sl G G1) (he : ro_e ρ ρ' G) (h2 : fv ρ' sl G1 G') : fv ρ sl G G' := ⟨fw_t h1.1 he h2.1, fun a ha hf => by
  obtain ⟨a1, a2⟩ := h1.2 a ha hf
  obtain ⟨b1, b2⟩ := h2.2 a (Nat.lt_of_lt_of_le ha h1.1.1) (by rw [ro_ow he ha]; exact hf)
  refine ⟨fun j => (b1 j).trans (a1 j), fun j => ?_⟩
  rcases b2 j with q | q
  · exact Or.inl q
  · rcases a2 j with q1 | q1
    · exact Or.inl q1
    · exact Or.inr (q.trans q1)⟩
theorem fv_m {m : Nat} (h : fv ρ m G G') (hm : sl ≤ m) : fv ρ sl G G' := ⟨fw_m h.1 (fun o q => by
  rcases q with q | q
  · exact Or.inl (fW_m q hm)
  · exact Or.inr q), h.2⟩
theorem fv_s (h : fw ρ (fW sl) G G') : fv ρ sl G G' := ⟨fw_m h (fun o q => Or.inl q), fun a ha hf => by
  obtain ⟨-, -, h3⟩ := h.2.2.2 a ha
  obtain ⟨h4, h5⟩ := h3 (fun q => by unfold fW at q; unfold fF at hf; omega)
  exact ⟨h4, fun j => Or.inr (h5 j)⟩⟩
theorem fv_n (hn : nf G G') (h : fw ρ fF G G') : fv ρ sl G G' := ⟨fw_m h (fun o q => Or.inr q), fun a _ _ => ⟨hn.2.2.2.1 a, hn.2.2.2.2 a⟩⟩
theorem ce_fv (h : hh ρ D I G) (hE : ce ρ D G N B V fr b cn) (F : fv ρ sl G G') (he : ro_e ρ ρ' G) : ce ρ' D G' N B V fr b cn := by
  have hG := hh_n h
  refine ⟨hE.1, fun s hs => ?_⟩
  obtain ⟨h1, h2, h3, h4, h5, h6, h7, h8⟩ := hE.2 s hs
  have e : ∀ j, j ≠ 19 → j ≠ 20 → mj_i G' (707 + 4 * fr s) j = mj_i G (707 + 4 * fr s) j := fun j j1 j2 => by
    rcases (F.2 (707 + 4 * fr s) (by omega) (by rw [ow_s (by omega)]; unfold fF; omega)).2 j with q | q
    · omega
    · exact q
  have ev : ∀ p j, p < 320 → mj_i G' (67 + 2 * p) j = mj_i G (67 + 2 * p) j := fun p j hp => ce_i h F.1 (by omega) (fun q => by unfold fx fW fF at q; omega)
  refine ⟨h1, h2, h3, (e 4 (by decide) (by decide)).trans h4, (e 5 (by decide) (by decide)).trans h5, (e 6 (by decide) (by decide)).trans h6, fun p p1 p2 => ?_, fun l v q => ?_⟩
  · rcases h7 p p1 p2 with g | ⟨l, v, g1, g2, g3, g4, g5⟩
    · exact Or.inl ((ev p 6 (by omega)).trans g)
    · exact Or.inr ⟨l, v, g1, (ev p 6 (by omega)).trans g2, g3, ce_cv h F.1 he (fun o q => ⟨fx_im q, fun r => by unfold fx fW fF at q; omega⟩) (by omega) g5.1 g4, g5⟩
  · obtain ⟨p, p1, p2, p3⟩ := h8 l v q
    exact ⟨p, p1, p2, (ev p 6 (by omega)).trans p3⟩
theorem fA_f (h : fA A ρ G0 G) (F : fw ρ W G G') (hW : ∀ o, W o → ¬ im_o o) (he : ro_e ρ ρ' G) : fA A ρ' G0 G' := fun a ha => by
  obtain ⟨h0, h1, h2, h3, h4, h5, h6⟩ := h a ha
  obtain ⟨k1, k2, k3, k4⟩ := fw_im F hW h1 h2
  exact ⟨h0, Nat.lt_of_lt_of_le h1 F.1, by rw [imm_e he h1]; exact h2, k1.trans h3, k2.trans h4, fun j => (k3 j).trans (h5 j), fun j => (k4 j).trans (h6 j)⟩
theorem cE_f (h : cE D I N B V M S fr b cn top ra rd A G0 ρ G) (F : fv ρ sl G G') (he : ro_e ρ ρ' G) (hh' : hh ρ' D I G') (hk : ck G' N M S fr top ra' rd') : cE D I N B V M S fr b cn top ra' rd' A G0 ρ' G' :=
  ⟨hh', ce_fv h.1 h.2.1 F he, hk, fA_f h.2.2.2 F.1 (fun o q => fx_im q) he⟩
/-- a step that writes slots alone -/
theorem cE_s (h : cE D I N B V M S fr b cn top ra rd A G0 ρ G) (F : fw ρ (fW sl) G G') : ck G' N M S fr top ra rd :=
  ck_fw h.1 h.2.2.1 (fun s hs => (h.2.1.2 s hs).1) F (fun o q => by unfold fW at q; omega)
/-- a slot of a lower number stays -/
theorem sv_lo {m : Nat} (h : hh ρ D I G) (hv : rv_ok v) (hm : m < sl) (hs : sl < 40) (hc : cv (sv ρ m) G (1509 + 2 * m) v) (F : fv ρ sl G G') (he : ro_e ρ ρ' G) : cv (sv ρ' m) G' (1509 + 2 * m) v := by
  have hG := hh_n h
  refine cv_fw hc hv h.2.2.2 F.1 (fun o q => fx_im q) hG (by omega) (by rw [sv_o (by omega)]; unfold fx fW fF; omega) (fun c hcn q => ⟨fun r => ?_, sv_e q he hcn⟩)
  unfold sv imm im_o at q
  unfold fx fW fF at r
  omega
theorem vm_sl (hs : sl < 40) (h : hh ρ D I G) : vm ρ G (1509 + 2 * sl) := sv_vm h hs
theorem eP_sv {c : Nat} (h : eP ρ c) : sv ρ sl c := by
  rcases h with h | h
  · exact Or.inl h
  · exact Or.inr (Or.inl h)
/-- a slot is another value -/
theorem c_slotR {a : Nat} {K : mj_G → Prop} (hs : sl < 40) (h : hh ρ D I G) (ha : e_at ρ D G v a) (hK : ∀ G', hh ρ D I G' → fw ρ (fW sl) G G' → cv (sv ρ sl) G' (1509 + 2 * sl) v → K G') : Va_refer d (1509 + 2 * sl) a G K := by
  obtain ⟨a1, a2, a3, a4⟩ := ha
  have hne : a ≠ 1509 + 2 * sl := fun q => by
    rcases a2 with q2 | q2
    · unfold imm at q2
      rw [q, sv_o hs] at q2
      unfold im_o at q2
      omega
    · omega
  exact c_refer h (sv_vm h hs) a4.1 hne a3 (fun G2 h2 F2 _ _ c2 _ _ => hK G2 h2 (fw_m F2 (fun o ho => sv_fW hs ho)) (cv_m c2 (fun c hc => eP_sv hc)))
end FC
section FN
variable {Gm : mj_G} {f : mm_F} {d i j k : Nat} {v w : rv}
theorem p_mf50 {m0 : Nat} {K : mm_F → Prop} (hM : mm_S Gm) (hi : i < 380) (hj : j < 380) (hij : i ≠ j) (hm : m0 ≤ 300) (h30 : f 1730 i = nI m0) (hK : ∀ f', mw (fun q => q = j) no_R no_R f f' → f' 1730 j = f 1730 j → f' 1731 j = f 1731 j → K f') :
    ∀ {m q : Nat} {f1 : mm_F}, q + m = m0 → mw (fun q => q = j) no_R no_R f f1 → f1 1730 j = f 1730 j → f1 1731 j = f 1731 j → m_moves_50 Gm d (nI i) (nI j) (nI q) f1 K
  | 0, q, f1, hq, F, e, e' => by
    refine w_m_moves_50 hM (z_ixi hi (by decide) ?_)
    rw [F.2.2.1 1730 i (by decide) (by decide) hij, h30, z_le (by omega) (by omega)]
    exact z_bt (by omega) (hK f1 F e e')
  | m + 1, q, f1, hq, F, e, e' => by
    refine w_m_moves_50 hM (z_ixi hi (by decide) ?_)
    rw [F.2.2.1 1730 i (by decide) (by decide) hij, h30, z_le (by omega) (by omega)]
    refine z_bf (by omega) (z_ixi hi (by decide) (z_br (fun _ => ?_) (fun _ => hK f1 F e e')))
    rw [z_mul, z_add, z_mul, z_add, z_add]
    refine z_ixi (by omega) (by decide) (z_ixi (by omega) (by decide) ?_)
    exact p_mf50 hM hi hj hij hm h30 hK (m := m) (q := q + 1) (by omega) (mw_t F (mw_C (show (300 * j + q) / 300 = j by omega))) ((z_u2n (by decide)).trans e) ((z_u2n (by decide)).trans e')
/-- whatever stood at a place is moved -/
theorem p_movesF {m0 : Nat} {K : mm_F → Prop} (hM : mm_S Gm) (hi : i < 380) (hj : j < 380) (hij : i ≠ j) (hm : m0 ≤ 300) (h30 : f 1730 i = nI m0) (h31 : mj_b (f 1731 i)) (hK : ∀ f', mw (fun q => q = j) no_R no_R f f' → f' 1730 j = nI m0 → mj_b (f' 1731 j) → K f') : m_moves Gm d (nI i) (nI j) f K := by
  refine w_m_moves hM (z_ixi hi (by decide) (z_ixi hj (by decide) (z_ixi hi (by decide) (z_ixi hj (by decide) (z_ixi hi (by decide) (z_ixi hj (by decide) (z_ixi hi (by decide) (z_ixi hj (by decide) ?_))))))))
  have e1 : (mj_u2 f 1728 j (f 1728 i)) 1729 i = f 1729 i := z_u2n (by decide)
  rw [e1]
  have e2 : (mj_u2 (mj_u2 f 1728 j (f 1728 i)) 1729 j (f 1729 i)) 1730 i = f 1730 i := (z_u2n (by decide)).trans (z_u2n (by decide))
  rw [e2]
  have e3 : (mj_u2 (mj_u2 (mj_u2 f 1728 j (f 1728 i)) 1729 j (f 1729 i)) 1730 j (f 1730 i)) 1731 i = f 1731 i := (z_u2n (by decide)).trans ((z_u2n (by decide)).trans (z_u2n (by decide)))
  rw [e3]
  refine ⟨h31, ?_⟩
  have F : mw (fun q => q = j) no_R no_R f (mj_u2 (mj_u2 (mj_u2 (mj_u2 f 1728 j (f 1728 i)) 1729 j (f 1729 i)) 1730 j (f 1730 i)) 1731 j (f 1731 i)) := mw_t (mw_P (by decide) rfl) (mw_t (mw_P (by decide) rfl) (mw_t (mw_P (by decide) rfl) (mw_P (by decide) rfl)))
  have g0 : (mj_u2 (mj_u2 (mj_u2 (mj_u2 f 1728 j (f 1728 i)) 1729 j (f 1729 i)) 1730 j (f 1730 i)) 1731 j (f 1731 i)) 1730 j = f 1730 i := (z_u2n (by decide)).trans z_u2s
  have gi : (mj_u2 (mj_u2 (mj_u2 (mj_u2 f 1728 j (f 1728 i)) 1729 j (f 1729 i)) 1730 j (f 1730 i)) 1731 j (f 1731 i)) 1730 i = nI m0 := (F.2.2.1 1730 i (by decide) (by decide) hij).trans h30
  have g1 : mj_b ((mj_u2 (mj_u2 (mj_u2 (mj_u2 f 1728 j (f 1728 i)) 1729 j (f 1729 i)) 1730 j (f 1730 i)) 1731 j (f 1731 i)) 1731 j) := by rw [z_u2s]; exact h31
  generalize mj_u2 (mj_u2 (mj_u2 (mj_u2 f 1728 j (f 1728 i)) 1729 j (f 1729 i)) 1730 j (f 1730 i)) 1731 j (f 1731 i) = f1 at F g0 gi g1 ⊢
  exact p_mf50 (f := f1) hM hi hj hij hm gi (fun f' F' e e' => hK f' (mw_t F F') (e.trans (g0.trans h30)) (by rw [e']; exact g1)) (m := m0) (q := 0) (by omega) mw_r rfl rfl
theorem mr_z {t n a : Nat} {w : Nat → Nat} {f' : mm_F} (h : mr_T f t w n) (hF : mz a f f') : mr_T f' t w n := ⟨mt_o h.1 (fun k => hF.1 _ k (by decide) (by decide) (by unfold R_n; decide)) (fun k => hF.1 _ k (by decide) (by decide) (by unfold R_n; decide)), (hF.2.1 22 (by unfold zS; decide)).trans h.2⟩
theorem p_hereT {t n p : Nat} {w : Nat → Nat} {K : Int32 → mm_F → Prop} (hM : mm_S Gm) (h : mr_T f t w n) (h23 : f 1714 23 = nI p) (hd : 1 ≤ d) (hp : p ≤ 400) (hK : K (tx_nx w n p) f) : m_here Gm d f K := by
  have h1 := c_here (f := f) (p := p) (d := d) (K := K) hM h hd hp
  rw [sp_i h23] at h1
  exact h1 hK
/-- the one or the other -/
theorem p_comb63 {K : mm_F → Prop} (hM : mm_S Gm) (hi : i < 380) (hj : j < 380) (hij : i ≠ j) (ov : rv_ok v) (ow : rv_ok w) (hv : mv f i v) (hw : mv f j w) (hK : ∀ f', mw (fun q => q = i) no_R no_R f f' → mv f' i w → K f') : m_combines Gm (d + 2) (nI 63) (nI i) (nI j) f K := by
  have go : ∀ b1 b2 : Bool, m_combines_106 Gm (d + 2) (nI 63) (nI i) (nI j) (bI b1) (bI b2) f K := fun b1 b2 => w_m_combines_106 hM (z_bf (by decide) (z_bf (by decide) (z_bt rfl (p_moves hM hj hi (fun q => hij q.symm) hw ow hK))))
  have go2 : ∀ b1 : Bool, m_areBoth Gm (d + 1) (nI i) (nI j) (nI 2) f (fun v4 f3 => mm_br (nI 63 = (nI 43)) (mm_br (v4 = true) (m_combines_32 Gm (d + 2) (nI i) (nI j) (nI 0) f3 K) (m_combines_106 Gm (d + 2) (nI 63) (nI i) (nI j) (bI b1) (bI v4) f3 K)) (m_combines_106 Gm (d + 2) (nI 63) (nI i) (nI j) (bI b1) (bI v4) f3 K)) := fun b1 => p_areBoth hM hi hj ov ow hv hw (by decide) (fun _ => z_bf (by decide) (go b1 true)) (fun _ => z_bf (by decide) (go b1 false))
  exact w_m_combines hM (p_areBoth hM hi hj ov ow hv hw (by decide) (fun _ => go2 true) (fun _ => go2 false))
end FN
