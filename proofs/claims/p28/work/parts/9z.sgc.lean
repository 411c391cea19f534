/-! STRETCHES OF A BODY: the class's half -/
/-- what a stretch may write -/
def bW (o : Nat) : Prop := (o = 6 ∨ o = 11 ∨ (67 ≤ o ∧ o ≤ 1593) ∨ gW o) ∧ ¬ im_o o
/-- the loop goes on -/
def lp (d : Nat) (K : Int32 → mj_G → Prop) (t : Nat) (G : mj_G) : Prop := Rn_run_33 (d + 1) (nI 0) (nI t) G K
/-- something has failed -/
def lf (d : Nat) (K : Int32 → mj_G → Prop) (t : Nat) (e : Int32) (G : mj_G) : Prop := Rn_rescue d e G (fun v G' => Rn_run_33 (d + 1) v (nI (t + 1)) G' K)
/-- a stretch went well -/
def rN (u : wo) (ρ : Nat → Nat) (G : mj_G) (N : Nat) (B : Nat → Nat) (M : Nat) (S : Nat → Nat) (lc : Nat) (ln : Nat → Nat) (op : Nat) (ch : List en) (V : Nat → Nat → Option rv) (o : ost) (ra rd : Nat → Int32) (sp : Nat → Bool) (st hts : Nat) (FG : Nat → kfr) (fr b cn : Nat → Nat) (top la : Nat) (nx q T : Nat) (ρ' : Nat → Nat) (G' : mj_G) (cn' : Nat → Nat) (t' : Nat) : Prop := CC u ρ' G' N B M S lc ln op ch V o ra rd sp st hts FG fr b cn' top la ∧ ro_e ρ ρ' G ∧ fw ρ bW G G' ∧ FF ρ top (fr (N - 1)) G G' ∧ mj_r G' (707 + 4 * top) 2 = nx ∧ (∀ s, s ≠ N - 1 → cn' s = cn s) ∧ t' + 100 * (2000 - st) ≤ T ∧ 5 * (b (N - 1) + cn' (N - 1)) ≤ 95 * op + q
/-- a stretch failed; o0 is the output ahead of it -/
def rX (u : wo) (ρ : Nat → Nat) (G : mj_G) (o0 : ost) (e : Int32) (N : Nat) (B : Nat → Nat) (M : Nat) (S : Nat → Nat) (lc : Nat) (ln : Nat → Nat) (op : Nat) (ch : List en) (V : Nat → Nat → Option rv) (o : ost) (ra rd : Nat → Int32) (sp : Nat → Bool) (st hts : Nat) (FG : Nat → kfr) (fr b cn : Nat → Nat) (top la : Nat) (T : Nat) (ρ' : Nat → Nat) (G' : mj_G) (cn' : Nat → Nat) (top' t' : Nat) : Prop := hh ρ' (u_D u) (u_I u) G' ∧ wC u ρ' G' ∧ dC u ρ' G' N B M S V ra rd sp fr b cn' ∧ uC u G' st hts ∧ oD u G' o ∧ o_le o0 o ∧ fgC u ρ' G' FG ∧ mj_i G' 11 4 = nI top' ∧ top ≤ top' ∧ top' < 200 ∧ (¬ e = Int32.ofInt (-9) → ∀ i, top < i → i ≤ top' → ¬ mj_i G' (707 + 4 * i) 0 = nI 43) ∧ ro_e ρ ρ' G ∧ fw ρ bW G G' ∧ FF ρ top (fr (N - 1)) G G' ∧ (∀ s, s ≠ N - 1 → cn' s = cn s) ∧ t' + 100 * (2000 - st) ≤ T
/-- the stretch from p, at node r, to q, at node nx -/
def sgC (u : wo) (N : Nat) (B : Nat → Nat) (M : Nat) (S : Nat → Nat) (lc : Nat) (ln : Nat → Nat) (op : Nat) (ch : List en) (V : Nat → Nat → Option rv) (o : ost) (ra rd : Nat → Int32) (sp : Nat → Bool) (st hts : Nat) (FG : Nat → kfr) (r p nx q : Nat) (e : Int32) (V' : Nat → Nat → Option rv) (o' : ost) (ra' rd' : Nat → Int32) (sp' : Nat → Bool) (st' hts' : Nat) (FG' : Nat → kfr) : Prop := ∀ (fr b cn : Nat → Nat) (top la : Nat) (ρ : Nat → Nat) (G : mj_G), CC u ρ G N B M S lc ln op ch V o ra rd sp st hts FG fr b cn top la → mj_r G (707 + 4 * top) 2 = r → ∀ Q, q ≤ Q → Q ≤ 80 → 7 * top + (Q - p) ≤ 84 * op + 80 → 5 * (b (N - 1) + cn (N - 1)) ≤ 95 * op + p → ∀ d K t, 300 ≤ d → t + 100 * (2000 - st) + (Q - p) ≤ 900000 → (e = nI 0 → ∀ ρ' G' cn' t', rN u ρ G N B M S lc ln op ch V' o' ra' rd' sp' st' hts' FG' fr b cn top la nx q (t + 100 * (2000 - st) + (q - p)) ρ' G' cn' t' → lp d K t' G') → (¬ e = nI 0 → ∀ o1 ρ' G' cn' top' t', rX u ρ G o e N B M S lc ln op ch V' o1 ra' rd' sp' st' hts' FG' fr b cn top la (t + 100 * (2000 - st) + (q - p)) ρ' G' cn' top' t' → lf d K t' e G') → lp d K t G
section ZA
variable {u : wo} {ρ ρ' : Nat → Nat} {G G1 G' : mj_G} {W : Nat → Prop} {cur r nx p q m d t : Nat} {e : Int32} {K : Int32 → mj_G → Prop} {N : Nat} {B : Nat → Nat} {M : Nat} {S : Nat → Nat} {lc : Nat} {ln : Nat → Nat} {op : Nat} {ch : List en} {V : Nat → Nat → Option rv} {o : ost} {ra rd : Nat → Int32} {sp : Nat → Bool} {st hts : Nat} {FG : Nat → kfr} {V' : Nat → Nat → Option rv} {o' : ost} {ra' rd' : Nat → Int32} {sp' : Nat → Bool} {st' hts' : Nat} {FG' : Nat → kfr} {fr b cn : Nat → Nat} {top la : Nat}
theorem bW_im {o : Nat} (h : bW o) : ¬ im_o o := h.2
theorem bW_o {o : Nat} (h : oW o) : bW o := ⟨by unfold oW at h; omega, oW_im h⟩
theorem rN_CC {T : Nat} {cn' : Nat → Nat} {t' : Nat} (h : rN u ρ G N B M S lc ln op ch V o ra rd sp st hts FG fr b cn top la nx q T ρ' G' cn' t') : CC u ρ' G' N B M S lc ln op ch V o ra rd sp st hts FG fr b cn' top la := h.1
theorem CC_n (h : CC u ρ G N B M S lc ln op ch V o ra rd sp st hts FG fr b cn top la) : hh ρ (u_D u) (u_I u) G := h.1
/-- a stretch, and one behind it -/
theorem sgC_t {r1 m : Nat} {V1 : Nat → Nat → Option rv} {o1 : ost} {ra1 rd1 : Nat → Int32} {sp1 : Nat → Bool} {st1 hts1 : Nat} {FG1 : Nat → kfr} (hpm : p ≤ m) (hmq : m ≤ q) (hle : o_le o o1) (h1 : sgC u N B M S lc ln op ch V o ra rd sp st hts FG r p r1 m (nI 0) V1 o1 ra1 rd1 sp1 st1 hts1 FG1) (h2 : sgC u N B M S lc ln op ch V1 o1 ra1 rd1 sp1 st1 hts1 FG1 r1 m nx q e V' o' ra' rd' sp' st' hts' FG') : sgC u N B M S lc ln op ch V o ra rd sp st hts FG r p nx q e V' o' ra' rd' sp' st' hts' FG' := by
  intro fr b cn top la ρ G hc hr Q hQ h80 hb1 hb2 d K t hd ht k1 k2
  refine h1 fr b cn top la ρ G hc hr Q (by omega) h80 hb1 hb2 d K t hd ht (fun _ => ?_) (fun q => absurd rfl q)
  intro ρ1 G1 cn1 t1 ⟨a1, a2, a3, a4, a5, a6, a7, a8⟩
  have hn := a3.1
  have tt : ∀ {cn' : Nat → Nat}, (∀ s, s ≠ N - 1 → cn' s = cn1 s) → ∀ s, s ≠ N - 1 → cn' s = cn s := fun h s hs => (h s hs).trans (a6 s hs)
  refine h2 fr b cn1 top la ρ1 G1 a1 a5 Q hQ h80 (by omega) a8 d K t1 hd (by omega) (fun he => ?_) (fun he => ?_)
  · intro ρ2 G2 cn2 t2 ⟨b1, b2, b3, b4, b5, b6, b7, b8⟩
    exact k1 he ρ2 G2 cn2 t2 ⟨b1, ro_t a2 hn b2, fw_t a3 a2 b3, FF_t a4 a2 hn b4, b5, tt b6, by omega, b8⟩
  · intro o2 ρ2 G2 cn2 top2 t2 ⟨b1, b2, b3, b4, b5, b6, b7, b8, b9, b10, b11, b12, b13, b14, b15, b16⟩
    exact k2 he o2 ρ2 G2 cn2 top2 t2 ⟨b1, b2, b3, b4, b5, o_le_t hle b6, b7, b8, b9, b10, b11, ro_t a2 hn b12, fw_t a3 a2 b13, FF_t a4 a2 hn b14, tt b15, by omega⟩
/-- a stretch that fails, and anything behind it -/
theorem sgC_x {r1 m : Nat} (hpm : p ≤ m) (hmq : m ≤ q) (he : ¬ e = nI 0) (h1 : sgC u N B M S lc ln op ch V o ra rd sp st hts FG r p r1 m e V' o' ra' rd' sp' st' hts' FG') : sgC u N B M S lc ln op ch V o ra rd sp st hts FG r p nx q e V' o' ra' rd' sp' st' hts' FG' := by
  intro fr b cn top la ρ G hc hr Q hQ h80 hb1 hb2 d K t hd ht k1 k2
  refine h1 fr b cn top la ρ G hc hr Q (by omega) h80 hb1 hb2 d K t hd ht (fun q => absurd q he) (fun _ => ?_)
  intro o2 ρ2 G2 cn2 top2 t2 ⟨b1, b2, b3, b4, b5, b6, b7, b8, b9, b10, b11, b12, b13, b14, b15, b16⟩
  exact k2 he o2 ρ2 G2 cn2 top2 t2 ⟨b1, b2, b3, b4, b5, b6, b7, b8, b9, b10, b11, b12, b13, b14, b15, by omega⟩
/-- nothing left -/
theorem sgC_0 : sgC u N B M S lc ln op ch V o ra rd sp st hts FG r p r p (nI 0) V o ra rd sp st hts FG := by
  intro fr b cn top la ρ G hc hr Q hQ h80 hb1 hb2 d K t hd ht k1 k2
  exact k1 rfl ρ G cn t ⟨hc, ro_r, fw_r, FF_r, hr, fun _ _ => rfl, by omega, hb2⟩
/-- what is next is written -/
theorem CC_nx {y : Nat} (hc : CC u ρ G N B M S lc ln op ch V o ra rd sp st hts FG fr b cn top la) : CC u ρ (mj_pR G (707 + 4 * top) 2 y) N B M S lc ln op ch V o ra rd sp st hts FG fr b cn top la ∧ fw ρ bW G (mj_pR G (707 + 4 * top) 2 y) ∧ FF ρ top cur G (mj_pR G (707 + 4 * top) 2 y) := by
  obtain ⟨h1, h2, h3, h4, h5, h6, h7, h8, h9⟩ := hc
  have ht : top < 200 := h3.2.1
  have hG := hh_n h1
  have ho : ow ρ (707 + 4 * top) = 707 + 4 * top := ow_s (by omega)
  have hl : ¬ lz (707 + 4 * top) 2 := by unfold lz; omega
  have nim : ¬ im_o (707 + 4 * top) := by unfold im_o; omega
  have hh1 : hh ρ (u_D u) (u_I u) (mj_pR G (707 + 4 * top) 2 y) := hh_R h1 (by unfold imm; rw [ho]; exact nim) hl (cs_pR h1.1 (cs_g14 h1.1 ht) rfl)
  have F : fw ρ (fun o => o = 707 + 4 * top) G (mj_pR G (707 + 4 * top) 2 y) := fw_R ho hl h1.2.1
  have hF : ∀ cur, FF ρ top cur G (mj_pR G (707 + 4 * top) 2 y) := fun cur a ha _ _ => ⟨fun j hj => if_neg hj, fun j _ _ => rfl⟩
  have hW : ∀ o, o = 707 + 4 * top → ¬ im_o o := fun o q => by rw [q]; exact nim
  have hk4 := h4
  obtain ⟨c1, c2, c3⟩ := h4
  have hI : ∀ a j, mj_i (mj_pR G (707 + 4 * top) 2 y) a j = mj_i G a j := fun _ _ => rfl
  refine ⟨⟨hh1, wC_f h1 h2 F ro_r hW, sC_F (hF top) h1 h3, ⟨?_, c2, c3⟩, h5, h6, h7, ?_, fgC_f h1 h9 F ro_r (fun o q => ⟨hW o q, by unfold gW; omega⟩)⟩, fw_m F (fun o q => ⟨by omega, hW o q⟩), hF cur⟩
  · refine ⟨c1.1, fun s hs => ?_⟩
    obtain ⟨g1, g2, g3, g4, g5, g6, g7, g8⟩ := c1.2 s hs
    refine ⟨g1, g2, g3, g4, g5, g6, fun p p1 p2 => ?_, g8⟩
    rcases g7 p p1 p2 with g | ⟨l, v, i1, i2, i3, i4, i5⟩
    · exact Or.inl g
    · exact Or.inr ⟨l, v, i1, i2, i3, ce_cv h1 F ro_r (fun o q => ⟨hW o q, by omega⟩) (by omega) i5.1 i4, i5⟩
  · exact (oD_f h1 h8 F (fun o q => by unfold oW; omega)).1
theorem fA_c {A : Nat → Prop} {G0 : mj_G} {a : Nat} (h : fA A ρ G0 G) (ha : A a) : mj_k G a = mj_k G0 a ∧ (∀ j, mj_r G a j = mj_r G0 a j) ∧ ∀ j, mj_i G a j = mj_i G0 a j := by
  obtain ⟨-, -, -, h1, -, h2, h3⟩ := h a ha
  exact ⟨h1, h2, h3⟩
theorem wC_A (h : wC u ρ G) {a : Nat} (ha : u_A u a) : mj_k G a = mj_k (u_G u) a ∧ (∀ j, mj_r G a j = mj_r (u_G u) a j) ∧ ∀ j, mj_i G a j = mj_i (u_G u) a j := fA_c h.2.2.2.1 ha
/-- a step paid -/
theorem CC_st (hc : CC u ρ G N B M S lc ln op ch V o ra rd sp st hts FG fr b cn top la) (hh' : hh ρ (u_D u) (u_I u) G') (F : fw ρ (fun o => o = 6) G G') (h6 : ∀ j, j ≠ 7 → mj_i G' 6 j = mj_i G 6 j) (h7 : mj_i G' 6 7 = nI (st + 1)) (hs : st < u_bu u) : CC u ρ G' N B M S lc ln op ch V o ra rd sp (st + 1) hts FG fr b cn top la ∧ fw ρ bW G G' ∧ FF ρ top cur G G' := by
  obtain ⟨h1, h2, h3, h4, h5, h5', hu, h8, h9⟩ := hc
  have hF : FF ρ top cur G G' := FF_w F h3.2.1 (fun o q t => by omega)
  have nim : ∀ o, o = 6 → ¬ im_o o := fun o q => by rw [q]; unfold im_o; omega
  refine ⟨⟨hh', wC_f h1 h2 F ro_r nim, sC_F (cur := cur) hF h1 h3, dC_f h1 h4 (fun k hk => (h3.2.2.2.2.2.2.2.2.2.2.2.2.2 k hk).1) F ro_r (fun o q => ⟨nim o q, by omega⟩), ?_, ?_, ⟨(h6 6 (by decide)).trans hu.1, h7, (h6 8 (by decide)).trans hu.2.2.1, hu.2.2.2.1, hs⟩, (oD_f h1 h8 F (fun o q => by unfold oW; omega)).1, fgC_f h1 h9 F ro_r (fun o q => ⟨nim o q, by unfold gW; omega⟩)⟩, fw_m F (fun o q => ⟨by omega, nim o q⟩), hF⟩
  · exact (ce_i h1 F (by decide) (by decide)).trans h5
  · exact (ce_i h1 F (by decide) (by decide)).trans h5'
/-- a frame whose own picture holds fails -/
theorem rX_of {o0 : ost} {T : Nat} {cn' : Nat → Nat} {G0 : mj_G} {ρ0 : Nat → Nat} (hc : CC u ρ' G' N B M S lc ln op ch V o ra rd sp st hts FG fr b cn' top la) (hle : o_le o0 o) (he : ro_e ρ0 ρ' G0) (F : fw ρ0 bW G0 G') (hF : FF ρ0 top (fr (N - 1)) G0 G') (hcn : ∀ s, s ≠ N - 1 → cn' s = cn s) (hT : t + 100 * (2000 - st) ≤ T) : rX u ρ0 G0 o0 e N B M S lc ln op ch V o ra rd sp st hts FG fr b cn top la T ρ' G' cn' top t := by
  obtain ⟨h1, h2, h3, h4, h5, h5', hu, h8, h9⟩ := hc
  exact ⟨h1, h2, h4, hu, h8, hle, h9, h5, Nat.le_refl _, h3.2.1, fun _ i h h' => absurd h' (by omega), he, F, hF, hcn, hT⟩
/-- what is next is met: not a macro; a step is paid -/
theorem lp_pay (hc : CC u ρ G N B M S lc ln op ch V o ra rd sp st hts FG fr b cn top la) (hr : mj_r G (707 + 4 * top) 2 = r) (hA : u_A u r) (h0 : r ≠ 0) (hk : mj_k (u_G u) r = 6) (hkd : ¬ mj_i (u_G u) r 0 = nI 36) (ht : t < 1000000) (hd : 1 ≤ d)
    (h1 : st < u_bu u → ∀ G', CC u ρ G' N B M S lc ln op ch V o ra rd sp (st + 1) hts FG fr b cn top la → fw ρ bW G G' → FF ρ top (fr (N - 1)) G G' → mj_r G' (707 + 4 * top) 2 = mj_r (u_G u) r 10 → Rn_run_124 (d + 1) (nI t) r G' K)
    (h2 : st = u_bu u → ∀ G', CC u ρ G' N B M S lc ln op ch V o ra rd sp st hts FG fr b cn top la → fw ρ bW G G' → FF ρ top (fr (N - 1)) G G' → lf d K t (Int32.ofInt (-9)) G') : lp d K t G := by
  have ht2 : top < 200 := hc.2.2.1.2.1
  obtain ⟨A1, A2, A3⟩ := wC_A hc.2.1 hA
  refine w_Rn_run_33 hc.1.1 (z_bf (by rw [z_le (by omega) (by omega)]; omega) (z_bt rfl ?_))
  rw [hc.2.2.2.2.1]
  refine z_bf (by rw [z_lt (by omega) (by omega)]; omega) (z_ixi ht2 (by omega) ?_)
  rw [hr, A2 10, A1]
  refine z_bf h0 ⟨hk, ?_⟩
  rintro _ rfl
  obtain ⟨c1, F1, Q1⟩ := CC_nx (y := mj_r (u_G u) r 10) (cur := fr (N - 1)) hc
  refine z_bf (by rw [show mj_i (mj_pR G (707 + 4 * top) 2 (mj_r (u_G u) r 10)) r 0 = mj_i G r 0 from rfl, A3]; exact hkd) ?_
  obtain ⟨u1, u2, u3, u4, u5⟩ := c1.2.2.2.2.2.2.1
  refine c_pay c1.1 u2 u1 u4 u5 (fun q G2 b1 b2 b3 b4 b5 => z_bt rfl ?_) (fun q => z_bf (by decide) ?_)
  · obtain ⟨e1, e2, e3⟩ := CC_st (cur := fr (N - 1)) c1 b1 b2 b3 b4 q
    have hG := hh_n hc.1
    refine h1 q G2 e1 (fw_t F1 ro_r e2) (FF_t Q1 ro_r F1.1 e3) ?_
    rw [((b2.2.2.2 (707 + 4 * top) (by have := F1.1; omega)).2.2 (by rw [ow_s (by omega)]; omega)).1 2]
    exact z_rRs
  · have h3 := h2 q _ c1 F1 Q1
    unfold lf at h3
    rw [← z_add] at h3
    exact h3
/-- a tag that is not a call is met -/
theorem lp_124 (hS : cs_S G) (hk : mj_k G r = 6) (h33 : ¬ mj_i G r 0 = nI 33) (h38 : ¬ mj_i G r 0 = nI 38) (hm : Rn_meet d r G (fun v G3 => (v = nI 0 → lp d K (t + 1) G3) ∧ (¬ v = nI 0 → lf d K t v G3))) : Rn_run_124 (d + 1) (nI t) r G K := by
  refine w_Rn_run_124 hS (w_Rn_isCall hS ⟨hk, z_bf h33 (z_bf h38 (z_bf (by decide) ?_))⟩)
  unfold lp lf at hm
  rw [← z_add] at hm
  have : (fun v25 G24 => mm_br (v25 = nI 0) (Rn_run_33 (d + 1) v25 (nI t + nI 1) G24 K) (Rn_rescue d v25 G24 (fun v27 G26 => Rn_run_33 (d + 1) v27 (nI t + nI 1) G26 K))) = (fun v G3 => (v = nI 0 → Rn_run_33 (d + 1) (nI 0) (nI t + nI 1) G3 K) ∧ (¬ v = nI 0 → Rn_rescue d v G3 (fun v G' => Rn_run_33 (d + 1) v (nI t + nI 1) G' K))) := by
    funext v G3
    unfold mm_br
    refine propext ⟨fun h => ⟨fun q => by have := h.1 q; rw [q] at this; exact this, h.2⟩, fun h => ⟨fun q => by rw [q]; exact h.1 q, h.2⟩⟩
  rw [this]
  exact hm
end ZA
