/-! NODES MET, the class's half: what tags must keep to -/
/-- what follows a node that was met -/
def kk (d : Nat) (K : Int32 → mj_G → Prop) (t : Nat) : Int32 → mj_G → Prop := fun v G3 => (v = nI 0 → lp (d + 1) K (t + 1) G3) ∧ (¬ v = nI 0 → lf (d + 1) K t v G3)
/-- a node met, its step paid -/
def mdC (u : wo) (c : Nat) (N : Nat) (B : Nat → Nat) (M : Nat) (S : Nat → Nat) (lc : Nat) (ln : Nat → Nat) (op : Nat) (ch : List en) (V : Nat → Nat → Option rv) (o : ost) (ra rd : Nat → Int32) (sp : Nat → Bool) (st hts : Nat) (FG : Nat → kfr) (r p nx q : Nat) (e : Int32) (V' : Nat → Nat → Option rv) (o' : ost) (ra' rd' : Nat → Int32) (sp' : Nat → Bool) (st' hts' : Nat) (FG' : Nat → kfr) : Prop := ∀ (fr b cn : Nat → Nat) (top la : Nat) (ρ : Nat → Nat) (G : mj_G), CC u ρ G N B M S lc ln op ch V o ra rd sp st hts FG fr b cn top la → mj_r G (707 + 4 * top) 2 = mj_r (u_G u) r 10 → mj_k G r = 6 → (∀ j, mj_r G r j = mj_r (u_G u) r j) → (∀ j, mj_i G r j = mj_i (u_G u) r j) → ∀ Q, q ≤ Q → Q ≤ 80 → 7 * top + (Q - p) ≤ 84 * op + 80 → 5 * (b (N - 1) + cn (N - 1)) ≤ 95 * op + p → ∀ d dm K t, 299 ≤ d → 250 ≤ dm → t + 100 * (2000 - st) + 100 + (Q - p) ≤ 900000 → (e = nI 0 → ∀ ρ' G' cn' t', rN u ρ G N B M S lc ln op ch V' o' ra' rd' sp' st' hts' FG' fr b cn top la nx q (t + 100 * (2000 - st) + 100 + (q - p)) ρ' G' cn' t' → lp (d + 1) K t' G') → (¬ e = nI 0 → ∀ o1 ρ' G' cn' top' t', rX u ρ G o e N B M S lc ln op ch V' o1 ra' rd' sp' st' hts' FG' fr b cn top la (t + 100 * (2000 - st) + 100 + (q - p)) ρ' G' cn' top' t' → lf (d + 1) K t' e G') → mtD dm c r G (kk d K t)
/-- its value found in the first slot -/
def meC (u : wo) (c : Nat) (v : rv) (N : Nat) (B : Nat → Nat) (M : Nat) (S : Nat → Nat) (lc : Nat) (ln : Nat → Nat) (op : Nat) (ch : List en) (V : Nat → Nat → Option rv) (o : ost) (ra rd : Nat → Int32) (sp : Nat → Bool) (st hts : Nat) (FG : Nat → kfr) (r p nx q : Nat) (e : Int32) (V' : Nat → Nat → Option rv) (o' : ost) (ra' rd' : Nat → Int32) (sp' : Nat → Bool) (st' hts' : Nat) (FG' : Nat → kfr) : Prop := ∀ (fr b cn : Nat → Nat) (top la : Nat) (ρ : Nat → Nat) (G : mj_G), CC u ρ G N B M S lc ln op ch V o ra rd sp st hts FG fr b cn top la → cv (sv ρ 0) G 1509 v → mj_r G (707 + 4 * top) 2 = mj_r (u_G u) r 10 → mj_k G r = 6 → (∀ j, mj_r G r j = mj_r (u_G u) r j) → (∀ j, mj_i G r j = mj_i (u_G u) r j) → ∀ Q, q ≤ Q → Q ≤ 80 → 7 * top + (Q - p) ≤ 84 * op + 80 → 5 * (b (N - 1) + cn (N - 1)) ≤ 95 * op + p → ∀ d dm K t, 299 ≤ d → 240 ≤ dm → t + 100 * (2000 - st) + 100 + (Q - p) ≤ 900000 → (e = nI 0 → ∀ ρ' G' cn' t', rN u ρ G N B M S lc ln op ch V' o' ra' rd' sp' st' hts' FG' fr b cn top la nx q (t + 100 * (2000 - st) + 100 + (q - p)) ρ' G' cn' t' → lp (d + 1) K t' G') → (¬ e = nI 0 → ∀ o1 ρ' G' cn' top' t', rX u ρ G o e N B M S lc ln op ch V' o1 ra' rd' sp' st' hts' FG' fr b cn top la (t + 100 * (2000 - st) + 100 + (q - p)) ρ' G' cn' top' t' → lf (d + 1) K t' e G') → mwD dm c r G (kk d K t)
section ZB2
variable {u : wo} {ρ ρ' : Nat → Nat} {G G1 G' : mj_G} {W : Nat → Prop} {cur r nx p q m d t T l s : Nat} {e : Int32} {K : Int32 → mj_G → Prop} {v : rv} {N : Nat} {B : Nat → Nat} {M : Nat} {S : Nat → Nat} {lc : Nat} {ln : Nat → Nat} {op : Nat} {ch : List en} {V : Nat → Nat → Option rv} {o : ost} {ra rd : Nat → Int32} {sp : Nat → Bool} {st hts : Nat} {FG : Nat → kfr} {V' : Nat → Nat → Option rv} {o' : ost} {ra' rd' : Nat → Int32} {sp' : Nat → Bool} {st' hts' : Nat} {FG' : Nat → kfr} {fr b cn : Nat → Nat} {top la : Nat}
/-- a stretch that went well, behind a stretch without end of its own -/
theorem rN_l {nx q TT TT' t' : Nat} {cn' : Nat → Nat} {ρ1 : Nat → Nat} (he : ro_e ρ ρ1 G) (F : fw ρ bW G G1) (hF : FF ρ top (fr (N - 1)) G G1) (hT : TT ≤ TT') (h : rN u ρ1 G1 N B M S lc ln op ch V o ra rd sp st hts FG fr b cn top la nx q TT ρ' G' cn' t') : rN u ρ G N B M S lc ln op ch V o ra rd sp st hts FG fr b cn top la nx q TT' ρ' G' cn' t' := by
  obtain ⟨b1, b2, b3, b4, b5, b6, b7, b8⟩ := h
  exact ⟨b1, ro_t he F.1 b2, fw_t F he b3, FF_t hF he F.1 b4, b5, b6, by omega, b8⟩
theorem rX_l {o0 o1 : ost} {top' TT TT' t' : Nat} {cn' : Nat → Nat} {ρ1 : Nat → Nat} (hle : o_le o0 o1) (he : ro_e ρ ρ1 G) (F : fw ρ bW G G1) (hF : FF ρ top (fr (N - 1)) G G1) (hT : TT ≤ TT') (h : rX u ρ1 G1 o1 e N B M S lc ln op ch V o ra rd sp st hts FG fr b cn top la TT ρ' G' cn' top' t') : rX u ρ G o0 e N B M S lc ln op ch V o ra rd sp st hts FG fr b cn top la TT' ρ' G' cn' top' t' := by
  obtain ⟨b1, b2, b3, b4, b5, b6, b7, b8, b9, b10, b11, b12, b13, b14, b15, b16⟩ := h
  exact ⟨b1, b2, b3, b4, b5, o_le_t hle b6, b7, b8, b9, b10, b11, ro_t he F.1 b12, fw_t F he b13, FF_t hF he F.1 b14, b15, by omega⟩
theorem sgC_9 {c : Nat} (hn : nd u T r p c) (hc : c < 200) (hcc : c = 1 ∨ (tx_T c ∧ ¬ c = 36)) (hpm : p < m) (hs : st = u_bu u) : sgC u N B M S lc ln op ch V o ra rd sp st hts FG r p (mj_r (u_G u) r 10) m (Int32.ofInt (-9)) V o ra rd sp st hts FG := by
  intro fr b cn top la ρ G hC hr Q hQ h80 hb1 hb2 d K t hd ht k1 k2
  obtain ⟨d, rfl⟩ : ∃ x, d = x + 1 := ⟨d - 1, by omega⟩
  refine lp_meet hn hc hcc hC hr (by omega) (fun q => absurd q (by omega)) (fun _ G' a1 a2 a3 => ?_)
  exact k2 (by decide) o ρ G' cn top t (rX_of a1 o_le_r ro_r a2 a3 (fun _ _ => rfl) (by omega))
theorem sgC_md {c : Nat} (hn : nd u T r p c) (hc : c < 200) (hcc : c = 1 ∨ (tx_T c ∧ ¬ c = 36)) (hpm : p < m) (hs : st < u_bu u) (h : mdC u c N B M S lc ln op ch V o ra rd sp (st + 1) hts FG r p nx m e V' o' ra' rd' sp' st' hts' FG') : sgC u N B M S lc ln op ch V o ra rd sp st hts FG r p nx m e V' o' ra' rd' sp' st' hts' FG' := by
  intro fr b cn top la ρ G hC hr Q hQ h80 hb1 hb2 d K t hd ht k1 k2
  obtain ⟨d, rfl⟩ : ∃ x, d = x + 1 := ⟨d - 1, by omega⟩
  have hb := hC.2.2.2.2.2.2.1.2.2.2.1
  refine lp_meet hn hc hcc hC hr (by omega) (fun _ G1 a1 a2 a3 a4 a5 a6 a7 => ?_) (fun q => absurd q (by omega))
  refine h fr b cn top la ρ G1 a1 a4 a5 a6 a7 Q hQ h80 hb1 hb2 d d K t (by omega) (by omega) (by omega) (fun he ρ' G' cn' t' hN => ?_) (fun he o1 ρ' G' cn' top' t' hX => ?_)
  · exact k1 he ρ' G' cn' t' (rN_l ro_r a2 a3 (by omega) hN)
  · exact k2 he o1 ρ' G' cn' top' t' (rX_l o_le_r ro_r a2 a3 (by omega) hX)
/-- its expression is found first -/
theorem mdC_me {c : Nat} {x0 x1 : Nat} {ra1 rd1 : Nat → Int32} (hn : nd u T r p c) (hc : c = 42 ∨ c = 61 ∨ c = 63 ∨ c = 116 ∨ c = 37) (hf : fnC (u_D u) (u_I u) N B V M S N (u_A u) (u_G u) (mj_r (u_G u) r 6) x0 x1 0 0 ra rd (nI 0) v ra1 rd1) (hx : x1 - x0 ≤ 80) (h : meC u c v N B M S lc ln op ch V o ra1 rd1 sp st hts FG r p nx q e V' o' ra' rd' sp' st' hts' FG') : mdC u c N B M S lc ln op ch V o ra rd sp st hts FG r p nx q e V' o' ra' rd' sp' st' hts' FG' := by
  intro fr b cn top la ρ G hC hnx k1 k2 k3 Q hQ h80 hb1 hb2 d dm K t hd hdm ht c1 c2
  obtain ⟨dm, rfl⟩ : ∃ x, dm = x + 1 := ⟨dm - 1, by omega⟩
  have go : Rn_meetWithValue (dm + 1) r G (kk d K t) := by
    refine c_mwv hC hn.1 hn.2.2.1 hn.2.2.2.2.2 hc hf (by omega) (fun _ ρ' G' a1 a2 a3 a4 a5 a6 => ?_) (fun q => absurd rfl q)
    obtain ⟨A1, A2, A3⟩ := wC_A a1.2.1 hn.1
    refine h fr b cn top la ρ' G' a1 a6 (a5.trans hnx) (A1.trans hn.2.2.1) A2 A3 Q hQ h80 hb1 hb2 d dm K t hd (by omega) ht (fun he ρ2 G2 cn' t' hN => ?_) (fun he o1 ρ2 G2 cn' top' t' hX => ?_)
    · exact c1 he ρ2 G2 cn' t' (rN_l a2 a3 a4 (by omega) hN)
    · exact c2 he o1 ρ2 G2 cn' top' t' (rX_l o_le_r a2 a3 a4 (by omega) hX)
  exact ⟨fun q => absurd q (by omega), fun q => absurd q (by omega), fun _ => go, fun q => absurd q (by omega), fun q => absurd q (by omega), fun q => absurd q (by omega), fun q => absurd q (by omega), fun q => absurd q (by omega), fun q => absurd q (by omega), fun q => absurd q (by omega)⟩
theorem mdC_mx {c : Nat} {x0 x1 : Nat} {ra1 rd1 : Nat → Int32} (hn : nd u T r p c) (hc : c = 42 ∨ c = 61 ∨ c = 63 ∨ c = 116 ∨ c = 37) (he : ¬ e = nI 0) (hf : fnC (u_D u) (u_I u) N B V M S N (u_A u) (u_G u) (mj_r (u_G u) r 6) x0 x1 0 0 ra rd e v ra1 rd1) (hx : x1 - x0 ≤ 80) : mdC u c N B M S lc ln op ch V o ra rd sp st hts FG r p nx q e V o ra1 rd1 sp st hts FG := by
  intro fr b cn top la ρ G hC hnx k1 k2 k3 Q hQ h80 hb1 hb2 d dm K t hd hdm ht c1 c2
  obtain ⟨dm, rfl⟩ : ∃ x, dm = x + 1 := ⟨dm - 1, by omega⟩
  have go : Rn_meetWithValue (dm + 1) r G (kk d K t) := by
    refine c_mwv hC hn.1 hn.2.2.1 hn.2.2.2.2.2 hc hf (by omega) (fun q => absurd q he) (fun _ ρ' G' a1 a2 a3 a4 => ⟨fun q => absurd q he, fun _ => ?_⟩)
    exact c2 he o ρ' G' cn top t (rX_of a1 o_le_r a2 a3 a4 (fun _ _ => rfl) (by omega))
  exact ⟨fun q => absurd q (by omega), fun q => absurd q (by omega), fun _ => go, fun q => absurd q (by omega), fun q => absurd q (by omega), fun q => absurd q (by omega), fun q => absurd q (by omega), fun q => absurd q (by omega), fun q => absurd q (by omega), fun q => absurd q (by omega)⟩
/-- output put out, and then the loop goes on -/
theorem kk_o {e' : Int32} {o' : ost} {TT : Nat} (hC : CC u ρ G N B M S lc ln op ch V o ra rd sp st hts FG fr b cn top la) (hnx : mj_r G (707 + 4 * top) 2 = nx) (hle : o_le o o') (hb : 5 * (b (N - 1) + cn (N - 1)) ≤ 95 * op + q) (hT : t + 1 + 100 * (2000 - st) ≤ TT) (hh' : hh ρ' (u_D u) (u_I u) G') (he : ro_e ρ ρ' G) (F : fw ρ oW G G') (hx : oX G G') (ho : oC G' o')
    (k1 : e' = nI 0 → ∀ ρ' G' cn' t', rN u ρ G N B M S lc ln op ch V o' ra rd sp st hts FG fr b cn top la nx q TT ρ' G' cn' t' → lp (d + 1) K t' G') (k2 : ¬ e' = nI 0 → ∀ o1 ρ' G' cn' top' t', rX u ρ G o e' N B M S lc ln op ch V o1 ra rd sp st hts FG fr b cn top la TT ρ' G' cn' top' t' → lf (d + 1) K t' e' G') : kk d K t e' G' := by
  obtain ⟨c1, c2⟩ := CC_o (cur := fr (N - 1)) hC hh' F he hx ho
  have hG := hh_n hC.1
  have htop := hC.2.2.1.2.1
  have F' : fw ρ bW G G' := fw_m F (fun o q => bW_o q)
  have e10 : mj_r G' (707 + 4 * top) 2 = nx := by
    rw [((F.2.2.2 (707 + 4 * top) (by omega)).2.2 (by rw [ow_s (by omega)]; unfold oW; omega)).1 2]
    exact hnx
  refine ⟨fun he' => ?_, fun he' => ?_⟩
  · exact k1 he' ρ' G' cn (t + 1) ⟨c1, he, F', c2, e10, fun _ _ => rfl, hT, hb⟩
  · exact k2 he' o' ρ' G' cn top t (rX_of c1 hle he F' c2 (fun _ _ => rfl) (by omega))
/-- a character that stands for itself -/
theorem mdC_lit (hn : nd u T r p 1) (hT : T < 10) (hw : 32 ≤ m ∧ m ≤ 126) (hp : p < 80) (h5 : mj_i (u_G u) r 5 = nI m) : mdC u 1 N B M S lc ln op ch V o ra rd sp st hts FG r p (mj_r (u_G u) r 10) (p + 1) (o_lt m (100 * T + p) o).1 V (o_lt m (100 * T + p) o).2 ra rd sp st hts FG := by
  intro fr b cn top la ρ G hC hnx k1 k2 k3 Q hQ h80 hb1 hb2 d dm K t hd hdm ht c1 c2
  obtain ⟨dm, rfl⟩ : ∃ x, dm = x + 2 := ⟨dm - 2, by omega⟩
  refine ⟨fun _ => c_origin hn hC.1.1 k1 k3 ?_, fun q => absurd q (by decide), fun q => absurd q (by decide), fun q => absurd q (by decide), fun q => absurd q (by decide), fun q => absurd q (by decide), fun q => absurd q (by decide), fun q => absurd q (by decide), fun q => absurd q (by decide), fun q => absurd q (by decide)⟩
  rw [k3, h5]
  exact c_putLiteral (by omega) (by omega) hw hC.1 hC.2.2.2.2.2.2.2.1.1 (fun G' a1 a2 a3 a4 => kk_o hC hnx o_lt_le (by omega) (by omega) a1 ro_r a2 a3 a4 c1 c2)
end ZB2
