/-! TAGS by both sides: values put out, messages, variables set, blanks trimmed -/
/-- what holds of the world ahead of all heaps -/
def uP (u : wo) : Prop := da (u_D u) (u_I u) ∧ u_bu u ≤ 2000 ∧ (∀ j, j < 20 → rv_ok (u_F u j) ∧ rv_t (u_F u j) = 2 ∧ rv_l (u_F u j) ≤ 80) ∧ ∀ T, T < 10 → tx_W (u_w u T) (u_n u T) ∧ u_pa u T ≤ 10 ∧ ∃ s k, tp_P (u_w u T) s (sh (u_pa u T)) ∧ tb_B k (u_A u) (u_G u) (nI T) (Int32.ofInt (-1)) (u_bd u T) (u_w u T) s (u_n u T) (u_L u T)
/-- a call's body is a body of a template -/
def enP (u : wo) (N : Nat) (x : en) : Prop := en_T x < 10 ∧ en_n x ≤ 10 ∧ 1 ≤ en_x x ∧ en_x x ≤ N ∧ en_q x ≤ u_n u (en_T x) ∧ (∀ j, j < en_n x → en_c x j < 10) ∧ ∃ k b L, tb_B k (u_A u) (u_G u) (nI (en_T x)) b (en_r x) (u_w u (en_T x)) (en_p x) (en_q x) L ∧ ∀ y, y ∈ L → y ∈ u_L u (en_T x)
/-- what holds of the frames ahead of all heaps -/
def pX (u : wo) (N : Nat) (B : Nat → Nat) (M : Nat) (S : Nat → Nat) (lc : Nat) (ln : Nat → Nat) (op : Nat) (ch : List en) : Prop := 1 ≤ N ∧ op ≤ 12 ∧ lc ≤ 10 ∧ (∀ j, j < lc → ln j < 10) ∧ (∀ s, B s ≤ s) ∧ M ≤ op ∧ (∀ k, k < M → S k < N) ∧ ∀ x, x ∈ ch → enP u N x
def pV (u : wo) (N : Nat) (V : Nat → Nat → Option rv) : Prop := ∀ s l v, V s l = some v → s < N ∧ l < 26 ∧ rv_in (u_D u) v
/-- what holds of a stretch's end ahead of all heaps -/
def pJ (u : wo) (N : Nat) (V : Nat → Nat → Option rv) (o : ost) (st : Nat) (e : Int32) (V' : Nat → Nat → Option rv) (o' : ost) (st' M : Nat) (sp sp' : Nat → Bool) : Prop := oJ M sp o e sp' o' ∧ pV u N V' ∧ (∀ s l, s + 1 < N → V' s l = V s l) ∧ st ≤ st' ∧ st' ≤ u_bu u
/-- a tag met alike by both sides, its step paid -/
def mdJ (u : wo) (Gm : mj_G) (T c : Nat) (N : Nat) (B : Nat → Nat) (M : Nat) (S : Nat → Nat) (lc : Nat) (ln : Nat → Nat) (op : Nat) (ch : List en) (V : Nat → Nat → Option rv) (o : ost) (ra rd : Nat → Int32) (sp : Nat → Bool) (st hts : Nat) (FG : Nat → kfr) (r p m : Nat) : Prop := ∃ (e : Int32) (V' : Nat → Nat → Option rv) (o' : ost) (ra' rd' : Nat → Int32) (sp' : Nat → Bool) (st' hts' : Nat) (FG' : Nat → kfr), pJ u N V o st e V' o' st' M sp sp' ∧ mdC u c N B M S lc ln op ch V o ra rd sp st hts FG r p (mj_r (u_G u) r 10) m e V' o' ra' rd' sp' st' hts' FG' ∧ mdM u Gm T c N B M S lc ln op ch V o ra rd sp st hts FG p m e V' o' ra' rd' sp' st' hts' FG'
section ZF
variable {u : wo} {Gm : mj_G} {f f' : mm_F} {ρ ρ' : Nat → Nat} {G G1 G' : mj_G} {cur r p q m d t T l s k c : Nat} {e : Int32} {v : rv} {b1 : Int32} {L1 : List (Nat × Nat)} {N : Nat} {B : Nat → Nat} {M : Nat} {S : Nat → Nat} {lc : Nat} {ln : Nat → Nat} {op : Nat} {ch : List en} {V : Nat → Nat → Option rv} {o : ost} {ra rd : Nat → Int32} {sp : Nat → Bool} {st hts : Nat} {FG : Nat → kfr} {V' : Nat → Nat → Option rv} {o' : ost} {ra' rd' : Nat → Int32} {sp' : Nat → Bool} {st' hts' : Nat} {FG' : Nat → kfr} {fr b cn : Nat → Nat} {top la : Nat} {bg : Nat → Nat} {vc li LC : Nat} {ci : Int32} {CA tr : Nat}
theorem pX_10 (h : pX u N B M S lc ln op ch) : ∀ x, x ∈ ch → en_n x ≤ 10 := fun x hx => (h.2.2.2.2.2.2.2 x hx).2.1
theorem pJ_r (hV : pV u N V) (hs : st ≤ u_bu u) : pJ u N V o st e V o st M sp sp := ⟨oJ_r, hV, fun _ _ _ => rfl, Nat.le_refl _, hs⟩
theorem pJ_o (hV : pV u N V) (hs : st ≤ u_bu u) (h : o_le o o') (h2 : o_gr o o') : pJ u N V o st e V o' st M sp sp := ⟨oJ_p h h2, hV, fun _ _ _ => rfl, Nat.le_refl _, hs⟩
theorem pJ_a (hV : pV u N V) (hs : st ≤ u_bu u) (h : o_le o o') : pJ u N V o st e V o' st M sp (fun _ => true) := ⟨oJ_a h, hV, fun _ _ _ => rfl, Nat.le_refl _, hs⟩
theorem tg_nd (hA : u_A u r) (ht : tb_t k (u_A u) (u_G u) (nI T) b1 r (u_w u T) p m L1) (hc : u_w u T (p + 1) = c) : nd u T r p c := by
  obtain ⟨t1, t2, t3, t4, t5, t6, t7, -⟩ := ht
  exact ⟨hA, t1, t2, t3, t4, by rw [t7, hc]⟩
/-- where an expression of a tag lies -/
theorem tg_ex (ht : tb_t k (u_A u) (u_G u) (nI T) b1 r (u_w u T) p m L1) (hW : tx_W (u_w u T) (u_n u T)) (hc : u_w u T (p + 1) = 61 ∨ u_w u T (p + 1) = 63 ∨ u_w u T (p + 1) = 42 ∨ u_w u T (p + 1) = 37 ∨ u_w u T (p + 1) = 116) :
    ∃ e s l, (s = if u_w u T (p + 1) = 61 ∨ u_w u T (p + 1) = 63 then p + 2 else p + 3) ∧ tx_E l (u_A u) (u_G u) (mj_r (u_G u) r 6) (u_w u T) s e false ∧ s < e ∧ e < u_n u T ∧ (u_w u T p = 123 ∧ u_w u T e = 125) ∧ tb_h (u_A u) (u_G u) r b1 (u_w u T) p e ∧ tb_a k (u_A u) (u_G u) (nI T) b1 r (u_w u T) p e m L1 ∧ (u_w u T (p + 1) = 42 ∨ u_w u T (p + 1) = 37 → tx_L (u_w u T (p + 2)) ∧ mj_i (u_G u) r 4 = nI (u_w u T (p + 2) - 97)) ∧ (u_w u T (p + 1) = 116 → tx_D (u_w u T (p + 2)) ∧ mj_i (u_G u) r 3 = nI (u_w u T (p + 2) - 48)) := by
  obtain ⟨t1, t2, t3, t4, t5, t6, t7, e, h8, h9, h10, h11⟩ := ht
  have hen : e < u_n u T := tx_in hW (by omega)
  have h9' := h9
  rcases h9 with ⟨a, ⟨l, hE⟩, -⟩ | ⟨a, a2, ⟨l, hE⟩, -, a4, -⟩ | ⟨a, a2, ⟨l, hE⟩, a3, -⟩ | ⟨a, -⟩ | ⟨a, -⟩ | ⟨a, -⟩ | ⟨a, -⟩ | ⟨a, -⟩
  · obtain ⟨x1, -⟩ := tx_E_ch hE
    exact ⟨e, p + 2, l, (if_pos a).symm, hE, by omega, hen, ⟨t5, h10⟩, h9', h11, fun q => by omega, fun q => by omega⟩
  · obtain ⟨x1, -⟩ := tx_E_ch hE
    exact ⟨e, p + 3, l, (if_neg (by omega)).symm, hE, by omega, hen, ⟨t5, h10⟩, h9', h11, fun _ => ⟨a2, a4⟩, fun q => by omega⟩
  · obtain ⟨x1, -⟩ := tx_E_ch hE
    exact ⟨e, p + 3, l, (if_neg (by omega)).symm, hE, by omega, hen, ⟨t5, h10⟩, h9', h11, fun q => by omega, fun _ => ⟨a2, a3⟩⟩
  all_goals omega
theorem sv_oW {c : Nat} (h : sv ρ 0 c) : ¬ oW (ow ρ c) := fun q => by
  rcases h with h | h | h
  · exact oW_im q h
  · unfold oW at q
    omega
  · unfold oW at q
    omega
theorem cv_oW (hC : CC u ρ G N B M S lc ln op ch V o ra rd sp st hts FG fr b cn top la) (hv : rv_ok v) (h : cv (sv ρ 0) G 1509 v) : o_cv ρ G 1509 v := by
  have hG := hh_n hC.1
  exact ⟨by omega, by rw [ow_s (by decide)]; unfold oW; omega, cv_m h (fun c q => sv_oW q), hv⟩
/-- a value put out -/
theorem md_61 (hM : mm_S Gm) (hu : uP u) (hT : T < 10) (hx : pX u N B M S lc ln op ch) (hV : pV u N V) (hA : u_A u r) (ht : tb_t k (u_A u) (u_G u) (nI T) b1 r (u_w u T) p m L1) (hc : u_w u T (p + 1) = 61) (hst : st ≤ u_bu u) : mdJ u Gm T 61 N B M S lc ln op ch V o ra rd sp st hts FG r p m := by
  have hW := (hu.2.2.2 T hT).1
  have hn := hW.1
  obtain ⟨x1, s, l, es, hE, h1, h2, h3, -, hta, -, -⟩ := tg_ex ht hW (Or.inl hc)
  rw [if_pos (Or.inl hc)] at es
  subst es
  have hnd := tg_nd hA ht hc
  have hmm : m = x1 + 1 := by
    rcases hta with ⟨-, g, -⟩ | ⟨g, -⟩ | ⟨g, -⟩
    · exact g
    · unfold tx_B at g
      omega
    · omega
  obtain ⟨e1, v, ra1, rd1, f1, f2, f3, -⟩ := fn_all (t := T) (sl := 0) (dep := 0) hM hW hx.2.2.2.2.1 hu.1 (fun s l v q => (hV s l v q).2.2) (Nat.le_refl N) hE (by omega) (by omega) (by omega) ra rd
  by_cases he : e1 = nI 0
  · subst he
    have hvin := f1 rfl
    refine ⟨(o_v (100 * T + p) v o).1, V, (o_v (100 * T + p) v o).2, ra1, rd1, sp, st, hts, FG, pJ_o hV hst o_v_le o_v_gr, mdC_me hnd (by omega) f2 (by omega) ?_, ?_⟩
    · intro fr b cn top la ρ G hC hcv hnx k1 k2 k3 Q hQ h80 hb1 hb2 d dm K t hd hdm htt c1 c2
      obtain ⟨dm, rfl⟩ : ∃ x, dm = x + 3 := ⟨dm - 3, by omega⟩
      refine ⟨fun q => absurd q (by decide), fun _ => c_origin hnd hC.1.1 k1 k3 ?_, fun q => absurd q (by decide), fun q => absurd q (by decide), fun q => absurd q (by decide)⟩
      exact c_putValue (by omega) (by omega) hC.1 (cv_oW hC hvin.1 hcv) hC.2.2.2.2.2.2.2.1.1 (fun G' a1 a2 a3 a4 => kk_o hC hnx o_v_le (by omega) (by omega) a1 ro_r a2 a3 a4 c1 c2)
    · intro f bg vc li LC ci CA tr hm Q hQ hQn hb1 hb2 D KK hD hk
      obtain ⟨D, rfl⟩ : ∃ x, D = x + 5 := ⟨D - 5, by omega⟩
      refine ⟨fun q => absurd q (by decide), fun q => absurd q (by decide), fun _ => w_m_rendersPlain hM (z_bf (by decide) (z_bt rfl ?_))⟩
      rw [z_add]
      refine p_f2 (d := D + 2) hM hT (pX_10 hx) hm f3 (by omega) (by omega) (by omega) (by omega) (fun _ f1 a1 a2 a3 _ => ?_) (fun q => absurd rfl q)
      refine z_bt a1.2.2.2.2.2.2.2.1 ?_
      rw [z_mul, z_add]
      refine p_putsValue (d := D) hM (by decide) (by omega) (by omega) hvin.1 a3 (a1.2.2.2.2.2.2.2.2.1) a1.2.2.2.2.2.2.2.1 (fun f2 F2 o2 e2 => ?_)
      obtain ⟨b1, b2⟩ := MM_o a1 (pX_10 hx) F2 (fun i q => by have q' : i = 320 := q; omega) o2 e2
      exact hk f2 vc _ b1 (mF_t a2 b2) (by omega)
  · refine ⟨e1, V, o, ra1, rd1, sp, st, hts, FG, pJ_r hV hst, mdC_mx hnd (by omega) he f2 (by omega), ?_⟩
    intro f bg vc li LC ci CA tr hm Q hQ hQn hb1 hb2 D KK hD hk
    obtain ⟨D, rfl⟩ : ∃ x, D = x + 3 := ⟨D - 3, by omega⟩
    refine ⟨fun q => absurd q (by decide), fun q => absurd q (by decide), fun _ => w_m_rendersPlain hM (z_bf (by decide) (z_bt rfl ?_))⟩
    rw [z_add]
    refine p_f2 (d := D) hM hT (pX_10 hx) hm f3 (by omega) (by omega) (by omega) (by omega) (fun q => absurd q he) (fun _ k f1 fe a1 a2 _ _ _ _ _ => ?_)
    exact z_bf (by rw [a1.2.2.2.2.2.2.2.1]; exact he) (hk f1 vc _ a1 a2 (by omega))
/-- output put out, and what is free -/
theorem MM_o1 {P : Nat → Prop} {fe : Int32} {o' : ost} {e' : Int32} (h : MM u f N B M S lc ln op ch V o ra rd sp st hts FG e bg vc li LC ci CA tr fe) (h10 : ∀ x, x ∈ ch → en_n x ≤ 10) (F : mw P oS1 oR f f') (hP : ∀ i, P i → 320 ≤ i) (ho : oM f' o') (he : f' 1714 70 = e') : MM u f' N B M S lc ln op ch V o' ra rd sp st hts FG e' bg vc li LC ci CA tr (f' 1714 21) ∧ mF tr LC CA f f' := by
  obtain ⟨h1, h2, h3, h4, h5, h6, h7, h8, h9, h0⟩ := h
  have s : ∀ j, (j = 68 ∨ j = 69) → f' 1714 j = f 1714 j := fun j hj => F.2.1 j (fun q => by unfold oS1 oS at q; omega)
  exact ⟨⟨wM_f h1 F (fun q => by unfold oS1 oS at q; omega) (fun a q => by unfold oR at q; omega), sM_21 h2 h10 F (fun j q => by unfold oS1 oS at q; omega) (fun a q => by unfold oR at q; omega) rfl, dM_f h3 F hP (fun j q => by unfold oS1 oS at q; omega) (fun a q => by unfold oR at q; omega), (s 68 (by omega)).trans h4, h5, h6, (s 69 (by omega)).trans h7, he, ho, fgM_f h0 F (fun a q => by unfold oR at q; omega)⟩, mF_w F (fun j q => by unfold oS1 oS at q; unfold rS; omega) (fun a q => by unfold oR at q; unfold rR; omega)⟩
/-- a message put out -/
theorem md_116 (hM : mm_S Gm) (hu : uP u) (hT : T < 10) (hx : pX u N B M S lc ln op ch) (hV : pV u N V) (hA : u_A u r) (ht : tb_t k (u_A u) (u_G u) (nI T) b1 r (u_w u T) p m L1) (hc : u_w u T (p + 1) = 116) (hst : st ≤ u_bu u) : mdJ u Gm T 116 N B M S lc ln op ch V o ra rd sp st hts FG r p m := by
  have hW := (hu.2.2.2 T hT).1
  have hn := hW.1
  obtain ⟨x1, s, l, es, hE, h1, h2, h3, -, hta, -, hg⟩ := tg_ex ht hW (by omega)
  rw [if_neg (by omega)] at es
  subst es
  obtain ⟨hgD, hg3⟩ := hg hc
  have hnd := tg_nd hA ht hc
  have hmm : m = x1 + 1 := by
    rcases hta with ⟨-, g, -⟩ | ⟨g, -⟩ | ⟨g, -⟩
    · exact g
    · unfold tx_B at g
      omega
    · omega
  have hg10 : u_w u T (p + 2) - 48 < 10 ∧ 48 ≤ u_w u T (p + 2) ∧ u_w u T (p + 2) ≤ 57 := by
    unfold tx_D at hgD
    omega
  obtain ⟨e1, v, ra1, rd1, f1, f2, f3, -⟩ := fn_all (t := T) (sl := 0) (dep := 0) hM hW hx.2.2.2.2.1 hu.1 (fun s l v q => (hV s l v q).2.2) (Nat.le_refl N) hE (by omega) (by omega) (by omega) ra rd
  by_cases he : e1 = nI 0
  · subst he
    have hvin := f1 rfl
    refine ⟨(o_mg (u_F u) (100 * T + p) (u_w u T (p + 2) - 48) v o).1, V, (o_mg (u_F u) (100 * T + p) (u_w u T (p + 2) - 48) v o).2, ra1, rd1, sp, st, hts, FG, pJ_o hV hst o_mg_le o_mg_gr, mdC_me hnd (by omega) f2 (by omega) ?_, ?_⟩
    · intro fr b cn top la ρ G hC hcv hnx k1 k2 k3 Q hQ h80 hb1 hb2 d dm K t hd hdm htt c1 c2
      obtain ⟨dm, rfl⟩ : ∃ x, dm = x + 3 := ⟨dm - 3, by omega⟩
      have hG := hh_n hC.1
      refine ⟨fun q => absurd q (by decide), fun q => absurd q (by decide), fun q => absurd q (by decide), fun _ => ⟨hcv.1, ?_⟩, fun q => absurd q (by decide)⟩
      rw [hcv.2.2.1]
      have tk := rv_kn (t := rv_t v) (s := 2) hvin.1.1 (by omega)
      refine z_br (fun q => ?_) (fun q => ?_)
      · have t1 : rv_t v = 1 := by
          rw [tk] at q
          omega
        have hmg : o_mg (u_F u) (100 * T + p) (u_w u T (p + 2) - 48) v o = o_fm (100 * T + p) (rv_c (u_F u (2 * (u_w u T (p + 2) - 48) + (if rv_n v = nI 1 then 0 else 1)))) (rv_n v) (rv_l (u_F u (2 * (u_w u T (p + 2) - 48) + (if rv_n v = nI 1 then 0 else 1)))) 0 o := if_pos t1
        -- one form or the other
        have fin : ∀ j, j < 20 → j = 2 * (u_w u T (p + 2) - 48) + (if rv_n v = nI 1 then 0 else 1) → (mj_k G 1509 = 12) ∧ (mj_k G r = 6) ∧ Nd_origin (dm + 3) r G (fun v30 G29 => Ou_putForm (dm + 3) (1674 + 2 * j) (rv_n v) v30 G29 (fun v32 G31 => kk d K t v32 G31)) := fun j hj ej => by
          refine ⟨hcv.1, k1, c_origin hnd hC.1.1 k1 k3 ?_⟩
          obtain ⟨i1, i2, i3⟩ := hC.2.1.2.2.2.2 j hj
          rw [ej] at i1 i2 i3 ⊢
          refine c_putForm (x := rv_n v) (by omega) (by omega) i2 hC.1 ⟨by omega, by rw [ow_s (by omega)]; unfold oW; omega, cv_m i3 (fun c q t => oW_im t q), i1⟩ hC.2.2.2.2.2.2.2.1.1 (fun G' a1 a2 a3 a4 => ?_)
          rw [← hmg] at a4 ⊢
          exact kk_o hC hnx o_mg_le (by omega) (by omega) a1 ro_r a2 a3 a4 c1 c2
        refine w_Rn_formOf hC.1.1 ⟨k1, hcv.1, ?_⟩
        rw [hcv.2.2.2.1 t1, k3, hg3, z_mul, z_add, z_add]
        refine z_br (fun g => z_ixi (by omega) (by omega) (fin (2 * (u_w u T (p + 2) - 48) + 0) (by omega) (by rw [if_pos g]))) (fun g => z_ixi (by omega) (by omega) (fin (2 * (u_w u T (p + 2) - 48) + 1) (by omega) (by rw [if_neg g])))
      · have t1 : ¬ rv_t v = 1 := fun t => q (by
          rw [tk]
          omega)
        have hmg : o_mg (u_F u) (100 * T + p) (u_w u T (p + 2) - 48) v o = (Int32.ofInt (-3), o) := if_neg t1
        rw [hmg] at c1 c2
        exact kk_o hC hnx o_le_r (by omega) (by omega) hC.1 ro_r fw_r oX_r hC.2.2.2.2.2.2.2.1.1 c1 c2
    · intro f bg vc li LC ci CA tr hm Q hQ hQn hb1 hb2 D KK hD hk
      obtain ⟨D, rfl⟩ : ∃ x, D = x + 6 := ⟨D - 6, by omega⟩
      refine ⟨fun q => absurd q (by decide), fun q => absurd q (by decide), fun _ => w_m_rendersPlain hM (z_bf (by decide) (z_bf (by decide) ?_))⟩
      rw [z_add]
      refine p_f2 (d := D + 3) hM hT (pX_10 hx) hm f3 (by omega) (by omega) (by omega) (by omega) (fun _ f1 a1 a2 a3 _ => ?_) (fun q => absurd rfl q)
      refine z_bt a1.2.2.2.2.2.2.2.1 (z_bf (by decide) (z_bt a1.2.2.2.2.2.2.2.1 ?_))
      rw [z_add, z_mul, z_add]
      refine c_letter hM (MM_T a1 hT) (by omega) ?_
      rw [tx_nxi (by omega), z_sub hg10.2.1]
      refine p_putsMessage (d := D) (k := 320) (fr := 321) hM (by decide) (by decide) (by decide) (by omega) (by omega) hg10.1 a1.1.2.1 hvin.1 a3 a1.2.1.2.2.1 (a1.2.2.2.2.2.2.2.2.1) a1.2.2.2.2.2.2.2.1 (fun f2 F2 o2 e2 => ?_)
      obtain ⟨b1, b2⟩ := MM_o1 a1 (pX_10 hx) F2 (fun i q => by have q' : i = 321 := q; omega) o2 e2
      exact hk f2 vc _ b1 (mF_t a2 b2) (by omega)
  · refine ⟨e1, V, o, ra1, rd1, sp, st, hts, FG, pJ_r hV hst, mdC_mx hnd (by omega) he f2 (by omega), ?_⟩
    intro f bg vc li LC ci CA tr hm Q hQ hQn hb1 hb2 D KK hD hk
    obtain ⟨D, rfl⟩ : ∃ x, D = x + 3 := ⟨D - 3, by omega⟩
    refine ⟨fun q => absurd q (by decide), fun q => absurd q (by decide), fun _ => w_m_rendersPlain hM (z_bf (by decide) (z_bf (by decide) ?_))⟩
    rw [z_add]
    refine p_f2 (d := D) hM hT (pX_10 hx) hm f3 (by omega) (by omega) (by omega) (by omega) (fun q => absurd q he) (fun _ k f1 fe a1 a2 _ _ _ _ _ => ?_)
    have h70 : ¬ f1 1714 70 = nI 0 := by rw [a1.2.2.2.2.2.2.2.1]; exact he
    exact z_bf h70 (z_bf h70 (hk f1 vc _ a1 a2 (by omega)))
end ZF
