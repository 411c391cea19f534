/-! BODIES -/
section C11
variable {u : wo} {Gm : mj_G} {f f' f1 : mm_F} {ρ ρ' ρ0 ρ1 : Nat → Nat} {G G0 G1 G2 G' : mj_G} {cur r nx p q m d t T l s k c x j q1 : Nat} {e : Int32} {K : Int32 → mj_G → Prop} {v : rv} {b1 : Int32} {L1 : List (Nat × Nat)} {N : Nat} {B : Nat → Nat} {M : Nat} {S : Nat → Nat} {lc : Nat} {ln : Nat → Nat} {op : Nat} {ch : List en} {V : Nat → Nat → Option rv} {o : ost} {ra rd : Nat → Int32} {sp : Nat → Bool} {st hts : Nat} {FG : Nat → kfr} {V' : Nat → Nat → Option rv} {o' : ost} {ra' rd' : Nat → Int32} {sp' : Nat → Bool} {st' hts' : Nat} {FG' : Nat → kfr} {fr b cn : Nat → Nat} {top la : Nat} {bg : Nat → Nat} {vc li LC : Nat} {ci : Int32} {CA tr : Nat}
def hRs (u : wo) (Gm : mj_G) (T : Nat) (op : Nat) : Prop := ∀ (k : Nat) (b1 : Int32) (r p m : Nat) (L1 : List (Nat × Nat)) (N : Nat) (B : Nat → Nat) (M : Nat) (S : Nat → Nat) (lc : Nat) (ln : Nat → Nat) (ch : List en) (V : Nat → Nat → Option rv) (o : ost) (ra rd : Nat → Int32) (sp : Nat → Bool) (st hts : Nat) (FG : Nat → kfr), pX u N B M S lc ln op ch → pV u N V → st ≤ u_bu u → 1 ≤ st → u_A u r → tb_t k (u_A u) (u_G u) (nI T) b1 r (u_w u T) p m L1 → m ≤ u_n u T → (p, r) ∈ u_L u T → (∀ y, y ∈ L1 → y ∈ u_L u T) → (u_w u T (p + 1) = 94 ∨ u_w u T (p + 1) = 107 ∨ u_w u T (p + 1) = 33 ∨ u_w u T (p + 1) = 38) → msJ u (u_w u T (p + 1)) N B M S lc ln op ch V o ra rd sp st hts FG r p m
/-- a stretch and what follows it -/
theorem bs_t {e1 : Int32} {V1 : Nat → Nat → Option rv} {o1 : ost} {ra1 rd1 : Nat → Int32} {sp1 : Nat → Bool} {st1 hts1 : Nat} {FG1 : Nat → kfr} (hr : r ≠ 0) (hpm : p ≤ m) (hmq : m ≤ q) (hj : pJ u N V o st e1 V1 o1 st1 M sp sp1) (h1 : sgC u N B M S lc ln op ch V o ra rd sp st hts FG r p (mj_r (u_G u) r 10) m e1 V1 o1 ra1 rd1 sp1 st1 hts1 FG1) (h2 : smS u (jtg r) N B M S lc ln op ch V o ra rd sp FG e1 V1 o1 ra1 rd1 sp1 FG1) (h3 : e1 = nI 0 → bsJ u N B M S lc ln op ch V1 o1 ra1 rd1 sp1 st1 hts1 FG1 (mj_r (u_G u) r 10) m q) : bsJ u N B M S lc ln op ch V o ra rd sp st hts FG r p q := by
  by_cases he : e1 = nI 0
  · subst he
    obtain ⟨e, V', o', ra', rd', sp', st', hts', FG', i1, i2, i3⟩ := h3 rfl
    exact ⟨e, V', o', ra', rd', sp', st', hts', FG', ⟨oJ_t hj.1 i1.1, i1.2.1, fun s l hs => (i1.2.2.1 s l hs).trans (hj.2.2.1 s l hs), Nat.le_trans hj.2.2.2.1 i1.2.2.2.1, i1.2.2.2.2⟩, sgC_t hpm hmq (hj.1.1 rfl) h1 i2, .cons hr h2 i3⟩
  · exact ⟨e1, V1, o1, ra1, rd1, sp1, st1, hts1, FG1, hj, sgC_x hpm hmq he h1, .err hr h2 he⟩
theorem bs_all (hM : mm_S Gm) (hu : uP u) (hT : T < 10) (ihO' : op < 12 → ihT u (op + 1)) (hR : hRs u Gm T op) : ∀ {k : Nat} {b1 : Int32} {r p q : Nat} {L : List (Nat × Nat)}, tb_B k (u_A u) (u_G u) (nI T) b1 r (u_w u T) p q L → (∀ y, y ∈ L → y ∈ u_L u T) → q ≤ u_n u T → r ≠ 0 → ∀ (N : Nat) (B : Nat → Nat) (M : Nat) (S : Nat → Nat) (lc : Nat) (ln : Nat → Nat) (ch : List en) (V : Nat → Nat → Option rv) (o : ost) (ra rd : Nat → Int32) (sp : Nat → Bool) (st hts : Nat) (FG : Nat → kfr), pX u N B M S lc ln op ch → pV u N V → st ≤ u_bu u → bsJ u N B M S lc ln op ch V o ra rd sp st hts FG r p q
  | 0, _, _, _, _, _, h, _, _, _ => h.elim
  | k + 1, b1, r, p, q, L, h, hL, hq, hr => by
    intro N B M S lc ln ch V o ra rd sp st hts FG hx hV hst
    have hW := (hu.2.2.2 T hT).1
    have hn := hW.1
    rcases h with ⟨h, -⟩ | ⟨h1, h2, h3, h4, h5, h6, h7, h7', h8, h9, h10⟩ | ⟨h1, h2, h3, h4, h5, h6, h7, h8, e, m, L1, L2, he, hH, h125, rfl, h13, h14⟩
    · exact absurd h hr
    · -- a literal
      have hl := tb_le h10
      have hpn : p < u_n u T := tx_in hW h7'
      have hnd : nd u T r p 1 := ⟨h1, h2, h3, h4, h5, h8⟩
      have hw := hW.2.1 p hpn
      by_cases hs : st = u_bu u
      · exact bs_t hr (m := p + 1) (e1 := Int32.ofInt (-9)) (by omega) hl (pJ_r hV hst) (sgC_9 hnd (by decide) (Or.inl rfl) (by omega) hs) (.out) (fun q => absurd q (by decide))
      · have hs' : st < u_bu u := by omega
        have hj : pJ u N V o st (o_lt (u_w u T p) (100 * T + p) o).1 V (o_lt (u_w u T p) (100 * T + p) o).2 (st + 1) M sp sp := ⟨oJ_p o_lt_le o_lt_gr, hV, fun _ _ _ => rfl, Nat.le_succ _, hs'⟩
        refine bs_t hr (m := p + 1) (by omega) hl hj (sgC_md hnd (by decide) (Or.inl rfl) (by omega) hs' (mdC_lit hnd hT hw (by omega) h9)) (.lit hnd hT (by omega)) (fun _ => ?_)
        exact bs_0 h10 hV hs' (fun hr' => bs_all hM hu hT ihO' hR h10 hL hq hr' N B M S lc ln ch _ _ _ _ _ _ _ _ hx hV hs')
    · -- a tag
      have hl := tb_le h13
      have ht : tb_t k (u_A u) (u_G u) (nI T) b1 r (u_w u T) p m L1 := ⟨h2, h3, h4, h5, h6, h7, h8, e, he, hH, h125, h14⟩
      have hnd := tg_nd h1 ht rfl
      have hpm : p + 3 ≤ m := by
        rcases h14 with ⟨-, rfl, -⟩ | ⟨-, -, -, q1, a2, -, -, -, rfl⟩ | ⟨-, q1, q2, La, Lb, a2, -, -, -, a6, -, -, -, rfl, -⟩
        · omega
        · have := tb_le a2
          omega
        · have := tb_le a2
          have := tb_le a6
          omega
      have hw := tx_le hW (p + 1)
      have hL1 : ∀ y, y ∈ L1 → y ∈ u_L u T := fun y hy => hL y (List.mem_cons_of_mem _ (List.mem_append.mpr (Or.inl hy)))
      have hL2 : ∀ y, y ∈ L2 → y ∈ u_L u T := fun y hy => hL y (List.mem_cons_of_mem _ (List.mem_append.mpr (Or.inr hy)))
      have hpr : (p, r) ∈ u_L u T := hL _ (List.mem_cons_self ..)
      have rest : ∀ (V' : Nat → Nat → Option rv) (o' : ost) (ra' rd' : Nat → Int32) (sp' : Nat → Bool) (st' hts' : Nat) (FG' : Nat → kfr), pV u N V' → st' ≤ u_bu u → bsJ u N B M S lc ln op ch V' o' ra' rd' sp' st' hts' FG' (mj_r (u_G u) r 10) m q := fun V' o' ra' rd' sp' st' hts' FG' hV' hst' => bs_0 h13 hV' hst' (fun hr' => bs_all hM hu hT ihO' hR h13 hL2 hq hr' N B M S lc ln ch V' o' ra' rd' sp' st' hts' FG' hx hV' hst')
      by_cases c36 : u_w u T (p + 1) = 36
      · rw [c36] at hnd
        exact bs_t hr (m := m) (e1 := nI 0) (by omega) hl (pJ_r hV hst) (sgC_36 hnd (by omega)) (.mac hnd) (fun _ => rest V o ra rd sp st hts FG hV hst)
      have hcc : u_w u T (p + 1) = 1 ∨ (tx_T (u_w u T (p + 1)) ∧ ¬ u_w u T (p + 1) = 36) := Or.inr ⟨h7, c36⟩
      by_cases hs : st = u_bu u
      · exact bs_t hr (m := m) (e1 := Int32.ofInt (-9)) (by omega) hl (pJ_r hV hst) (sgC_9 hnd (by omega) hcc (by omega) hs) (.out) (fun q => absurd q (by decide))
      · have hs' : st < u_bu u := by omega
        have ih : ∀ N' B', pX u N' B' M S lc ln op ch → ihS u T k b1 L1 N' B' M S lc ln op ch := fun N' B' hx' r' p' q' L' hb hq' hsub hr' V' o' ra' rd' sp' st' hts' FG' hV' hst' => bs_all hM hu hT ihO' hR hb (fun y hy => hL1 y (hsub y hy)) hq' hr' N' B' M S lc ln ch V' o' ra' rd' sp' st' hts' FG' hx' hV' hst'
        have tag : msJ u (u_w u T (p + 1)) N B M S lc ln op ch V o ra rd sp (st + 1) hts FG r p m := by
          by_cases c1 : u_w u T (p + 1) = 61
          · rw [c1]
            exact ms_61 hM hu hT hx hV h1 ht c1 hs'
          by_cases c2 : u_w u T (p + 1) = 116
          · rw [c2]
            exact ms_116 hM hu hT hx hV h1 ht c2 hs'
          by_cases c3 : u_w u T (p + 1) = 37
          · rw [c3]
            exact ms_37 hM hu hT hx hV h1 ht c3 hs'
          by_cases c4 : u_w u T (p + 1) = 45
          · rw [c4]
            exact ms_45 hM hu hT hx hV h1 ht c4 hs'
          by_cases c5 : u_w u T (p + 1) = 63
          · rw [c5]
            exact ms_63 hM hu hT hx hV h1 ht c5 hs' (ih N B hx)
          by_cases c6 : u_w u T (p + 1) = 42
          · rw [c6]
            exact ms_42 hM hu hT hx hV h1 ht c6 hs' ih
          by_cases c7 : u_w u T (p + 1) = 43
          · rw [c7]
            exact ms_43 hM hu hT hx hV h1 ht c7 hs' ih
          by_cases c8 : u_w u T (p + 1) = 35
          · rw [c8]
            exact ms_35 hM hu hT hx hV h1 ht c8 hs' (by omega) ihO'
          by_cases c9 : u_w u T (p + 1) = 64
          · rw [c9]
            exact ms_64 hM hu hT hx hV h1 ht c9 hs' (by omega) ihO'
          by_cases c10 : u_w u T (p + 1) = 126
          · rw [c10]
            exact ms_126 hM hu hT hx hV h1 ht c10 hs' (by omega) ihO'
          exact hR k b1 r p m L1 N B M S lc ln ch V o ra rd sp (st + 1) hts FG hx hV hs' (Nat.succ_le_succ (Nat.zero_le _)) h1 ht (by omega) hpr hL1 (by clear h14; unfold tx_T at h7; omega)
        obtain ⟨e1, V1, o1, ra1, rd1, sp1, st1, hts1, FG1, j1, j2, j3⟩ := tag
        have hj : pJ u N V o st e1 V1 o1 st1 M sp sp1 := ⟨j1.1, j1.2.1, j1.2.2.1, by have := j1.2.2.2.1; omega, j1.2.2.2.2⟩
        exact bs_t hr (m := m) (by omega) hl hj (sgC_md hnd (by omega) hcc (by omega) hs' j2) j3 (fun _ => rest V1 o1 ra1 rd1 sp1 st1 hts1 FG1 j1.2.1 j1.2.2.2.2)
theorem bs_op (hM : mm_S Gm) (hu : uP u) (hR : ∀ op, op ≤ 12 → (op < 12 → ihT u (op + 1)) → ∀ T, T < 10 → hRs u Gm T op) : ∀ {h op : Nat}, op + h = 12 → ihT u op
  | 0, op, ho => fun T hT k b r p q L hB hL hq hr N B M S lc ln ch V o ra rd sp st hts FG hx hV hst => bs_all hM hu hT (fun q => absurd q (by omega)) (hR op (by omega) (fun q => absurd q (by omega)) T hT) hB hL hq hr N B M S lc ln ch V o ra rd sp st hts FG hx hV hst
  | h + 1, op, ho => fun T hT k b r p q L hB hL hq hr N B M S lc ln ch V o ra rd sp st hts FG hx hV hst => bs_all hM hu hT (fun _ => bs_op hM hu hR (h := h) (by omega)) (hR op (by omega) (fun _ => bs_op hM hu hR (h := h) (by omega)) T hT) hB hL hq hr N B M S lc ln ch V o ra rd sp st hts FG hx hV hst
theorem hs_rest (hM : mm_S Gm) (hu : uP u) : ∀ op, op ≤ 12 → (op < 12 → ihT u (op + 1)) → ∀ T, T < 10 → hRs u Gm T op := fun op hop ih T hT k b1 r p m L1 N B M S lc ln ch V o ra rd sp st hts FG hx hV hst h1 hA ht hmn hpr hL1 hc => by
  rcases hc with hc | hc | hc | hc
  · rw [hc]
    exact ms_94 hM hu hT hx hV hA ht hc hst hmn hpr ih
  · rw [hc]
    exact ms_107 hM hu hT hx hV hA ht hc hst hmn hpr hL1 ih
  · rw [hc]
    exact ms_call hM hu hT hx hV hA ht hc (Or.inl rfl) hst hmn hL1 ih
  · rw [hc]
    exact ms_call hM hu hT hx hV hA ht hc (Or.inr rfl) hst hmn hL1 ih
theorem bs_every (hM : mm_S Gm) (hu : uP u) : ihT u 0 := bs_op hM hu (hs_rest hM hu) (h := 12) (op := 0) (by decide)
end C11
