/-! CHOICES -/
section C03
variable {u : wo} {Gm : mj_G} {f f' : mm_F} {ρ ρ' : Nat → Nat} {G G1 G' : mj_G} {cur r p q m d t T l s k c : Nat} {e : Int32} {v : rv} {b1 : Int32} {L1 : List (Nat × Nat)} {N : Nat} {B : Nat → Nat} {M : Nat} {S : Nat → Nat} {lc : Nat} {ln : Nat → Nat} {op : Nat} {ch : List en} {V : Nat → Nat → Option rv} {o : ost} {ra rd : Nat → Int32} {sp : Nat → Bool} {st hts : Nat} {FG : Nat → kfr} {V' : Nat → Nat → Option rv} {o' : ost} {ra' rd' : Nat → Int32} {sp' : Nat → Bool} {st' hts' : Nat} {FG' : Nat → kfr} {fr b cn : Nat → Nat} {top la : Nat} {bg : Nat → Nat} {vc li LC : Nat} {ci : Int32} {CA tr : Nat}
theorem bs_or {L : List (Nat × Nat)} {hm : Int32} {w : Nat → Nat} {A : Nat → Prop} {G : mj_G} {b : Int32} (hB : tb_B k A G hm b r w p q L) (hV : pV u N V) (hst : st ≤ u_bu u) (ih : r ≠ 0 → bsJ u N B M S lc ln op ch V o ra rd sp st hts FG r p q) : ∃ (e : Int32) (V' : Nat → Nat → Option rv) (o' : ost) (ra' rd' : Nat → Int32) (sp' : Nat → Bool) (st' hts' : Nat) (FG' : Nat → kfr), pJ u N V o st e V' o' st' M sp sp' ∧ enC u N B M S lc ln op ch V o ra rd sp st hts FG r p q e V' o' ra' rd' sp' st' hts' FG' ∧ smS u (jbd r) N B M S lc ln op ch V o ra rd sp FG e V' o' ra' rd' sp' FG' := by
  by_cases hr : r = 0
  · subst hr
    have hpq := tb_0 hB
    subst hpq
    exact ⟨nI 0, V, o, ra, rd, sp, st, hts, FG, pJ_r hV hst, enC_0, SB.nil⟩
  · obtain ⟨e, V', o', ra', rd', sp', st', hts', FG', j1, j2, j3⟩ := ih hr
    exact ⟨e, V', o', ra', rd', sp', st', hts', FG', j1, enC_s hr j2, j3⟩
theorem ts_two {x : Nat} (hW : tx_W (u_w u T) (u_n u T)) (t5 : u_w u T p = 123) (h8 : p + 2 ≤ x) (h9 : tb_h (u_A u) (u_G u) r b1 (u_w u T) p x) (h10 : u_w u T x = 125) (h11 : tb_a k (u_A u) (u_G u) (nI T) b1 r (u_w u T) p x m L1) (hc : u_w u T (p + 1) = c) (hcc : c = 63 ∨ c = 42 ∨ c = 43) :
    ∃ (q1 : Nat) (La : List (Nat × Nat)), tb_B k (u_A u) (u_G u) (nI T) b1 (mj_r (u_G u) r 8) (u_w u T) (x + 1) q1 La ∧ (∀ y, y ∈ La → y ∈ L1) ∧ x + 1 ≤ q1 ∧ q1 + 3 ≤ m ∧ m ≤ u_n u T ∧ (c = 43 → q1 + 6 ≤ m) ∧
      (∀ (N : Nat) (B : Nat → Nat) (M : Nat) (S : Nat → Nat) (lc : Nat) (ln : Nat → Nat) (op : Nat) (ch : List en), ihS u T k b1 L1 N B M S lc ln op ch → ∀ (V : Nat → Nat → Option rv) (o : ost) (ra rd : Nat → Int32) (sp : Nat → Bool) (st hts : Nat) (FG : Nat → kfr), pV u N V → st ≤ u_bu u → ∃ (p' q' : Nat) (e : Int32) (V' : Nat → Nat → Option rv) (o' : ost) (ra' rd' : Nat → Int32) (sp' : Nat → Bool) (st' hts' : Nat) (FG' : Nat → kfr), pJ u N V o st e V' o' st' M sp sp' ∧ enC u N B M S lc ln op ch V o ra rd sp st hts FG (mj_r (u_G u) r 9) p' q' e V' o' ra' rd' sp' st' hts' FG' ∧ smS u (jbd (mj_r (u_G u) r 9)) N B M S lc ln op ch V o ra rd sp FG e V' o' ra' rd' sp' FG' ∧ q1 ≤ p' ∧ p' ≤ q' ∧ q' + 3 ≤ m ∧ (p' = q' ∨ q1 + 3 ≤ p')) := by
  rcases h11 with ⟨g, -⟩ | ⟨-, g2, g3, q1, g4, g5, g6, g7, g8⟩ | ⟨-, q1, q2, La, Lb, a2, a3, a4, a5, a6, a7, a8, a9, a10, a11⟩
  · unfold tx_B at g
    omega
  · have hq := tx_in hW (k := q1 + 2) (by omega)
    rw [if_neg (by omega)] at g4
    refine ⟨q1, L1, g4, fun y hy => hy, tb_le g4, by omega, by omega, fun q => by omega, fun N B M S lc ln op ch _ V o ra rd sp st hts FG hV hst => ⟨q1, q1, nI 0, V, o, ra, rd, sp, st, hts, FG, pJ_r hV hst, ?_, ?_, Nat.le_refl _, Nat.le_refl _, by omega, Or.inl rfl⟩⟩
    · rw [g3]
      exact enC_0
    · rw [g3]
      exact SB.nil
  · have hq := tx_in hW (k := q2 + 2) (by omega)
    have hn := hW.1
    have l1 := tb_le a2
    have l2 := tb_le a6
    refine ⟨q1, La, a2, fun y hy => by rw [a11]; exact List.mem_append.mpr (Or.inl hy), l1, by omega, by omega, fun q => by omega, fun N B M S lc ln op ch ih V o ra rd sp st hts FG hV hst => ?_⟩
    · obtain ⟨e, V', o', ra', rd', sp', st', hts', FG', j1, j2, j3⟩ := bs_or (o := o) (ra := ra) (rd := rd) (sp := sp) (hts := hts) (FG := FG) a6 hV hst (fun hr => ih _ _ _ _ a6 (by omega) (fun y hy => by rw [a11]; exact List.mem_append.mpr (Or.inr hy)) hr V o ra rd sp st hts FG hV hst)
      exact ⟨q1 + 3, q2, e, V', o', ra', rd', sp', st', hts', FG', j1, j2, j3, by omega, l2, by omega, Or.inr (Nat.le_refl _)⟩
theorem ms_63 (hM : mm_S Gm) (hu : uP u) (hT : T < 10) (hx : pX u N B M S lc ln op ch) (hV : pV u N V) (hA : u_A u r) (ht : tb_t k (u_A u) (u_G u) (nI T) b1 r (u_w u T) p m L1) (hc : u_w u T (p + 1) = 63) (hst : st ≤ u_bu u) (ih : ihS u T k b1 L1 N B M S lc ln op ch) : msJ u 63 N B M S lc ln op ch V o ra rd sp st hts FG r p m := by
  have hW := (hu.2.2.2 T hT).1
  have hn := hW.1
  have hop := hx.2.1
  obtain ⟨x1, s, l, es, hE, h1, h2, ⟨h0, h3⟩, hH, hta, -, -⟩ := tg_ex ht hW (by omega)
  rw [if_pos (Or.inr hc)] at es
  subst es
  have hnd := tg_nd hA ht hc
  obtain ⟨q1, La, y1, y2, y3, y4, y5, -, y7⟩ := ts_two hW h0 (by omega) hH h3 hta hc (by omega)
  obtain ⟨e1, v, ra1, rd1, f1, f2, f3⟩ := xs_all (sl := 0) (dep := 0) hW hx.2.2.2.2.1 hu.1 (fun s l v q => (hV s l v q).2.2) (Nat.le_refl N) hE (by omega) (by omega) (by omega) ra rd
  by_cases he : e1 = nI 0
  case neg =>
    refine ⟨e1, V, o, ra1, rd1, sp, st, hts, FG, pJ_r hV hst, mdC_mx hnd (by omega) he f2 (by omega), .bad hnd (by decide) he ⟨_, f3⟩⟩
  subst he
  have hvin := f1 rfl
  by_cases htr : rv_tr v
  · -- the first body
    obtain ⟨e, V', o', ra', rd', sp', st', hts', FG', j1, j2, j3⟩ := bs_or (o := o) (ra := ra1) (rd := rd1) (sp := sp) (hts := hts) (FG := FG) y1 hV hst (fun hr => ih _ _ _ _ y1 (by omega) y2 hr V o ra1 rd1 sp st hts FG hV hst)
    refine ⟨e, V', o', ra', rd', sp', st', hts', FG', j1, mdC_me hnd (by omega) f2 (by omega) ?_, .cho hnd ⟨_, f3⟩ (by rw [if_pos (rv_Bt htr)]; exact j3)⟩
    · intro fr b cn top la ρ G hC hcv hnx k1 k2 k3 Q hQ h80 hb1 hb2 d dm K t hd hdm htt c1 c2
      obtain ⟨dm, rfl⟩ : ∃ x, dm = x + 1 := ⟨dm - 1, by omega⟩
      refine ⟨fun q => absurd q (by decide), fun q => absurd q (by decide), fun _ => ⟨hcv.1, ?_⟩, fun q => absurd q (by decide), fun q => absurd q (by decide)⟩
      refine c_isTrue hC.1 hvin hcv (fun _ => z_bt rfl ⟨k1, ?_⟩) (fun q => absurd htr q)
      rw [k2]
      exact j2 fr b cn top la ρ G hC _ m (t + 100 * (2000 - st) + 100 + (m - p)) hnx (by omega) (by omega) hop (by omega) (by omega) d dm K t _ (fun G' h => ⟨fun _ => h, fun q => absurd rfl q⟩) hd (by omega) (by omega) c1 c2
  · -- the second one
    obtain ⟨p', q', e, V', o', ra', rd', sp', st', hts', FG', j1, j2, j3, i1, i2, i3, i4⟩ := y7 N B M S lc ln op ch ih V o ra1 rd1 sp st hts FG hV hst
    refine ⟨e, V', o', ra', rd', sp', st', hts', FG', j1, mdC_me hnd (by omega) f2 (by omega) ?_, .cho hnd ⟨_, f3⟩ (by rw [if_neg (by rw [rv_Bf htr]; decide)]; exact j3)⟩
    · intro fr b cn top la ρ G hC hcv hnx k1 k2 k3 Q hQ h80 hb1 hb2 d dm K t hd hdm htt c1 c2
      obtain ⟨dm, rfl⟩ : ∃ x, dm = x + 1 := ⟨dm - 1, by omega⟩
      refine ⟨fun q => absurd q (by decide), fun q => absurd q (by decide), fun _ => ⟨hcv.1, ?_⟩, fun q => absurd q (by decide), fun q => absurd q (by decide)⟩
      refine c_isTrue hC.1 hvin hcv (fun q => absurd q htr) (fun _ => z_bf (by decide) ⟨k1, ?_⟩)
      rw [k2]
      exact j2 fr b cn top la ρ G hC _ m (t + 100 * (2000 - st) + 100 + (m - p)) hnx (by omega) (by omega) hop (by omega) (by omega) d dm K t _ (fun G' h => ⟨fun _ => h, fun q => absurd rfl q⟩) hd (by omega) (by omega) c1 c2
end C03
