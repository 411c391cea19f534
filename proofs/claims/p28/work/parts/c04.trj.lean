/-! TRIES -/
section C04
variable {u : wo} {Gm : mj_G} {f f' : mm_F} {ρ ρ' ρ1 : Nat → Nat} {G G1 G2 G' : mj_G} {cur r nx p q m d t T l s k c x : Nat} {e : Int32} {v : rv} {b1 : Int32} {L1 : List (Nat × Nat)} {N : Nat} {B : Nat → Nat} {M : Nat} {S : Nat → Nat} {lc : Nat} {ln : Nat → Nat} {op : Nat} {ch : List en} {V : Nat → Nat → Option rv} {o : ost} {ra rd : Nat → Int32} {sp : Nat → Bool} {st hts : Nat} {FG : Nat → kfr} {V' : Nat → Nat → Option rv} {o' : ost} {ra' rd' : Nat → Int32} {sp' : Nat → Bool} {st' hts' : Nat} {FG' : Nat → kfr} {fr b cn : Nat → Nat} {top la : Nat} {bg : Nat → Nat} {vc li LC : Nat} {ci : Int32} {CA tr : Nat}
theorem bs_0 {L : List (Nat × Nat)} {hm : Int32} {w : Nat → Nat} {A : Nat → Prop} {G : mj_G} {b : Int32} (hB : tb_B k A G hm b r w p q L) (hV : pV u N V) (hst : st ≤ u_bu u) (ih : r ≠ 0 → bsJ u N B M S lc ln op ch V o ra rd sp st hts FG r p q) : bsJ u N B M S lc ln op ch V o ra rd sp st hts FG r p q := by
  by_cases hr : r = 0
  · subst hr
    have hpq := tb_0 hB
    subst hpq
    exact ⟨nI 0, V, o, ra, rd, sp, st, hts, FG, pJ_r hV hst, sgC_0, SB.nil⟩
  · exact ih hr
theorem ms_43 (hM : mm_S Gm) (hu : uP u) (hT : T < 10) (hx : pX u N B M S lc ln op ch) (hV : pV u N V) (hA : u_A u r) (ht : tb_t k (u_A u) (u_G u) (nI T) b1 r (u_w u T) p m L1) (hc : u_w u T (p + 1) = 43) (hst : st ≤ u_bu u) (ih : ∀ N' B', pX u N' B' M S lc ln op ch → ihS u T k b1 L1 N' B' M S lc ln op ch) : msJ u 43 N B M S lc ln op ch V o ra rd sp st hts FG r p m := by
  have hW := (hu.2.2.2 T hT).1
  have hn := hW.1
  have hop := hx.2.1
  have hnd := tg_nd hA ht hc
  have hch : ∀ y, y ∈ ch → en_x y ≤ N := fun y hy => (hx.2.2.2.2.2.2.2 y hy).2.2.2.1
  obtain ⟨t1, t2, t3, t4, t5, t6, t7, x, h8, h9, h10, h11⟩ := ht
  have hxp : x = p + 2 := by
    rcases h9 with ⟨a, -⟩ | ⟨a, -⟩ | ⟨a, -⟩ | ⟨a, -⟩ | ⟨a, a2, -⟩ | ⟨a, -⟩ | ⟨a, -⟩ | ⟨a, -⟩
    any_goals omega
  obtain ⟨q1, La, y1, y2, y3, y4, y5, y43, y7⟩ := ts_two hW t5 h8 h9 h10 h11 hc (by omega)
  have y43' := y43 rfl
  have hx1 := pX_s (x := N) hx (Nat.le_refl N)
  obtain ⟨e1, V1, o1, ra1, rd1, sp1, st1, hts1, FG1, j1, j2, j3⟩ := bs_0 (ra := ra) (rd := rd) (sp := sp) (hts := hts) (FG := FG) (o := o) y1 (pV_s hV) hst (fun hr => ih _ _ hx1 _ _ _ _ y1 (by omega) y2 hr V o ra rd sp st hts FG (pV_s hV) hst)
  have hV1 : ∀ s l, s < N → V1 s l = V s l := fun s l hs => j1.2.2.1 s l (by omega)
  have hst1 : st ≤ st1 := j1.2.2.2.1
  have hst2 : st1 ≤ u_bu u := j1.2.2.2.2
  by_cases h0 : e1 = nI 0 ∨ e1 = Int32.ofInt (-9)
  · refine ⟨e1, V, o1, ra1, rd1, sp1, st1, hts1, FG1, ⟨j1.1, hV, fun _ _ _ => rfl, hst1, hst2⟩, ?_, .try0 hnd h0 j3⟩
    · intro fr b cn top la ρ G hC hnx k1 k2 k3 Q hQ h80 hb1 hb2 d dm K t hd hdm htt c1 c2
      refine ⟨fun q => absurd q (by decide), fun q => absurd q (by decide), fun q => absurd q (by decide), fun _ => ?_, fun q => absurd q (by decide), fun q => absurd q (by decide), fun q => absurd q (by decide), fun q => absurd q (by decide), fun q => absurd q (by decide), fun q => absurd q (by decide)⟩
      refine try_C (q := m) (TT := t + 100 * (2000 - st) + 100 + (m - p)) hA t2 rfl hC hnx hV hch j2 hV1 (by omega) hop (by omega) (by omega) (by omega) hd (by omega) (by omega) (by omega) (fun he ρ' G' t' hN => c1 he ρ' G' cn t' hN) (fun he o2 ρ' G' cn' top' t' hX => c2 (by rw [he]; decide) o2 ρ' G' cn' top' t' hX) (fun n0 n9 => absurd h0 (by
        rintro (q | q)
        · exact n0 q
        · exact n9 q))
  · have n0 : ¬ e1 = nI 0 := fun q => h0 (Or.inl q)
    have n9 : ¬ e1 = Int32.ofInt (-9) := fun q => h0 (Or.inr q)
    obtain ⟨p', q', e, V', o', ra', rd', sp', st', hts', FG', i1, i2, i3, z1, z2, z3, z4⟩ := y7 N B M S lc ln op ch (ih N B hx) V o ra1 rd1 sp1 st1 hts1 FG1 hV hst2
    refine ⟨e, V', o', ra', rd', sp', st', hts', FG', ⟨oJ_s j1.1.2.1 i1.1, i1.2.1, i1.2.2.1, Nat.le_trans hst1 i1.2.2.2.1, i1.2.2.2.2⟩, ?_, .try1 hnd j3 n0 n9 i3⟩
    · intro fr b cn top la ρ G hC hnx k1 k2 k3 Q hQ h80 hb1 hb2 d dm K t hd hdm htt c1 c2
      refine ⟨fun q => absurd q (by decide), fun q => absurd q (by decide), fun q => absurd q (by decide), fun _ => ?_, fun q => absurd q (by decide), fun q => absurd q (by decide), fun q => absurd q (by decide), fun q => absurd q (by decide), fun q => absurd q (by decide), fun q => absurd q (by decide)⟩
      refine try_C (q := m) (TT := t + 100 * (2000 - st) + 100 + (m - p)) hA t2 rfl hC hnx hV hch j2 hV1 (by omega) hop (by omega) (by omega) (by omega) hd (by omega) (by omega) (by omega) (fun q => absurd q n0) (fun q => absurd q n9) (fun _ _ ρ2 G2 t2 a1 a2 a3 a4 a5 a6 => ?_)
      obtain ⟨d, rfl⟩ : ∃ y, d = y + 1 := ⟨d - 1, by omega⟩
      refine i2 fr b cn top la ρ2 G2 a1 _ m (t + 100 * (2000 - st) + 100 + (m - p)) a5 (by omega) (by omega) hop (by omega) (by omega) (d + 1) d K t2 _ (fun G' h => h) (by omega) (by omega) (by omega) (fun he ρ' G' cn' t' hN => ?_) (fun he o2 ρ' G' cn' top' t' hX => ?_)
      · exact c1 he ρ' G' cn' t' (rN_l a2 a3 a4 (Nat.le_refl _) hN)
      · exact c2 he o2 ρ' G' cn' top' t' (rX_l o_le_r a2 a3 a4 (Nat.le_refl _) hX)
end C04
