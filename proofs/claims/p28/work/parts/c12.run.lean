/-! A RENDERING, by the class and by the rules -/
def o_0 : ost := (0, fun _ => 0, fun _ => 0, false)
section C12
variable {u : wo} {Gm : mj_G} {tg : Nat} {oP : ost} {N : Nat} {B : Nat → Nat} {M : Nat} {S : Nat → Nat} {lc : Nat} {ln : Nat → Nat} {op : Nat} {ch : List en} {V : Nat → Nat → Option rv} {ra rd : Nat → Int32} {sp : Nat → Bool} {st hts : Nat} {FG : Nat → kfr} {e : Int32} {V' : Nat → Nat → Option rv} {o' : ost} {ra' rd' : Nat → Int32} {sp' : Nat → Bool} {st' hts' : Nat} {FG' : Nat → kfr} {r p nx q : Nat} {G : mj_G}
theorem oC_z0 (h : oC G (o_z oP)) : oC G o_0 := by
  obtain ⟨h1, h2, h3, h4, h5, h6⟩ := h
  refine ⟨⟨Nat.zero_le _, rfl, fun i hi => absurd hi (Nat.not_lt_zero i)⟩, h2, h3, h4, fun i hi => absurd hi (Nat.not_lt_zero i), fun i hi => ?_⟩
  have hi0 : i = 0 := Nat.le_zero.mp hi
  subst hi0
  exact (h6 0 (Nat.zero_le _)).trans (by rw [h1.2.1]; rfl)
/-- a rendering begins with nothing put out -/
theorem sgC_oz (h : sgC u N B M S lc ln op ch V o_0 ra rd sp st hts FG r p nx q e V' o' ra' rd' sp' st' hts' FG') : sgC u N B M S lc ln op ch V (o_z oP) ra rd sp st hts FG r p nx q e V' o' ra' rd' sp' st' hts' FG' := by
  intro fr b cn top la ρ G hc hr Q hQ h80 hb1 hb2 d K t hd ht k1 k2
  obtain ⟨h1, h2, h3, h4, h5, h6, h7, h8, h9⟩ := hc
  refine h fr b cn top la ρ G ⟨h1, h2, h3, h4, h5, h6, h7, ⟨oC_z0 h8.1, h8.2⟩, h9⟩ hr Q hQ h80 hb1 hb2 d K t hd ht k1 (fun he o1 ρ' G' cn' top' t' hX => ?_)
  obtain ⟨b1, b2, b3, b4, b5, b6, b7, b8, b9, b10, b11, b12, b13, b14, b15, b16⟩ := hX
  exact k2 he o1 ρ' G' cn' top' t' ⟨b1, b2, b3, b4, b5, ⟨Nat.zero_le _, fun i hi => absurd hi (Nat.not_lt_zero i)⟩, b7, b8, b9, b10, b11, b12, b13, b14, b15, b16⟩
/-- what a rendering comes to, by the rules -/
def RR (u : wo) (tg : Nat) (FG : Nat → kfr) (e : Int32) (o' : ost) (FG' : Nat → kfr) : Prop := ((l_of (u_pa u) tg).1 = true ∧ ∃ (V' : Nat → Nat → Option rv) (ra' rd' : Nat → Int32) (sp' : Nat → Bool), SB u (jbd (u_bd u ((l_of (u_pa u) tg).2.2 ((l_of (u_pa u) tg).2.1 - 1)))) (1, (fun _ => 0), 0, (fun _ => 0), (l_of (u_pa u) tg).2.1, (l_of (u_pa u) tg).2.2, 0, []) ((fun _ _ => none), o_0, (fun _ => nI 0), (fun _ => nI 0), (fun _ => false), FG) e (V', o', ra', rd', sp', FG')) ∨ (¬ (l_of (u_pa u) tg).1 = true ∧ e = Int32.ofInt (-8) ∧ FG' = FG)
theorem run_S (hM : mm_S Gm) (hu : uP u) (ht : tg < 10) : ∃ (e : Int32) (o' : ost) (st' hts' : Nat) (FG' : Nat → kfr), st' ≤ u_bu u ∧
    (∀ (ρ : Nat → Nat) (G : mj_G) (d : Nat) (K : Int32 → mj_G → Prop), hh ρ (u_D u) (u_I u) G → wC u ρ G → fgC u ρ G FG → oC G oP → mj_i G 6 6 = nI (u_bu u) → (mj_r G 1589 2 = 1590 ∨ mj_r G 1589 2 = 1591) → mj_r G 1589 2 ≠ mj_r G 1589 0 → u_o2 u = mj_r G 1589 0 → u_on u = o_n oP → u_oc u = o_c oP → 303 ≤ d → (∀ ρ' G' o1, rE u ρ G (if e = nI 0 then o' else o_z o1) st' hts' FG' ρ' G' → K (if e = nI 0 then nI (o_n o') else e) G') → Rn_run (d + 1) (nI tg) G K) ∧
    RR u tg FG e o' FG' := by
  have hpa : ∀ t, t < 10 → u_pa u t ≤ 10 := fun t ht => (hu.2.2.2 t ht).2.1
  have hbu := hu.2.1
  by_cases hok : (l_of (u_pa u) tg).1 = true
  · obtain ⟨l1, l2, l3, l4⟩ := l_go_p hpa (m := 10) (n := 0) (t := tg) (c := fun _ => 0) ht (fun k hk => absurd hk (by omega)) hok
    have l1' : (l_of (u_pa u) tg).2.1 ≤ 10 := by
      have : (l_of (u_pa u) tg).2.1 = (l_go (u_pa u) 10 0 (fun _ => 0) tg).2.1 := rfl
      omega
    have l2' : 1 ≤ (l_of (u_pa u) tg).2.1 := l2
    have l3' : ∀ k, k < (l_of (u_pa u) tg).2.1 → (l_of (u_pa u) tg).2.2 k < 10 := l3
    have l4' : u_pa u ((l_of (u_pa u) tg).2.2 ((l_of (u_pa u) tg).2.1 - 1)) = 0 := l4
    have hT := l3' ((l_of (u_pa u) tg).2.1 - 1) (by omega)
    obtain ⟨hW, -, s, k, hs, hB⟩ := hu.2.2.2 _ hT
    have hn := hW.1
    have hs0 : s = 0 := by
      rw [l4'] at hs
      rcases hs with ⟨a, -⟩ | ⟨-, -, -, a, -, b⟩
      · exact a
      · exfalso
        have a' : 48 ≤ u_w u ((l_of (u_pa u) tg).2.2 ((l_of (u_pa u) tg).2.1 - 1)) 2 ∧ u_w u ((l_of (u_pa u) tg).2.2 ((l_of (u_pa u) tg).2.1 - 1)) 2 ≤ 57 := a
        generalize u_w u ((l_of (u_pa u) tg).2.2 ((l_of (u_pa u) tg).2.1 - 1)) 2 = w at a' b
        obtain ⟨i, hi, hw⟩ : ∃ i, i < 10 ∧ w = 48 + i := ⟨w - 48, by omega, by omega⟩
        rw [hw, Nat.add_sub_cancel_left] at b
        have hsh : sh 0 = Int32.ofInt (-1) := rfl
        rw [hsh] at b
        clear hB hW a a'
        rcases i with _ | _ | _ | _ | _ | _ | _ | _ | _ | _ | i
        all_goals first
          | exact absurd b (by decide)
          | omega
    subst hs0
    have hx : pX u 1 (fun _ => 0) 0 (fun _ => 0) (l_of (u_pa u) tg).2.1 (l_of (u_pa u) tg).2.2 0 [] := ⟨Nat.le_refl _, by decide, l1', l3', fun s => Nat.zero_le _, Nat.le_refl _, fun k hk => absurd hk (Nat.not_lt_zero k), fun y hy => by cases hy⟩
    have hV : pV u 1 (fun _ _ => none) := fun s l v q => absurd q (by simp)
    obtain ⟨e, V', o', ra', rd', sp', st', hts', FG', j1, j2, j3⟩ := bs_0 (o := o_0) (ra := fun _ => nI 0) (rd := fun _ => nI 0) (sp := fun _ => false) (hts := 0) (FG := FG) hB hV (Nat.zero_le _) (fun hr => bs_every hM hu _ hT _ _ _ _ _ _ hB (fun y hy => hy) (Nat.le_refl _) hr _ _ _ _ _ _ _ (fun _ _ => none) o_0 (fun _ => nI 0) (fun _ => nI 0) (fun _ => false) 0 0 FG hx hV (Nat.zero_le _))
    refine ⟨e, o', st', hts', FG', j1.2.2.2.2, fun ρ G d K a1 a2 a3 a4 a5 a6 a7 a8 a9 a10 a11 a12 => ?_, Or.inl ⟨hok, V', ra', rd', sp', j3⟩⟩
    exact run_C a1 a2 a3 a4 a5 hbu a6 a7 a8 a9 a10 ht hpa a11 hn (fun _ => sgC_oz j2) (fun q => absurd hok q) a12
  · have ra : Nat → Int32 := fun _ => nI 0
    refine ⟨Int32.ofInt (-8), oP, 0, 0, FG, Nat.zero_le _, fun ρ G d K a1 a2 a3 a4 a5 a6 a7 a8 a9 a10 a11 a12 => ?_, Or.inr ⟨hok, rfl, rfl⟩⟩
    exact run_C (V' := fun _ _ => none) (ra := ra) (rd := ra) (ra' := ra) (rd' := ra) (sp := fun _ => false) (sp' := fun _ => false) (S := fun _ => 0) a1 a2 a3 a4 a5 hbu a6 a7 a8 a9 a10 ht hpa a11 (Nat.zero_le 80) (fun q => absurd q hok) (fun _ => ⟨rfl, rfl, rfl, rfl⟩) a12
end C12
