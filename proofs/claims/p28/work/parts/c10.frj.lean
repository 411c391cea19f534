/-! FRAGMENTS -/
section C10
variable {u : wo} {Gm : mj_G} {f f' f1 : mm_F} {ρ ρ' ρ0 ρ1 : Nat → Nat} {G G0 G1 G2 G' : mj_G} {cur r nx p q m d t T l s k c j i q1 e0 : Nat} {e fe : Int32} {K : Int32 → mj_G → Prop} {v : rv} {b1 : Int32} {L1 : List (Nat × Nat)} {N : Nat} {B : Nat → Nat} {M : Nat} {S : Nat → Nat} {lc : Nat} {ln : Nat → Nat} {op : Nat} {ch : List en} {V : Nat → Nat → Option rv} {o : ost} {ra rd : Nat → Int32} {sp : Nat → Bool} {st hts : Nat} {FG : Nat → kfr} {V' : Nat → Nat → Option rv} {o' : ost} {ra' rd' : Nat → Int32} {sp' : Nat → Bool} {st' hts' : Nat} {FG' : Nat → kfr} {fr b cn : Nat → Nat} {top la : Nat} {bg : Nat → Nat} {vc li LC : Nat} {ci : Int32} {CA tr : Nat}
theorem ms_107 (hM : mm_S Gm) (hu : uP u) (hT : T < 10) (hx : pX u N B M S lc ln op ch) (hV : pV u N V) (hA : u_A u r) (ht : tb_t k (u_A u) (u_G u) (nI T) b1 r (u_w u T) p m L1) (hc : u_w u T (p + 1) = 107) (hst : st ≤ u_bu u) (hmn : m ≤ u_n u T) (hpr : (p, r) ∈ u_L u T) (hL1 : ∀ y, y ∈ L1 → y ∈ u_L u T) (ih : op < 12 → ihT u (op + 1)) : msJ u 107 N B M S lc ln op ch V o ra rd sp st hts FG r p m := by
  have hW := (hu.2.2.2 T hT).1
  have hn := hW.1
  have hnd := tg_nd hA ht hc
  have hop := hx.2.1
  have hMop := hx.2.2.2.2.2.1
  have hBs := hx.2.2.2.2.1
  have h10 := pX_10 hx
  have hch : ∀ y, y ∈ ch → en_x y ≤ N := fun y hy => (hx.2.2.2.2.2.2.2 y hy).2.2.2.1
  obtain ⟨e0, q1, b', h9, hp123, he125, hpe, hB, hq123, hq59, rfl, heq, hqn⟩ := tg_one ht hW (Or.inr (Or.inl hc))
  have hdg : tx_D (u_w u T (p + 2)) ∧ e0 = p + 3 ∧ mj_i (u_G u) r 3 = nI (u_w u T (p + 2) - 48) := by
    rcases h9 with ⟨a, -⟩ | ⟨a, -⟩ | ⟨a, -⟩ | ⟨a, a1, a2, a3, -⟩ | ⟨a, -⟩ | ⟨a, -⟩ | ⟨a, -⟩ | ⟨a, -⟩
    · omega
    · omega
    · omega
    · exact ⟨a1, a2, a3⟩
    · omega
    · omega
    · omega
    · omega
  obtain ⟨d1, d2, d3⟩ := hdg
  have d1' : 48 ≤ u_w u T (p + 2) ∧ u_w u T (p + 2) ≤ 57 := d1
  obtain ⟨i, hi, hw2⟩ : ∃ i, i < 10 ∧ u_w u T (p + 2) = 48 + i := ⟨u_w u T (p + 2) - 48, by omega, by omega⟩
  rw [hw2, Nat.add_sub_cancel_left] at d3
  have hp80 : p < 80 := by omega
  have hr6 : mj_k (u_G u) r = 6 := hnd.2.2.1
  have hr0 : r ≠ 0 := hnd.2.1
  have hk107 : mj_i (u_G u) r 0 = nI 107 := hnd.2.2.2.2.2
  -- where the model comes to
  by_cases hfit : fitS (FG i) T p lc ln o ∧ fitV u (FG i) N B V
  · -- put out again
    refine ⟨(o_pc (k_c (FG i)) (k_n (FG i)) 0 o).1, V, (o_pc (k_c (FG i)) (k_n (FG i)) 0 o).2, hIa (FG i) N B M S V 26 0 ra, hId (FG i) N B M S V 26 0 rd, sp, st, hts + 1, FG, pJ_o hV hst o_pc_le o_pc_gr, ?_, .hit hnd hT hp80 d3 hi hfit.1 hfit.2⟩
    · intro fr b cn top la ρ G hC hnx k1 k2 k3 Q hQ h80 hb1 hb2 d dm K t hd hdm htt c1 c2
      refine ⟨fun q => absurd q (by decide), fun q => absurd q (by decide), fun q => absurd q (by decide), fun q => absurd q (by decide), fun q => absurd q (by decide), fun q => absurd q (by decide), fun _ => ?_, fun q => absurd q (by decide), fun q => absurd q (by decide), fun q => absurd q (by decide)⟩
      refine c_mf hu hC hV hBs hch hMop hT hA hr6 hpr hi d3 hop (by omega) (by omega) (fun _ _ G1 a1 a2 a3 a4 => ?_) (fun q => absurd hfit q) (fun q => absurd hfit q)
      exact ⟨fun q => c1 q ρ G1 cn (t + 1) ⟨a1, ro_r, a2, a3, a4.trans hnx, fun _ _ => rfl, by omega, by omega⟩, fun q => c2 q _ ρ G1 cn top t (rX_of a1 o_pc_le ro_r a2 a3 (fun _ _ => rfl) (by omega))⟩
  by_cases ho : op = 12
  · -- too much is open
    refine ⟨Int32.ofInt (-8), V, o, ra, rd, sp, st, hts, FG, pJ_r hV hst, ?_, by subst ho; exact .kdp hnd hT hp80 d3 hi hfit⟩
    · intro fr b cn top la ρ G hC hnx k1 k2 k3 Q hQ h80 hb1 hb2 d dm K t hd hdm htt c1 c2
      refine ⟨fun q => absurd q (by decide), fun q => absurd q (by decide), fun q => absurd q (by decide), fun q => absurd q (by decide), fun q => absurd q (by decide), fun q => absurd q (by decide), fun _ => ?_, fun q => absurd q (by decide), fun q => absurd q (by decide), fun q => absurd q (by decide)⟩
      exact c_mf hu hC hV hBs hch hMop hT hA hr6 hpr hi d3 hop (by omega) (by omega) (fun q1 q2 => absurd ⟨q1, q2⟩ hfit) (fun _ _ => kk_x hC (by decide) (by omega) c2) (fun _ q => absurd q (by omega))
  have ho12 : op < 12 := by omega
  have hx1 : pX u (N + 1) (e_bh B N N) (M + 1) (g_u S M N) lc ln (op + 1) ch := by
    obtain ⟨i1, i2, i3, i4, i5, i6, i7, i8⟩ := pX_s (x := N) (pX_o hx ho12) (Nat.le_refl N)
    refine ⟨i1, i2, i3, i4, i5, by omega, fun y hy => ?_, i8⟩
    by_cases q : y = M
    · rw [q, g_us]
      exact Nat.lt_succ_self N
    · rw [g_un q]
      have := hx.2.2.2.2.2.2.1 y (by omega)
      omega
  obtain ⟨e, V', o', ra', rd', sp', st', hts', FG', j1, j2, j3⟩ := bs_0 (o := o) (ra := g_u ra M (nI 0)) (rd := g_u rd M (nI 0)) (sp := g_u sp M false) (hts := hts) (FG := FG) hB (pV_s hV) hst (fun hr => ih ho12 T hT _ _ _ _ _ _ hB hL1 (by omega) hr _ _ _ _ _ _ _ V o (g_u ra M (nI 0)) (g_u rd M (nI 0)) (g_u sp M false) st hts FG hx1 (pV_s hV) hst)
  have hVV : ∀ s l, s < N → V' s l = V s l := fun s l hsl => j1.2.2.1 s l (by omega)
  have hgr : e = nI 0 → sp' M = false → o_gr o o' := fun q1 q2 => j1.1.2.2 q1 M (Nat.lt_succ_self M) q2
  have hoJ : oJ M sp o e sp' o' := ⟨j1.1.1, fun y hy q => j1.1.2.1 y (by omega) (by rw [g_un (by omega)]; exact q), fun q1 y hy q2 => j1.1.2.2 q1 y (by omega) q2⟩
  -- what is kept then
  have hres : ∃ FG2 : Nat → kfr, (e = nI 0 → FG2 = (if sp' M = true then FG' else g_u FG' i (k_nw u T p r lc ln (o_n o) (o_w o) o' (ra' M) (rd' M) N B V))) ∧ (¬ e = nI 0 → FG2 = FG') := by
    by_cases q : e = nI 0
    · exact ⟨_, fun _ => rfl, fun t => absurd q t⟩
    · exact ⟨FG', fun t => absurd t q, fun _ => rfl⟩
  obtain ⟨FG2, hf0, hf1⟩ := hres
  have sem : smS u (jtg r) N B M S lc ln op ch V o ra rd sp FG e V o' ra' rd' sp' FG2 := by
    by_cases q : e = nI 0
    · subst q
      rw [hf0 rfl]
      exact .kep hnd hT hp80 d3 hi hfit ho12 j3
    · rw [hf1 q]
      exact .kex hnd hT hp80 d3 hi hfit ho12 j3 q
  refine ⟨e, V, o', ra', rd', sp', st', hts', FG2, ⟨hoJ, hV, fun _ _ _ => rfl, j1.2.2.2.1, j1.2.2.2.2⟩, ?_, sem⟩
  · intro fr b cn top la ρ G hC hnx k1 k2 k3 Q hQ h80 hb1 hb2 d dm K t hd hdm htt c1 c2
    refine ⟨fun q => absurd q (by decide), fun q => absurd q (by decide), fun q => absurd q (by decide), fun q => absurd q (by decide), fun q => absurd q (by decide), fun q => absurd q (by decide), fun _ => ?_, fun q => absurd q (by decide), fun q => absurd q (by decide), fun q => absurd q (by decide)⟩
    refine c_mf hu hC hV hBs hch hMop hT hA hr6 hpr hi d3 hop (by omega) (by omega) (fun q1 q2 => absurd ⟨q1, q2⟩ hfit) (fun _ q => absurd q ho) (fun _ _ G1 a1 a2 a3 a4 a5 a6 a7 a8 a9 => ⟨fun _ => ?_, fun q => absurd rfl q⟩)
    refine sc_K (TT := t + 100 * (2000 - st) + 100 + (q1 + 3 - p)) (q := q1 + 3) hu hC (a4.trans hnx) hV hVV hBs hT hp80 hpr hi hA hr0 hr6 d3 a1 a2 a3 a5 (a6.trans hk107) a7 a8 a9 j2 hgr (by omega) (by omega) (by omega) (by omega) (by omega) hd (by omega) (by omega) (fun he ρ' G3 t' hN => ?_) (fun he o2 ρ' G3 cn' top' t' hX => ?_)
    · rw [← hf0 he] at hN
      exact c1 he ρ' G3 cn t' hN
    · rw [← hf1 he] at hX
      exact c2 he o2 ρ' G3 cn' top' t' hX
end C10
