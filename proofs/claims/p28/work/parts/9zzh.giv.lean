/-! VALUES of a call set by the model: those given, and defaults -/
section ZZH
variable {u : wo} {Gm : mj_G} {f f1 f' : mm_F} {P S1 R1 : Nat → Prop} {T T2 p q s d tg rm me j k i : Nat} {x a lt : Nat → Nat} {ga : Nat → Nat} {av : Nat → rv} {g : Nat → Option rv} {m2 : Nat} {e : Int32} {v : rv} {N : Nat} {B : Nat → Nat} {M : Nat} {S : Nat → Nat} {lc : Nat} {ln : Nat → Nat} {op : Nat} {ch : List en} {V : Nat → Nat → Option rv} {o : ost} {ra rd : Nat → Int32} {sp : Nat → Bool} {st hts : Nat} {FG : Nat → kfr} {V' : Nat → Nat → Option rv} {o' : ost} {ra' rd' : Nat → Int32} {sp' : Nat → Bool} {st' hts' : Nat} {FG' : Nat → kfr} {bg : Nat → Nat} {vc li LC : Nat} {ci : Int32} {CA tr : Nat}
theorem z_mac : ∀ t, t < 10 → ∀ y, y < 80 → nI (100 * t + y) / nI 100 = nI t ∧ mm_rem (nI (100 * t + y)) (nI 100) = nI y := by decide +kernel
/-- the first k of the values that are given -/
def gK (g : Nat → Option rv) (k : Nat) : Nat → Option rv := fun i => if i < k then g i else none
theorem gK_s (h : g k = some v) : gK g (k + 1) = g_u (gK g k) k (some v) := by
  funext i
  unfold gK
  by_cases q : i = k
  · rw [q, g_us, if_pos (Nat.lt_succ_self k), h]
  · rw [g_un q]
    by_cases q1 : i < k
    · rw [if_pos q1, if_pos (by omega)]
    · rw [if_neg q1, if_neg (by omega)]
theorem gK_n (h : g k = none) : gK g (k + 1) = gK g k := by
  funext i
  unfold gK
  by_cases q : i = k
  · rw [q, if_pos (Nat.lt_succ_self k), if_neg (Nat.lt_irrefl k), h]
  · by_cases q1 : i < k
    · rw [if_pos q1, if_pos (by omega)]
    · rw [if_neg q1, if_neg (by omega)]
/-- a value set in the scope that is meant -/
theorem p_setN {V1 : Nat → Nat → Option rv} {B' bg' : Nat → Nat} {vc1 l kk : Nat} {fe : Int32} {K : mm_F → Prop} (hM : mm_S Gm) (h10 : ∀ x, x ∈ ch → en_n x ≤ 10) (h : MM u f (N + 1) B' M S lc ln op ch V1 o ra rd sp st hts FG e bg' vc1 li LC ci CA tr fe) (hl : l < 26) (hk : 320 ≤ kk) (hk2 : kk < 380) (hv : mv f kk v) (hvin : rv_in (u_D u) v) (hroom : vc1 < 320) (hd : 1 ≤ d)
    (hK : ∀ f' vc2, MM u f' (N + 1) B' M S lc ln op ch (e_st V1 N l v) o ra rd sp st hts FG e bg' vc2 li LC ci CA tr fe → mF tr LC CA f f' → mw (fun j => j < 320) (fun j => j = 30) R_v f f' → vc1 ≤ vc2 → vc2 ≤ vc1 + 1 → K f') : m_sets Gm d (nI l) (nI kk) f K := by
  obtain ⟨d, rfl⟩ : ∃ y, d = y + 1 := ⟨d - 1, by omega⟩
  have hd := h.2.2.1
  refine p_sets hM hd.1 hd.2.1 (Nat.succ_le_succ (Nat.zero_le N)) h.2.1.2.1 hl hk hk2 hv hvin hroom (fun f' vc2 F i1 i2 i3 i4 i5 i6 => ?_)
  obtain ⟨b1, b2⟩ := MM_set (P := no_R) h h10 F i1 i2 i3 i4 i5 i6
  exact hK f' vc2 b1 b2 F i3 i4
/-- the values that are given, one by one -/
theorem p_give {x1 x2 x3 x5 x7 : Int32} {K : mm_F → Prop} (hM : mm_S Gm) (h10 : ∀ x, x ∈ ch → en_n x ≤ 10) (mc : mcP u T2 tg rm x a m2 me) (htg : tg < 80) (hj : j ≤ 3) (hga : ∀ k, ga k = 3 ∨ ga k < j) (hgm : ∀ k, k < 3 → ga k ≠ 3 → k < m2) (hav : ∀ k, k < j → rv_in (u_D u) (av k)) (hd : 302 ≤ d) {B' bg' : Nat → Nat} {fe : Int32} (hV : ∀ l, V N l = none) {vc0 : Nat} (hvc : vc0 + 3 ≤ 317) {f0 : mm_F}
    (hK : ∀ f' vc', MM u f' (N + 1) B' M S lc ln op ch (e_cl V N (p_vl (p_lt (u_w u T2) a) (gK (gvO ga av) 3) m2)) o ra rd sp st hts FG (nI 0) bg' vc' li LC ci CA tr fe → mF tr LC CA f0 f' → vc' ≤ vc0 + 3 → m_calls_147 Gm (d + 1) x1 x2 x3 (nI (100 * T2 + tg)) x5 (gI ga) x7 (nI T2) (nI 0) f' K) : ∀ {n k vc1 : Nat} {f : mm_F}, k + n = 3 → vc1 ≤ vc0 + k → MM u f (N + 1) B' M S lc ln op ch (e_cl V N (p_vl (p_lt (u_w u T2) a) (gK (gvO ga av) k) m2)) o ra rd sp st hts FG (nI 0) bg' vc1 li LC ci CA tr fe → mF tr LC CA f0 f → (∀ i, i < j → mv f (320 + i) (av i)) → m_calls_78 Gm (d + 1) x1 x2 x3 (nI (100 * T2 + tg)) x5 (gI ga) x7 (nI T2) (nI k) f K
  | 0, k, vc1, f, hk, hvk, hm, hF, hmv => by
    have q : k = 3 := by omega
    subst q
    exact w_m_calls_78 hM (z_bt (by decide) (hK f vc1 hm hF hvk))
  | n + 1, k, vc1, f, hk, hvk, hm, hF, hmv => by
    have hg4 : ∀ k, k < 3 → ga k < 4 := fun k _ => by have := hga k; omega
    have mc0 := mc
    obtain ⟨c1, c2, c3, c4, c5, c6, c7, c8, c9⟩ := mc
    have hT2 := MM_T hm c1
    have hn2 := hT2.2.1.1
    refine w_m_calls_78 hM (z_bf (by rw [z_le (by omega) (by omega)]; omega) ?_)
    rw [gi_get hg4 (by omega), gi_255 (hg4 k (by omega)), (z_mac T2 c1 tg htg).2]
    refine z_br (fun t => ?_) (fun t => ?_)
    · rw [z_add]
      refine p_give hM h10 mc0 htg hj hga hgm hav hd hV hvc hK (n := n) (k := k + 1) (vc1 := vc1) (by omega) (by omega) ?_ hF hmv
      rw [gK_n (show gvO ga av k = none from if_pos t)]
      exact hm
    · have hkm := hgm k (by omega) t
      have hal := pA_le c7 (j := m2 - k) (i := k) (by omega)
      obtain ⟨l1, l2⟩ := mc_lt mc0 hkm
      have hga3 := hga k
      refine p_pat hM hT2 c7 c5 c6 (by omega) c8 c9 (by omega) ?_
      rw [if_pos hkm]
      refine c_letter hM hT2 (by omega) ?_
      rw [tx_nxi (by omega), l2, z_sub (by omega), Nat.add_sub_cancel_left, show gb (ga k) = ga k from if_neg t, z_add]
      refine p_setN hM h10 hm l1 (by omega) (by omega) (hmv _ (by omega)) (hav _ (by omega)) (by omega) (by omega) (fun f' vc2 b1 b2 b3 b4 b5 => ?_)
      rw [z_add]
      refine p_give hM h10 mc0 htg hj hga hgm hav hd hV hvc hK (n := n) (k := k + 1) (vc1 := vc2) (by omega) (by omega) ?_ (mF_t hF b2) (fun i hi => mv_fr (hmv i hi) (hav i hi).1 b3 (by omega))
      rw [gK_s (show gvO ga av k = some (av (ga k)) from if_neg t), ← e_cl_st (mc_dis mc0) hkm]
      exact b1
end ZZH
