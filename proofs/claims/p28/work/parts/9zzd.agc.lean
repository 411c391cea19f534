/-! ARGUMENTS given by the class -/
def p_lt (w a : Nat → Nat) : Nat → Nat := fun i => w (a i) - 97
/-- a macro's head: its template, place and node; its parameters, up to e -/
def mcP (u : wo) (T tg rm : Nat) (x a : Nat → Nat) (m e : Nat) : Prop := T < 10 ∧ u_A u rm ∧ mj_k (u_G u) rm = 6 ∧ mj_r (u_G u) rm 7 = x 0 ∧ a 0 = tg + 3 ∧ m ≤ 3 ∧ pA (u_A u) (u_G u) (u_w u T) x a m e ∧ u_w u T e = 125 ∧ e < u_n u T
section ZZD
variable {u : wo} {ρ ρ' : Nat → Nat} {G G1 G' : mj_G} {cur bN i p q r d T tg rm me un un' j pl : Nat} {x a lt : Nat → Nat} {ga : Nat → Nat} {av : Nat → rv} {m : Nat} {e : Int32} {v : rv} {N : Nat} {B : Nat → Nat} {M : Nat} {S : Nat → Nat} {lc : Nat} {ln : Nat → Nat} {op : Nat} {ch : List en} {V : Nat → Nat → Option rv} {o : ost} {ra rd : Nat → Int32} {sp : Nat → Bool} {st hts : Nat} {FG : Nat → kfr} {V' : Nat → Nat → Option rv} {o' : ost} {ra' rd' : Nat → Int32} {sp' : Nat → Bool} {st' hts' : Nat} {FG' : Nat → kfr} {fr b cn : Nat → Nat} {top la : Nat}
theorem mc_lt (h : mcP u T tg rm x a m me) (hi : i < m) : p_lt (u_w u T) a i < 26 ∧ u_w u T (a i) = 97 + p_lt (u_w u T) a i := by
  obtain ⟨-, -, -, -, -, -, h7, -⟩ := h
  obtain ⟨-, -, -, g4, -⟩ := h7.2.2 i hi
  unfold tx_L at g4
  unfold p_lt
  omega
theorem mc_dis (h : mcP u T tg rm x a m me) : p_dis (p_lt (u_w u T) a) m := fun i hi j hj q => by
  have h1 := mc_lt h hi
  have h2 := mc_lt h (i := j) (by omega)
  obtain ⟨-, -, -, -, -, -, h7, -⟩ := h
  obtain ⟨-, -, -, -, -, -, -, g8⟩ := h7.2.2 i hi
  exact g8 j hj (by rw [h1.2, h2.2, q])
theorem mc_pC (hw : wC u ρ G) (h : mcP u T tg rm x a m me) : pC G x (p_lt (u_w u T) a) m ∧ mj_k G rm = 6 ∧ mj_r G rm 7 = x 0 := by
  have hl := fun i hi => (mc_lt h (i := i) hi).1
  obtain ⟨-, h2, h3, h4, -, h6, h7, -⟩ := h
  obtain ⟨A1, A2, A3⟩ := wC_A hw h2
  refine ⟨⟨h6, h7.2.1, fun i hi => ?_⟩, A1.trans h3, (A2 7).trans h4⟩
  obtain ⟨g1, g2, g3, g4, g5, g6, -⟩ := h7.2.2 i hi
  obtain ⟨B1, B2, B3⟩ := wC_A hw g1
  exact ⟨g2, B1.trans g3, (B2 10).trans g6.symm, (B3 4).trans g5, hl i hi⟩
theorem gvO_u (hj : j < 3) (hg : ∀ k, ga k = 3 ∨ ga k < j) : gvO (g_u ga pl j) (g_u av j v) = g_u (gvO ga av) pl (some v) := by
  funext k
  unfold gvO
  by_cases q : k = pl
  · subst q
    rw [g_us, if_neg (by omega), g_us, g_us]
  · rw [g_un q, g_un q]
    rcases hg k with h | h
    · rw [if_pos h, if_pos h]
    · rw [if_neg (by omega), if_neg (by omega), g_un (by omega)]
/-- what follows an argument that was found: where it goes -/
theorem c_ga91 {x4 x6 x8 : Int32} {K : Int32 → mj_G → Prop} (hC : CC u ρ G N B M S lc ln op ch V o ra rd sp st hts FG fr b cn top la) (mc : mcP u T tg rm x a m me) (ht : top < 199) (hbN : bN = b (N - 1) + cn (N - 1)) (hb : bN + 3 ≤ 320) (ha : aC ρ (u_D u) G bN (p_lt (u_w u T) a) (gvO ga av) m) (hf : aF G top bN m) (hv : cv (sv ρ 0) G 1509 v) (hvin : rv_in (u_D u) v) (hA : u_A u r) (hk : mj_k (u_G u) r = 6) (hpl : pl ≤ 3) (hx8 : (x8 = Int32.ofInt (-1) ∧ pl = 3) ∨ x8 = nI pl)
    (h1 : ¬ (pl < m ∧ ga pl = 3) → K (Int32.ofInt (-6)) G)
    (h2 : pl < m → ga pl = 3 → ∀ ρ' G', CC u ρ' G' N B M S lc ln op ch V o ra rd sp st hts FG fr b cn top la → ro_e ρ ρ' G → fw ρ bW G G' → FF ρ top (fr (N - 1)) G G' → mj_r G' (707 + 4 * top) 2 = mj_r G (707 + 4 * top) 2 → aC ρ' (u_D u) G' bN (p_lt (u_w u T) a) (g_u (gvO ga av) pl (some v)) m → aF G' top bN m → Rn_giveArguments_12 (d + 2) rm (nI bN) x4 (mj_r (u_G u) r 10) (x6 + nI 1) G' K) : Rn_giveArguments_91 (d + 2) rm (nI bN) x4 r x6 x8 G K := by
  obtain ⟨pc, k6, k7⟩ := mc_pC hC.2.1 mc
  have hm := pc.1
  refine w_Rn_giveArguments_91 hC.1.1 (z_br (fun q => ?_) (fun q => c_countNamed hC.1.1 k6 k7 pc ?_))
  · refine h1 (fun t => ?_)
    rcases hx8 with ⟨-, h⟩ | h
    · omega
    · rw [h] at q
      exact z_m1n (by omega) q
  · have hx : x8 = nI pl := by
      rcases hx8 with ⟨h, -⟩ | h
      · exact absurd h q
      · exact h
    subst hx
    rw [z_le (by omega) (by omega)]
    refine z_br (fun h => h1 (fun t => by omega)) (fun h => ?_)
    rw [z_add]
    have hp : bN + pl < 320 := by omega
    refine z_ixi hp (by omega) ?_
    obtain ⟨a1, a2⟩ := ha pl (by omega)
    by_cases hg : ga pl = 3
    · have e6 := a1 (show gvO ga av pl = none from if_pos hg)
      refine z_bt e6 (z_ixi hp (by omega) (c_letterOf hC.1.1 k6 k7 pc (by omega) ⟨cs_g13 hC.1.1 hp, ?_⟩))
      intro G1 e1
      have ho : ow ρ (67 + 2 * (bN + pl)) = 67 + 2 * (bN + pl) := ow_s (by omega)
      have c1 : hh ρ (u_D u) (u_I u) G1 ∧ fw ρ (fun q => q = 67 + 2 * (bN + pl)) G G1 ∧ cv (sv ρ 0) G1 1509 v ∧ mj_i G1 (67 + 2 * (bN + pl)) 6 = nI (p_lt (u_w u T) a pl) ∧ mj_n G1 = mj_n G := by
        subst e1
        refine ⟨hh_I hC.1 ?_ (fun q => absurd q (by decide)), fw_I ho, cv_I hv (by omega) (by rw [cs_g13 hC.1.1 hp]; decide), z_iIs, rfl⟩
        unfold imm
        rw [ho]
        unfold im_o
        omega
      clear e1
      obtain ⟨b1, b2, b3, b4, b5⟩ := c1
      refine z_ixi hp (by omega) (w_Fi_found b1.1 (z_ixi (by decide) (by decide) ⟨cs_g13 b1.1 hp, ?_⟩))
      refine c_kp b1 hp hvin.1 (show (1509 : Nat) ≠ 67 + 2 * (bN + pl) by omega) b3 (fun ρ' G' h' e' F' l' c' => ?_)
      have he : ro_e ρ ρ' G := fun y hy => e' y (by rw [b5]; exact hy)
      have F : fw ρ (fun q => q = 67 + 2 * (bN + pl)) G G' := fw_t b2 ro_r F'
      obtain ⟨d1, d2, d3⟩ := CC_a (cur := fr (N - 1)) hC ht hbN h' (fw_m F (fun o q => by unfold aW; omega)) he
      obtain ⟨A1, A2, A3⟩ := wC_A d1.2.1 hA
      refine ⟨A1.trans hk, ?_⟩
      rw [A2 10]
      refine h2 (by omega) hg ρ' G' d1 he d2 d3 ?_ (aC_up hC.1 ha (by omega) (by omega) F he (l'.trans b4) c' hvin) (aF_f hC.1 hf ht F (by omega))
      exact ((F.2.2.2 (707 + 4 * top) (by have := hh_n hC.1; omega)).2.2 (by rw [ow_s (by omega)]; omega)).1 2
    · obtain ⟨c1, -, -⟩ := a2 (av (ga pl)) (show gvO ga av pl = some (av (ga pl)) from if_neg hg)
      have hl := (mc_lt mc (i := pl) (by omega)).1
      exact z_bf (by rw [c1]; exact z_m1n (by omega)) (h1 (fun t => hg t.2))
/-- an argument, by the class -/
theorem c_ga12 {s q : Nat} {K : Int32 → mj_G → Prop} (hC : CC u ρ G N B M S lc ln op ch V o ra rd sp st hts FG fr b cn top la) (mc : mcP u T tg rm x a m me) (ht : top < 199) (hbN : bN = b (N - 1) + cn (N - 1)) (hb : bN + 3 ≤ 320) (ha : aC ρ (u_D u) G bN (p_lt (u_w u T) a) (gvO ga av) m) (hf : aF G top bN m) (hA : u_A u r) (h0 : r ≠ 0) (hk : mj_k (u_G u) r = 6) (hj : j < 3) (hun : un ≤ j)
    (hx : (mj_i (u_G u) r 4 = Int32.ofInt (-1) ∧ pl = un ∧ un' = un + 1) ∨ ∃ l, l < 26 ∧ mj_i (u_G u) r 4 = nI l ∧ un' = un ∧ ((pl < m ∧ p_lt (u_w u T) a pl = l) ∨ ((∀ i, i < m → ¬ p_lt (u_w u T) a i = l) ∧ pl = 3)))
    (hfn : fnC (u_D u) (u_I u) N B V M S N (u_A u) (u_G u) (mj_r (u_G u) r 6) s q 0 0 ra rd e v ra' rd') (hvin : e = nI 0 → rv_in (u_D u) v) (hd : 2 * (q - s) + 22 ≤ d + 1)
    (h1 : ¬ e = nI 0 → ∀ ρ' G', CC u ρ' G' N B M S lc ln op ch V o ra' rd' sp st hts FG fr b cn top la → ro_e ρ ρ' G → fw ρ bW G G' → FF ρ top (fr (N - 1)) G G' → mj_r G' (707 + 4 * top) 2 = mj_r G (707 + 4 * top) 2 → K e G')
    (h2 : e = nI 0 → ¬ (pl < m ∧ ga pl = 3) → ∀ ρ' G', CC u ρ' G' N B M S lc ln op ch V o ra' rd' sp st hts FG fr b cn top la → ro_e ρ ρ' G → fw ρ bW G G' → FF ρ top (fr (N - 1)) G G' → mj_r G' (707 + 4 * top) 2 = mj_r G (707 + 4 * top) 2 → K (Int32.ofInt (-6)) G')
    (h3 : e = nI 0 → pl < m → ga pl = 3 → ∀ ρ' G', CC u ρ' G' N B M S lc ln op ch V o ra' rd' sp st hts FG fr b cn top la → ro_e ρ ρ' G → fw ρ bW G G' → FF ρ top (fr (N - 1)) G G' → mj_r G' (707 + 4 * top) 2 = mj_r G (707 + 4 * top) 2 → aC ρ' (u_D u) G' bN (p_lt (u_w u T) a) (g_u (gvO ga av) pl (some v)) m → aF G' top bN m → Rn_giveArguments_12 (d + 2) rm (nI bN) (nI un') (mj_r (u_G u) r 10) (nI (j + 1)) G' K) : Rn_giveArguments_12 (d + 2) rm (nI bN) (nI un) r (nI j) G K := by
  have hs := hC.2.2.1
  have hh1 := hC.1
  have hG := hh_n hh1
  have hm3 := mc.2.2.2.2.2.1
  obtain ⟨A1, A2, A3⟩ := wC_A hC.2.1 hA
  refine w_Rn_giveArguments_12 hh1.1 (z_bf (by rw [z_le (by omega) (by omega)]; omega) (z_bf h0 ⟨A1.trans hk, w_St_scope hh1.1 ?_⟩))
  rw [hC.2.2.2.2.1]
  refine z_bf (by rw [z_lt (by have := hs.2.1; omega) (by omega)]; omega) (z_ixi hs.2.1 (by omega) ?_)
  rw [hs.2.2.2.2.2.1, A2 6]
  have hsf : nI (fr (N - 1)) = sf fr N := by
    unfold sf
    rw [if_neg (by have := hs.1; omega)]
  rw [hsf]
  refine hfn fr b cn top ρ G (CC_cE hC) (d + 1) _ hd (fun ρ' G1 b1 b2 b3 b4 b5 => ?_)
  obtain ⟨c1, c2, c3⟩ := CC_v (cur := fr (N - 1)) hC b1 b2 b3 b4
  have e2 : mj_r G1 (707 + 4 * top) 2 = mj_r G (707 + 4 * top) 2 := (b3.2 (707 + 4 * top) (by omega) (by rw [ow_s (by omega)]; unfold fF; omega)).1 2
  refine z_br (fun he => ?_) (fun he => h1 he ρ' G1 c1 b2 c2 c3 e2)
  obtain ⟨B1, B2, B3⟩ := wC_A c1.2.1 hA
  have ha1 := aC_fv hh1 ha (by omega) b3 b2
  have hf1 := aF_fv hh1 hf ht b3
  have go : ∀ x8, ((x8 = Int32.ofInt (-1) ∧ pl = 3) ∨ x8 = nI pl) → pl ≤ 3 → Rn_giveArguments_91 (d + 2) rm (nI bN) (nI un') r (nI j) x8 G1 K := fun x8 h8 h83 => by
    refine c_ga91 c1 mc ht hbN hb ha1 hf1 (b5 he) (hvin he) hA hk h83 h8 (fun q => h2 he q ρ' G1 c1 b2 c2 c3 e2) (fun q1 q2 ρ2 G2 i1 i2 i3 i4 i5 i6 i7 => ?_)
    rw [z_add]
    exact h3 he q1 q2 ρ2 G2 i1 (ro_t b2 c2.1 i2) (fw_t c2 b2 i3) (FF_t c3 b2 c2.1 i4) (i5.trans e2) i6 i7
  refine ⟨B1.trans hk, ?_⟩
  rcases hx with ⟨x1, x2, x3⟩ | ⟨l, l1, l2, l3, l4⟩
  · subst x2 x3
    have hq : mj_i G1 r 4 = Int32.ofInt (-1) := (B3 4).trans x1
    refine z_bt hq (z_bt hq ?_)
    rw [z_add]
    exact go _ (Or.inr rfl) (by omega)
  · have hq : mj_i G1 r 4 = nI l := (B3 4).trans l2
    obtain ⟨pc, k6, k7⟩ := mc_pC c1.2.1 mc
    subst l3
    refine z_bf (by rw [hq]; exact z_m1n (by omega)) ?_
    rw [hq]
    refine c_placeOf c1.1.1 k6 k7 pc l1 (fun i i1 i2 => ⟨B1.trans hk, ?_⟩) (fun hn => ⟨B1.trans hk, ?_⟩)
    · rw [hq]
      refine z_bf (z_m1n (by omega)) ?_
      rcases l4 with ⟨g1, g2⟩ | ⟨g1, -⟩
      · have hip : i = pl := by
          by_cases t1 : i < pl
          · exact absurd (i2.trans g2.symm) (mc_dis mc pl g1 i t1)
          · by_cases t2 : pl < i
            · exact absurd (g2.trans i2.symm) (mc_dis mc i i1 pl t2)
            · omega
        rw [hip]
        exact go _ (Or.inr rfl) (by omega)
      · exact absurd i2 (g1 i i1)
    · rw [hq]
      refine z_bf (z_m1n (by omega)) ?_
      rcases l4 with ⟨g1, g2⟩ | ⟨g1, g2⟩
      · exact absurd g2 (hn pl g1)
      · exact go _ (Or.inl ⟨rfl, g2⟩) (by omega)
end ZZD
