/-! UP TO THE PARENT'S BLOCK, by both sides -/
section ZW
variable {u : wo} {Gm : mj_G} {f f' f1 : mm_F} {ρ ρ' ρ0 ρ1 : Nat → Nat} {G G0 G1 G2 G' : mj_G} {cur r nx p q m d t T l s k c x j q1 : Nat} {e : Int32} {K : Int32 → mj_G → Prop} {v : rv} {b1 : Int32} {L1 : List (Nat × Nat)} {N : Nat} {B : Nat → Nat} {M : Nat} {S : Nat → Nat} {lc : Nat} {ln : Nat → Nat} {op : Nat} {ch : List en} {V : Nat → Nat → Option rv} {o : ost} {ra rd : Nat → Int32} {sp : Nat → Bool} {st hts : Nat} {FG : Nat → kfr} {V' : Nat → Nat → Option rv} {o' : ost} {ra' rd' : Nat → Int32} {sp' : Nat → Bool} {st' hts' : Nat} {FG' : Nat → kfr} {fr b cn : Nat → Nat} {top la : Nat} {bg : Nat → Nat} {vc li LC : Nat} {ci : Int32} {CA tr : Nat}
/-- what the scan of blocks writes is beside the picture -/
theorem MM_a (h : MM u f N B M S lc ln op ch V o ra rd sp st hts FG e bg vc li LC ci CA tr (nI 320)) (h10 : ∀ x, x ∈ ch → en_n x ≤ 10) (F : mw no_R no_R R_a f f') : MM u f' N B M S lc ln op ch V o ra rd sp st hts FG e bg vc li LC ci CA tr (nI 320) ∧ mF tr LC CA f f' := by
  obtain ⟨w1, w2, w3, w4, w5, w6, w7, w8, w9, w0⟩ := h
  have nr : ∀ a, no_R a → False := fun a q => q
  have nv : ∀ a, R_a a → a = 1766 := fun a q => q
  exact ⟨⟨wM_f w1 F (nr _) (fun a q => by have := nv a q; omega), sM_f w2 h10 F (fun j q => absurd q (nr j)) (fun a q => by have := nv a q; omega), dM_f w3 F (fun i q => absurd q (nr i)) (fun j q => absurd q (nr j)) (fun a q => by have := nv a q; omega), (F.2.1 68 (nr _)).trans w4, w5, w6, (F.2.1 69 (nr _)).trans w7, (F.2.1 70 (nr _)).trans w8, oM_f w9 F ⟨nr _, nr _⟩ ⟨by unfold R_a; decide, by unfold R_a; decide⟩, fgM_f w0 F (fun a q => by have := nv a q; omega)⟩, mF_w F (fun j q => absurd q (nr j)) (fun a q => by have := nv a q; unfold rR; omega)⟩
/-- a digit that is none: no block -/
theorem c_fbn {K : Nat → mj_G → Prop} {i : Nat} {y : Int32} (hS : cs_S G) (h11 : mj_i G 11 4 = nI top) (htop : top < 200) (h7 : mj_i G (707 + 4 * top) 7 = nI i) (hi : i < 200) (hK : K 0 G) : Rn_firstBlock (d + 1) y (Int32.ofInt (-1)) G K :=
  w_Rn_firstBlock hS (c_lineFrame hS h11 htop h7 hi (w_Rn_firstBlock_8 hS (z_bt (by decide) hK)))
/-- where a template stands in the line, by the model -/
theorem p_up10 {x3 : Int32} {KK : mm_F → Prop} (hM : mm_S Gm) (h34 : f 1714 34 = nI li) (hli : li < 14) (hlc : lc ≤ 10) (hml : mL f li lc ln) (hT : T < 10) (h1 : ∀ j, j < lc → ln j = T → (∀ i, i < j → ln i ≠ T) → mm_br (x3 = Int32.ofInt (-1)) (KK (mj_u2 f 1714 70 (Int32.ofInt (-7)))) (m_rendersBlock Gm d (nI (j + 1)) x3 f (fun f5 => KK f5))) (h2 : (∀ i, i < lc → ln i ≠ T) → KK (mj_u2 f 1714 70 (Int32.ofInt (-7)))) : ∀ {n j : Nat}, j + n = lc → (∀ i, i < j → ln i ≠ T) → m_rendersUp_10 Gm (d + 1) (nI T) x3 (nI j) f KK
  | 0, j, hj, hno => by
    refine w_m_rendersUp_10 hM ?_
    rw [h34]
    refine z_ixi hli (by omega) ?_
    rw [hml.1]
    have fin := h2 (fun i hi => hno i (by omega))
    refine z_bt (by rw [z_le (by omega) (by omega)]; omega) (z_br (fun _ => fin) (fun _ => z_ixi hli (by omega) ?_))
    rw [hml.1]
    exact z_bt (by rw [show j = lc by omega]) fin
  | n + 1, j, hj, hno => by
    refine w_m_rendersUp_10 hM ?_
    rw [h34]
    refine z_ixi hli (by omega) ?_
    rw [hml.1]
    refine z_bf (by rw [z_le (by omega) (by omega)]; omega) ?_
    rw [z_mul, z_add]
    refine z_ixi (by omega) (by omega) ?_
    rw [(hml.2 j (by omega)).1, z_eq (by have := (hml.2 j (by omega)).2; omega) (by omega)]
    refine z_br (fun hq => ?_) (fun hq => ?_)
    · have hh := h1 j (by omega) hq hno
      refine z_br (fun y => hh.1 y) (fun y => z_ixi hli (by omega) ?_)
      rw [hml.1]
      have h := hh.2 y
      rw [← z_add] at h
      exact z_bf (by rw [z_eq (by omega) (by omega)]; omega) h
    · rw [z_add]
      exact p_up10 hM h34 hli hlc hml hT h1 h2 (n := n) (by omega) (fun i hi => by
        by_cases e : i = j
        · rw [e]
          exact hq
        · exact hno i (by omega))
/-- up to the parent's block -/
theorem md_94 (hM : mm_S Gm) (hu : uP u) (hT : T < 10) (hx : pX u N B M S lc ln op ch) (hV : pV u N V) (hA : u_A u r) (ht : tb_t k (u_A u) (u_G u) (nI T) b1 r (u_w u T) p m L1) (hc : u_w u T (p + 1) = 94) (hst : st ≤ u_bu u) (hmn : m ≤ u_n u T) (hpr : (p, r) ∈ u_L u T) (ih : op < 12 → ihO u Gm (op + 1)) : mdJ u Gm T 94 N B M S lc ln op ch V o ra rd sp st hts FG r p m := by
  have hW := (hu.2.2.2 T hT).1
  have hn := hW.1
  have hnd := tg_nd hA ht hc
  have hop := hx.2.1
  have hlc := hx.2.2.1
  have hpm : p + 3 ≤ m := by
    obtain ⟨-, -, -, -, -, -, -, e, h8, h9, h10, h11⟩ := ht
    rcases h11 with ⟨-, g, -⟩ | ⟨g, -⟩ | ⟨g, -⟩
    · omega
    · unfold tx_B at g
      omega
    · omega
  -- the model up to the block
  have mod : ∀ (f : mm_F) (bg : Nat → Nat) (vc li LC : Nat) (ci : Int32) (CA tr : Nat), MM u f N B M S lc ln op ch V o ra rd sp st hts FG (nI 0) bg vc li LC ci CA tr (nI 320) → ∀ D (KK : mm_F → Prop), 40 ≤ D → (∀ f1, MM u f1 N B M S lc ln op ch V o ra rd sp st hts FG (nI 0) bg vc li LC ci CA tr (nI 320) → mF tr LC CA f f1 → (∀ j, j < lc → ln j = T → (∀ i, i < j → ln i ≠ T) → mm_br (bch (mj_i (u_G u) r 3) = Int32.ofInt (-1)) (KK (mj_u2 f1 1714 70 (Int32.ofInt (-7)))) (m_rendersBlock Gm D (nI (j + 1)) (bch (mj_i (u_G u) r 3)) f1 (fun f5 => KK f5))) ∧ ((∀ i, i < lc → ln i ≠ T) → KK (mj_u2 f1 1714 70 (Int32.ofInt (-7))))) → m_rendersUp Gm (D + 1) (nI T) (nI p) f KK := fun f bg vc li LC ci CA tr hm D KK hD h => by
    obtain ⟨D, rfl⟩ : ∃ y, D = y + 1 := ⟨D - 1, by omega⟩
    refine w_m_rendersUp hM (p_blockAround hM hu hT (MM_T hm hT) hpr hc (by omega) (fun f1 F1 => ?_)).2
    obtain ⟨m1, g1⟩ := MM_a hm (pX_10 hx) F1
    obtain ⟨k1, k2⟩ := h f1 m1 g1
    have hs := m1.2.1
    have hli : li < 14 := by
      have := hs.2.2.2.2.1
      have := hs.2.2.2.2.2.1
      omega
    exact p_up10 hM hs.2.2.2.1 hli hlc hs.2.2.2.2.2.2.2.2.1 hT k1 k2 (n := lc) (j := 0) (Nat.zero_add _) (fun i hi => absurd hi (by omega))
  have hbD : bD (mj_i (u_G u) r 3) := by
    obtain ⟨-, -, s, kk, hP, hB⟩ := hu.2.2.2 T hT
    have hpl := tb_pl hB _ hpr
    exact (ba_w2 (d := 15) (K := fun _ _ => True) (T := T) (n := u_n u T) hM (Nat.le_refl _) (by omega) hc hB hpr (Or.inl rfl)).1
  -- the place of the template in the line
  have pl : (∃ j, j < lc ∧ ln j = T ∧ ∀ i, i < j → ln i ≠ T) ∨ ∀ i, i < lc → ln i ≠ T := by
    by_cases h : ∃ j, j < lc ∧ ln j = T
    · obtain ⟨j, h1, h2⟩ := h
      have go : ∀ n j, j ≤ n → j < lc → ln j = T → ∃ j, j < lc ∧ ln j = T ∧ ∀ i, i < j → ln i ≠ T := fun n => by
        induction n with
        | zero =>
          intro j hj h1 h2
          exact ⟨j, h1, h2, fun i hi => absurd hi (by omega)⟩
        | succ n ihn =>
          intro j hj h1 h2
          by_cases hh : ∃ i, i < j ∧ ln i = T
          · obtain ⟨i, i1, i2⟩ := hh
            exact ihn i (by omega) (by omega) i2
          · exact ⟨j, h1, h2, fun i hi q => hh ⟨i, hi, q⟩⟩
      exact Or.inl (go j j (Nat.le_refl _) h1 h2)
    · exact Or.inr (fun i hi q => h ⟨i, hi, q⟩)
  -- the class up to the block
  have cls : ∀ (fr b cn : Nat → Nat) (top la : Nat) (ρ : Nat → Nat) (G : mj_G), CC u ρ G N B M S lc ln op ch V o ra rd sp st hts FG fr b cn top la → mj_k G r = 6 → (∀ j, mj_i G r j = mj_i (u_G u) r j) → ∀ dm (KK : Int32 → mj_G → Prop), (∀ j, j < lc → ln j = T → (∀ i, i < j → ln i ≠ T) → Rn_firstBlock dm (nI (j + 1)) (mj_i (u_G u) r 3) G (fun v8 G7 => Rn_openBody dm r v8 G7 (fun v10 G9 => KK v10 G9))) → ((∀ i, i < lc → ln i ≠ T) → Rn_openBody dm r 0 G (fun v12 G11 => KK v12 G11)) → Rn_openUp (dm + 1) r G KK := fun fr b cn top la ρ G hC k1 k3 dm KK h1 h2 => by
    obtain ⟨s1, s2, s3, s4, s5, s6, s7, s8, s9, s10, s11, s12, s13, s14⟩ := hC.2.2.1
    obtain ⟨l1, l2, l3⟩ := cs_l14 hC.1.1 (i := la) (by omega)
    refine w_Rn_openUp hC.1.1 (c_lineFrame hC.1.1 hC.2.2.2.2.1 s2 s7 (by omega) ⟨k1, ?_⟩)
    rw [k3, hnd.2.2.2.1]
    refine c_placeInLine hC.1.1 (by omega) s10.1 hlc l1 l2 l3 (by omega) s10.2 (fun j hj hq hno => z_bf (z_m1n (by omega)) ⟨k1, ?_⟩) (fun hno => z_bt rfl (h2 hno))
    rw [z_add, k3]
    exact h1 j hj hq hno
  have bad : ((∀ i, i < lc → ln i ≠ T) ∨ mj_i (u_G u) r 3 = Int32.ofInt (-1)) → mdJ u Gm T 94 N B M S lc ln op ch V o ra rd sp st hts FG r p m := fun hb => by
    refine ⟨Int32.ofInt (-7), V, o, ra, rd, sp, st, hts, FG, pJ_r hV hst, ?_, ?_⟩
    · intro fr b cn top la ρ G hC hnx k1 k2 k3 Q hQ h80 hb1 hb2 d dm K t hd hdm htt c1 c2
      obtain ⟨dm, rfl⟩ : ∃ y, dm = y + 2 := ⟨dm - 2, by omega⟩
      have fin : Rn_openBody (dm + 1) r 0 G (fun v12 G11 => kk d K t v12 G11) := w_Rn_openBody hC.1.1 (z_bt rfl (kk_x hC (by decide) (by omega) c2))
      refine ⟨fun q => absurd q (by decide), fun q => absurd q (by decide), fun q => absurd q (by decide), fun q => absurd q (by decide), fun q => absurd q (by decide), fun _ => ?_, fun q => absurd q (by decide), fun q => absurd q (by decide), fun q => absurd q (by decide), fun q => absurd q (by decide)⟩
      refine cls fr b cn top la ρ G hC k1 k3 (dm + 1) _ (fun j hj hq hno => ?_) (fun _ => fin)
      rcases hb with h | h
      · exact absurd hq (h j hj)
      · have hs := hC.2.2.1
        rw [h]
        exact c_fbn hC.1.1 hC.2.2.2.2.1 hs.2.1 hs.2.2.2.2.2.2.1 (by have := hs.2.2.2.1; have := hs.2.1; omega) fin
    · intro f bg vc li LC ci CA tr hm Q hQ hQn hb1 hb2 D KK hD hk
      obtain ⟨D, rfl⟩ : ∃ x, D = x + 2 := ⟨D - 2, by omega⟩
      refine ⟨fun q => absurd q (by decide), fun _ => w_m_rendersOther hM ?_, fun q => absurd q (by decide)⟩
      rw [show nI p + nI 2 = nI (p + 2) from z_add p 2]
      refine c_letter hM (MM_T hm hT) (by omega) (z_bf (by decide) (z_bt rfl ?_))
      refine mod f bg vc li LC ci CA tr hm D KK (by omega) (fun f1 m1 g1 => ?_)
      have fin : KK (mj_u2 f1 1714 70 (Int32.ofInt (-7))) := by
        obtain ⟨b1, b2⟩ := MM_e (e' := Int32.ofInt (-7)) m1 (pX_10 hx) (mw_S rfl) z_u2s (by decide)
        exact hk _ vc _ b1 (mF_t g1 b2) (by omega)
      refine ⟨fun j hj hq hno => ?_, fun _ => fin⟩
      rcases hb with h | h
      · exact absurd hq (h j hj)
      · refine z_bt ?_ fin
        unfold bch
        rw [if_pos h]
  rcases pl with ⟨j, hj, hjT, hno⟩ | hno
  · rcases hbD with hb | ⟨g, hg, hb⟩
    · exact bad (Or.inr hb)
    · obtain ⟨e, V', o', ra', rd', sp', st', hts', FG', j0, j1, j2, j3⟩ := ob_all (g := g) (k0 := j + 1) (o := o) (ra := ra) (rd := rd) (sp := sp) (hts := hts) (FG := FG) hM hu hx hV hst hA hnd.2.2.1 (by rw [hnd.2.2.2.2.2]; decide) hg hj ih
      subst j0
      refine ⟨e, V', o', ra', rd', sp', st', hts', FG', j1, ?_, ?_⟩
      · intro fr b cn top la ρ G hC hnx k1 k2 k3 Q hQ h80 hb1 hb2 d dm K t hd hdm htt c1 c2
        obtain ⟨dm, rfl⟩ : ∃ y, dm = y + 2 := ⟨dm - 2, by omega⟩
        have hs := hC.2.2.1
        refine ⟨fun q => absurd q (by decide), fun q => absurd q (by decide), fun q => absurd q (by decide), fun q => absurd q (by decide), fun q => absurd q (by decide), fun _ => ?_, fun q => absurd q (by decide), fun q => absurd q (by decide), fun q => absurd q (by decide), fun q => absurd q (by decide)⟩
        refine cls fr b cn top la ρ G hC k1 k3 (dm + 1) _ (fun j' hj' hq' hno' => ?_) (fun h => absurd hjT (h j hj))
        have hjj : j' = j := by
          by_cases h1 : j' < j
          · exact absurd hq' (hno j' h1)
          · by_cases h2 : j < j'
            · exact absurd hjT (hno' j h2)
            · omega
        subst hjj
        rw [hb]
        refine c_firstBlock (n := lc) hC.1.1 hC.2.2.2.2.1 hs.2.1 hs.2.2.2.2.2.2.1 (by have := hs.2.2.2.1; have := hs.2.1; omega) hg hlc hj hs.2.2.2.2.2.2.2.2.2.1 (hC.2.1.2.1 _ hg).1 ?_
        exact j2 fr b cn top la ρ G hC _ m (t + 100 * (2000 - st) + 100 + (m - p)) hnx (by omega) (by omega) (by omega) d (dm + 1) K t hd (by omega) (by omega) (by omega) (fun he ρ' G' t' hN => c1 he ρ' G' cn t' hN) c2
      · intro f bg vc li LC ci CA tr hm Q hQ hQn hb1 hb2 D KK hD hk
        obtain ⟨D, rfl⟩ : ∃ x, D = x + 2 := ⟨D - 2, by omega⟩
        refine ⟨fun q => absurd q (by decide), fun _ => w_m_rendersOther hM ?_, fun q => absurd q (by decide)⟩
        rw [show nI p + nI 2 = nI (p + 2) from z_add p 2]
        refine c_letter hM (MM_T hm hT) (by omega) (z_bf (by decide) (z_bt rfl ?_))
        refine mod f bg vc li LC ci CA tr hm D KK (by omega) (fun f1 m1 g1 => ⟨fun j' hj' hq' hno' => ?_, fun h => absurd hjT (h j hj)⟩)
        have hjj : j' = j := by
          by_cases h1 : j' < j
          · exact absurd hq' (hno j' h1)
          · by_cases h2 : j < j'
            · exact absurd hjT (hno' j h2)
            · omega
        subst hjj
        have hbc : bch (mj_i (u_G u) r 3) = nI (48 + g) := by
          unfold bch
          rw [hb, if_neg (z_m1n (by omega)), z_add, Nat.add_comm]
        rw [hbc]
        refine z_bf (z_m1n (by omega)) ?_
        exact j3 f1 bg vc li LC ci CA tr m1 (by omega) (by omega) D KK (by omega) (fun f' fe a1 a2 => hk f' vc fe a1 (mF_t g1 a2) (by omega))
  · exact bad (Or.inl hno)
end ZW
