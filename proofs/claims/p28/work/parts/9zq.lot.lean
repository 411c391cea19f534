/-! LOOPS, by both sides: the tag -/
section ZQ
variable {u : wo} {Gm : mj_G} {f f' : mm_F} {ρ ρ' ρ0 ρ1 : Nat → Nat} {G G0 G1 G2 G' : mj_G} {cur r nx p q m d t T l s k c x j q1 : Nat} {e : Int32} {K : Int32 → mj_G → Prop} {v : rv} {b1 : Int32} {L1 : List (Nat × Nat)} {N : Nat} {B : Nat → Nat} {M : Nat} {S : Nat → Nat} {lc : Nat} {ln : Nat → Nat} {op : Nat} {ch : List en} {V : Nat → Nat → Option rv} {o : ost} {ra rd : Nat → Int32} {sp : Nat → Bool} {st hts : Nat} {FG : Nat → kfr} {V' : Nat → Nat → Option rv} {o' : ost} {ra' rd' : Nat → Int32} {sp' : Nat → Bool} {st' hts' : Nat} {FG' : Nat → kfr} {fr b cn : Nat → Nat} {top la : Nat} {bg : Nat → Nat} {vc li LC : Nat} {ci : Int32} {CA tr : Nat}
/-- a loop that is entered -/
theorem en_L {dm : Nat} (hC : CC u ρ G N B M S lc ln op ch V o ra rd sp st hts FG fr b cn top la) (hv : rv_in (u_D u) v) (h3 : rv_t v = 3) (hpos : 0 < rv_l v) (hcv : cv (sv ρ 0) G 1509 v) (hA : u_A u r) (hV : pV u N V) (hch : ∀ y, y ∈ ch → en_x y ≤ N) (ht : top < 199) (hnx : mj_r G (707 + 4 * top) 2 = nx)
    (hK : ∀ G', loS u ρ G' r 0 v N B M S lc ln op ch V o ra rd sp st hts FG fr b cn top la → fw ρ bW G G' → FF ρ top (fr (N - 1)) G G' → mj_r G' (707 + 4 * top) 2 = nx → lp (d + 1) K (t + 1) G') : Rn_enterLoop (dm + 3) r 1509 G (kk d K t) := by
  have hs := hC.2.2.1
  have hh1 := hC.1
  have hG := hh_n hh1
  obtain ⟨r1, r2, r3, r4, r5, r6, r7⟩ := li_row hh1 hv h3
  have i5 : mj_r G 1509 5 = ir G (rv_d v) := hcv.2.2.2.2.2 h3
  refine w_Rn_enterLoop hh1.1 ⟨hcv.1, z_bt (by rw [hcv.2.2.1, h3]; rfl) ?_⟩
  rw [i5, r4, r5]
  refine ⟨by decide, z_bf (by rw [z_eq (by omega) (by omega)]; omega) (c_pushScope (top := top) hh1 hC.2.2.2.2.1 ht (fun G1 a1 a2 a3 => z_bf (by omega) ?_))⟩
  obtain ⟨p1, p2, p3, p4, p5, p6, p7, p8, p9, p10, p11, p12, p13⟩ := a3
  obtain ⟨l13, lk⟩ := cs_l13 a1.1 (i := top + 1) (by omega)
  refine ⟨cs_g14 a1.1 (by omega), by rw [l13]; exact lk, ?_⟩
  rw [l13]
  have F1 : fw ρ (qW top) G G1 := fw_m a2 (fun o q => by unfold pW at q; unfold qW; omega)
  obtain ⟨C1, FB1, FF1⟩ := CC_ps (cur := fr (N - 1)) hC ht hV hch a1 ro_r F1 p1 p2 (fun j hj => p3 j (by omega)) p5 p6 p7 p8 ((p3 12 (by omega)).trans hs.2.2.2.2.2.2.2.2.1)
  -- the list is kept by the frame
  have hvm : vm ρ G1 (709 + 4 * (top + 1)) := vm_s a1.1 (Or.inr (Or.inr (by omega))) lk
  have ho : ow ρ (709 + 4 * (top + 1)) = 709 + 4 * (top + 1) := ow_s (by omega)
  have cv1 : cv (fun c => sv ρ 0 c) G1 1509 v := cv_fw hcv hv.1 hh1.2.2.2 a2 (fun o q => pW_im ht q) hG (by omega) (by rw [ow_s (by decide)]; unfold pW; omega) (fun c _ q => ⟨fun w => by
    unfold pW at w
    rcases q with q | q | q
    · exact pW_im ht w q
    · omega
    · omega, q⟩)
  refine c_refer a1 hvm hv.1 (by omega) cv1 (fun G2 b1 b2 b3 b4 b5 b6 b7 => ⟨cs_g14 b1.1 (by omega), ?_⟩)
  have n2 : mj_n G1 ≤ mj_n G2 := b2.1
  have nim2 : ∀ o, o = ow ρ (709 + 4 * (top + 1)) → ¬ im_o o := fun o q => by
    rw [q, ho]
    unfold im_o
    omega
  have e2 : ∀ a, a ≠ 709 + 4 * (top + 1) → (∀ j, mj_i G2 a j = mj_i G1 a j) ∧ ∀ j, mj_r G2 a j = mj_r G1 a j := b4
  have C2 : CC u ρ G2 (N + 1) (e_bh B N N) M S lc ln op ch V o ra rd sp st hts FG (e_bh fr N (top + 1)) (e_bh b N (b (N - 1) + cn (N - 1))) (e_bh cn N 0) (top + 1) la := CC_li C1 b1 b2 e2
  intro G3 e3
  obtain ⟨C3, FB3⟩ := CC_fi (i := 14) (y := nI 0) C2 (by omega)
  rw [← e3] at C3 FB3
  have s3 : ∀ a i, mj_r G3 a i = mj_r G2 a i := fun a i => by rw [e3]; rfl
  have z3 : ∀ a i, ¬ (a = 707 + 4 * (top + 1) ∧ i = 14) → mj_i G3 a i = mj_i G2 a i := fun a i h => by
    rw [e3]
    exact if_neg h
  have j3 : mj_i G3 (707 + 4 * (top + 1)) 14 = nI 0 := by
    rw [e3]
    exact z_iIs
  clear e3
  have FB2 : fw ρ bW G1 G2 := fw_m b2 (fun o q => ⟨by rw [q, ho]; omega, nim2 o q⟩)
  have FB : fw ρ bW G G3 := fw_t (fw_t FB1 ro_r FB2) ro_r FB3
  have FF3 : FF ρ top (fr (N - 1)) G G3 := FF_t (FF_t FF1 ro_r FB1.1 (FF_push a1 b2 ht (fun o q => by rw [q, ho]; omega))) ro_r (Nat.le_trans FB1.1 n2) (fun a ha h7 h8 => ⟨fun i _ => s3 a i, fun i _ _ => z3 a i (fun q => by
    rw [q.1, ow_s (by omega)] at h8
    omega)⟩)
  have liE : ir G (rv_d v) = ir G3 (rv_d v) := (dcx_l hh1.2.2.2 FB (fun o q => q.2) hG r1).2.symm
  refine ⟨fun _ => hK G3 ⟨V, e_bh cn N 0, C3, fun _ _ _ => rfl, fun s hs => if_neg (by omega), ?_, ?_, ?_, j3, ?_⟩ FB FF3 ?_, fun q => absurd rfl q⟩
  · rw [s3, (e2 _ (by omega)).2]
    exact p11
  · rw [z3 _ _ (by omega), (e2 _ (by omega)).1]
    exact p4
  · rw [s3, (e2 _ (by omega)).2]
    exact p10
  · rw [s3, b7]
    have := ((a2.2.2.2 1509 (by omega)).2.2 (by rw [ow_s (by decide)]; unfold pW; omega)).1 5
    rw [this, i5, liE]
  · rw [s3, (e2 _ (by omega)).2, ((a2.2.2.2 (707 + 4 * top) (by omega)).2.2 (by rw [ow_s (by omega)]; unfold pW; omega)).1 2]
    exact hnx
/-- a loop -/
theorem md_42 (hM : mm_S Gm) (hu : uP u) (hT : T < 10) (hx : pX u N B M S lc ln op ch) (hV : pV u N V) (hA : u_A u r) (ht : tb_t k (u_A u) (u_G u) (nI T) b1 r (u_w u T) p m L1) (hc : u_w u T (p + 1) = 42) (hst : st ≤ u_bu u) (ih : ∀ N' B', pX u N' B' M S lc ln op ch → ihB u Gm T k b1 L1 N' B' M S lc ln op ch) : mdJ u Gm T 42 N B M S lc ln op ch V o ra rd sp st hts FG r p m := by
  have hW := (hu.2.2.2 T hT).1
  have hn := hW.1
  have hop := hx.2.1
  have hch : ∀ y, y ∈ ch → en_x y ≤ N := fun y hy => (hx.2.2.2.2.2.2.2 y hy).2.2.2.1
  obtain ⟨x1, s, l, es, hE, h1, h2, ⟨h0, h3⟩, hH, hta, hg, -⟩ := tg_ex ht hW (by omega)
  rw [if_neg (by omega)] at es
  subst es
  obtain ⟨hgL, hg4⟩ := hg (Or.inl hc)
  have hl26 : u_w u T (p + 2) - 97 < 26 ∧ 97 ≤ u_w u T (p + 2) ∧ u_w u T (p + 2) ≤ 122 := by
    unfold tx_L at hgL
    omega
  have hnd := tg_nd hA ht hc
  obtain ⟨q1, x5, x6, La, y1, y2, y3, y4, y5, -, y6, y7⟩ := tg_two hM hW h0 (by omega) hH h3 hta hc (by omega)
  obtain ⟨e1, v, ra1, rd1, f1, f2, f3, -⟩ := fn_all (t := T) (sl := 0) (dep := 0) hM hW hx.2.2.2.2.1 hu.1 (fun s l v q => (hV s l v q).2.2) (Nat.le_refl N) hE (by omega) (by omega) (by omega) ra rd
  -- the model up to the value
  have mod : ∀ (f : mm_F) (bg : Nat → Nat) (vc li LC : Nat) (ci : Int32) (CA tr : Nat), MM u f N B M S lc ln op ch V o ra rd sp st hts FG (nI 0) bg vc li LC ci CA tr (nI 320) → ∀ D KK, 3 * 80 + 50 ≤ D → (e1 = nI 0 → ∀ f', MM u f' N B M S lc ln op ch V o ra1 rd1 sp st hts FG (nI 0) bg vc li LC ci CA tr (nI 321) → mF tr LC CA f f' → mv f' 320 v → mm_br (f' 1728 320 = nI 3) (m_isLooped_70 Gm (D + 2 + 1) (nI T) (nI p) (nI (x1 + 1)) (nI q1) (f' 1729 320) (f' 1730 320) (nI 0) (mj_u2 f' 1714 21 (nI 320)) (fun v9 f8 => mm_br (v9 = true) (KK f8) (mm_br (x5 = Int32.ofInt (-1)) (KK f8) (m_renders Gm (D + 3) (nI T) (x5 + nI 3) x6 f8 (fun f10 => KK f10))))) (KK (mj_u2 f' 1714 70 (Int32.ofInt (-3))))) → (¬ e1 = nI 0 → ∀ f' fe, MM u f' N B M S lc ln op ch V o ra1 rd1 sp st hts FG e1 bg vc li LC ci CA tr fe → mF tr LC CA f f' → KK f') → m_rendersBodies Gm (D + 4) (nI 42) (nI T) (nI p) f KK := fun f bg vc li LC ci CA tr hm D KK hD k1 k2 => by
    refine y6 f (D + 3) KK (MM_T hm hT) (by omega) (w_m_rendersBodies_39 hM (z_bf (by decide) (z_bf (by decide) ?_)))
    refine w_m_isLooped hM ?_
    rw [z_add]
    refine p_f2 (d := D) hM hT (pX_10 hx) hm f3 (by omega) (by omega) (by omega) (by omega) (fun he f1 a1 a2 a3 _ => ?_) (fun he kq f1 fe a1 a2 a3 a4 _ _ _ => ?_)
    · have h70 : f1 1714 70 = nI 0 := a1.2.2.2.2.2.2.2.1
      have kk1 := k1 he f1 a1 a2 a3
      refine z_bt h70 (z_ixi (by decide) (by decide) (z_br (fun q => z_bt h70 (z_ixi (by decide) (by decide) (z_ixi (by decide) (by decide) (kk1.1 q)))) (fun q => z_bf ?_ (z_bt rfl (kk1.2 q)))))
      rw [show (mj_u2 f1 1714 70 (Int32.ofInt (-3))) 1714 70 = Int32.ofInt (-3) from z_u2s]
      decide
    · have h70 : ¬ f1 1714 70 = nI 0 := by rw [a1.2.2.2.2.2.2.2.1]; exact he
      exact z_bf h70 (z_bf h70 (z_bt rfl (k2 he f1 fe a1 a2)))
  by_cases he : e1 = nI 0
  case neg =>
    refine ⟨e1, V, o, ra1, rd1, sp, st, hts, FG, pJ_r hV hst, mdC_mx hnd (by omega) he f2 (by omega), ?_⟩
    intro f bg vc li LC ci CA tr hm Q hQ hQn hb1 hb2 D KK hD hk
    obtain ⟨D, rfl⟩ : ∃ x, D = x + 4 := ⟨D - 4, by omega⟩
    exact ⟨fun _ => mod f bg vc li LC ci CA tr hm D KK (by omega) (fun q => absurd q he) (fun _ f' fe a1 a2 => hk f' vc _ a1 a2 (by omega)), fun q => absurd q (by decide), fun q => absurd q (by decide)⟩
  subst he
  have hvin := f1 rfl
  by_cases h33 : rv_t v = 3
  case neg =>
    -- no list
    refine ⟨Int32.ofInt (-3), V, o, ra1, rd1, sp, st, hts, FG, pJ_r hV hst, mdC_me hnd (by omega) f2 (by omega) ?_, ?_⟩
    · intro fr b cn top la ρ G hC hcv hnx k1 k2 k3 Q hQ h80 hb1 hb2 d dm K t hd hdm htt c1 c2
      obtain ⟨dm, rfl⟩ : ∃ x, dm = x + 1 := ⟨dm - 1, by omega⟩
      refine ⟨fun _ => w_Rn_enterLoop hC.1.1 ⟨hcv.1, ?_⟩, fun q => absurd q (by decide), fun q => absurd q (by decide), fun q => absurd q (by decide), fun q => absurd q (by decide)⟩
      rw [hcv.2.2.1, rv_kn hvin.1.1 (by omega)]
      exact z_bf (by omega) (kk_o hC hnx o_le_r (by omega) (by omega) hC.1 ro_r fw_r oX_r hC.2.2.2.2.2.2.2.1.1 c1 c2)
    · intro f bg vc li LC ci CA tr hm Q hQ hQn hb1 hb2 D KK hD hk
      obtain ⟨D, rfl⟩ : ∃ x, D = x + 4 := ⟨D - 4, by omega⟩
      refine ⟨fun _ => mod f bg vc li LC ci CA tr hm D KK (by omega) (fun _ f1 a1 a2 a3 => z_bf ?_ ?_) (fun q => absurd rfl q), fun q => absurd q (by decide), fun q => absurd q (by decide)⟩
      · rw [a3.1, z_eq (by have := hvin.1.1; omega) (by omega)]
        exact h33
      · obtain ⟨b1, b2⟩ := MM_e (e' := Int32.ofInt (-3)) a1 (pX_10 hx) (mw_S rfl) z_u2s (by decide)
        exact hk _ vc _ b1 (mF_t a2 b2) (by omega)
  by_cases hpos : rv_l v = 0
  · -- an empty list
    obtain ⟨p', q', e, V', o', ra', rd', sp', st', hts', FG', j1, j2, j3, i1, i2, i3, i4⟩ := y7 N B M S lc ln op ch (ih N B hx) V o ra1 rd1 sp st hts FG hV hst
    refine ⟨e, V', o', ra', rd', sp', st', hts', FG', j1, mdC_me hnd (by omega) f2 (by omega) ?_, ?_⟩
    · intro fr b cn top la ρ G hC hcv hnx k1 k2 k3 Q hQ h80 hb1 hb2 d dm K t hd hdm htt c1 c2
      obtain ⟨dm, rfl⟩ : ∃ x, dm = x + 2 := ⟨dm - 2, by omega⟩
      obtain ⟨r1, r2, r3, r4, r5, r6, r7⟩ := li_row hC.1 hvin h33
      have li5 : mj_r G 1509 5 = ir G (rv_d v) := hcv.2.2.2.2.2 h33
      refine ⟨fun _ => w_Rn_enterLoop hC.1.1 ⟨hcv.1, z_bt (by rw [hcv.2.2.1, h33]; rfl) ?_⟩, fun q => absurd q (by decide), fun q => absurd q (by decide), fun q => absurd q (by decide), fun q => absurd q (by decide)⟩
      rw [li5, r4, r5, hpos, k2]
      refine ⟨by decide, z_bt rfl ⟨k1, ?_⟩⟩
      exact j2 fr b cn top la ρ G hC _ m (t + 100 * (2000 - st) + 100 + (m - p)) hnx (by omega) (by omega) hop (by omega) (by omega) d dm K t _ (fun G' h => ⟨fun _ => h, fun q => absurd rfl q⟩) hd (by omega) (by omega) c1 c2
    · intro f bg vc li LC ci CA tr hm Q hQ hQn hb1 hb2 D KK hD hk
      obtain ⟨D, rfl⟩ : ∃ x, D = x + 4 := ⟨D - 4, by omega⟩
      refine ⟨fun _ => mod f bg vc li LC ci CA tr hm D KK (by omega) (fun _ f1 a1 a2 a3 => z_bt (by rw [a3.1, h33]) ?_) (fun q => absurd rfl q), fun q => absurd q (by decide), fun q => absurd q (by decide)⟩
      obtain ⟨b1, b2⟩ := MM_fe (y := nI 320) a1 (pX_10 hx)
      rw [show f1 1730 320 = nI 0 by rw [a3.2.1, hpos]]
      refine w_m_isLooped_70 hM (z_bt (by decide) (z_bt (by decide) (z_bf (by decide) ?_)))
      exact j3 _ bg vc li LC ci CA tr b1 (by omega) (by omega) (D + 3) KK (by omega) (fun f2 vc2 t1 t2 t3 => hk f2 vc2 _ t1 (mF_t (mF_t a2 b2) t2) (by omega))
  · -- round by round
    obtain ⟨e, V', o', ra', rd', sp', st', hts', FG', j0, j1, j2, j3⟩ := lo_all (q1 := q1) (x := x1) (p := p) (r := r) hM hu hT hx hV hvin h33 hA hnd.2.2.1 hg4 hl26.1 (by omega) (by omega) (by omega) (by omega) y3 rfl (fun V2 o2 ra2 rd2 sp2 st2 hts2 FG2 hV2 hst2 => bd_0 y1 hV2 hst2 (fun hr => ih _ _ (pX_s hx (Nat.le_refl N)) _ _ _ _ y1 (by omega) y2 hr V2 o2 ra2 rd2 sp2 st2 hts2 FG2 hV2 hst2)) (n := rv_l v) (j := 0) (by omega) o ra1 rd1 sp st hts FG hst
    subst j0
    refine ⟨e, V', o', ra', rd', sp', st', hts', FG', j1, mdC_me hnd (by omega) f2 (by omega) ?_, ?_⟩
    · intro fr b cn top la ρ G hC hcv hnx k1 k2 k3 Q hQ h80 hb1 hb2 d dm K t hd hdm htt c1 c2
      obtain ⟨dm, rfl⟩ : ∃ x, dm = x + 3 := ⟨dm - 3, by omega⟩
      refine ⟨fun _ => en_L hC hvin h33 (by omega) hcv hA hV hch (by omega) hnx (fun G' a1 a2 a3 a4 => ?_), fun q => absurd q (by decide), fun q => absurd q (by decide), fun q => absurd q (by decide), fun q => absurd q (by decide)⟩
      exact j2 fr b cn top la ρ G ρ G' o ra1 rd1 sp st hts FG hC a1 ro_r a2 a3 _ m (t + 100 * (2000 - st) + 100 + (m - p)) a4 o_le_r (by omega) (by omega) hop (by omega) (by omega) d K (t + 1) hd (by omega) (by omega) (fun he ρ' G2 t' hN => c1 he ρ' G2 cn t' hN) (fun he o2 ρ' G2 cn' top' t' hX => c2 he o2 ρ' G2 cn' top' t' hX)
    · intro f bg vc li LC ci CA tr hm Q hQ hQn hb1 hb2 D KK hD hk
      obtain ⟨D, rfl⟩ : ∃ x, D = x + 4 := ⟨D - 4, by omega⟩
      refine ⟨fun _ => mod f bg vc li LC ci CA tr hm D KK (by omega) (fun _ f1 a1 a2 a3 => z_bt (by rw [a3.1, h33]) ?_) (fun q => absurd rfl q), fun q => absurd q (by decide), fun q => absurd q (by decide)⟩
      obtain ⟨b1, b2⟩ := MM_fe (y := nI 320) a1 (pX_10 hx)
      rw [a3.2.1, a3.2.2.2.2.1 h33]
      exact j3 _ bg vc li LC ci CA tr b1 (by omega) (by omega) (D + 2) _ (by omega) (fun f2 fe t1 t2 => z_bt rfl (hk f2 vc _ t1 (mF_t (mF_t a2 b2) t2) (by omega)))
end ZQ
