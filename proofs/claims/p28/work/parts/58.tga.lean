/-! TAGS ARE READ: all of them -/
section TA
variable {w : Nat → Nat} {n : Nat}
/-- the new node of a tag, and the reader behind its sign -/
def tg_N (G : mj_G) (rd : Nat) (w : Nat → Nat) (p : Nat) : mj_G := nd_N (mj_pI G rd 4 (nI (p + 1))) (nI (w (p + 1))) (mj_i G rd 2) (nI p)
def tg_H (G : mj_G) (rd T : Nat) (w : Nat → Nat) (p t : Nat) : mj_G := mj_pI (mj_pI (tg_N G rd w p) rd 4 (nI (p + 2))) T 2 (nI (t + 1))
theorem tgN_k {G : mj_G} {rd p : Nat} : mj_k (tg_N G rd w p) (mj_n G) = 6 := nd_k (G := mj_pI G rd 4 (nI (p + 1)))
theorem tgN_kn {G : mj_G} {rd p a : Nat} (h : a ≠ mj_n G) : mj_k (tg_N G rd w p) a = mj_k G a := (nd_kn (G := mj_pI G rd 4 (nI (p + 1))) h).trans z_kIa
theorem tgN_in {G : mj_G} {rd p a j : Nat} (h : a ≠ mj_n G) : mj_i (tg_N G rd w p) a j = mj_i (mj_pI G rd 4 (nI (p + 1))) a j := nd_in (G := mj_pI G rd 4 (nI (p + 1))) h
theorem tgN_rn {G : mj_G} {rd p a j : Nat} (h : a ≠ mj_n G) : mj_r (tg_N G rd w p) a j = mj_r G a j := (nd_rn (G := mj_pI G rd 4 (nI (p + 1))) h).trans z_rIa
theorem tgN_r {G : mj_G} {rd p j : Nat} : mj_r (tg_N G rd w p) (mj_n G) j = 0 := nd_r (G := mj_pI G rd 4 (nI (p + 1)))
theorem tgN_F {G : mj_G} {rd p : Nat} : fe_F rd G (tg_N G rd w p) := fe_trans (fe_pI (by decide)) nd_F
theorem tgN_S {G : mj_G} {rd p : Nat} (hS : cs_S G) : cs_S (tg_N G rd w p) := nd_S (cs_pI hS)
/-- what the class does behind the head -/
def tg_K (d rd N : Nat) (b x : Int32) (K : Nat → mj_G → Prop) (G : mj_G) : Prop := (mj_k G rd = 8) ∧ Rd_pass d rd (nI 125) G (fun G21 => (mj_k G21 rd = 8) ∧ Rd_failed d rd G21 (fun v24 G23 => mm_br (v24 = true) (K N G23) ((mj_k G23 rd = 8) ∧ Rd_note d rd N G23 (fun G26 => (mj_k G26 N = 6) ∧ mm_br ((mj_i G26 N 0) = (nI 35)) ((mj_k G26 rd = 8) ∧ Rd_readBodies d rd N (mj_i G26 N 3) x G26 (fun G31 => K N G31)) ((mj_k G26 rd = 8) ∧ Rd_readBodies d rd N b x G26 (fun G29 => K N G29))))))
theorem c_tag0 {d rd T B M dep p t : Nat} {hm b pa : Int32} {L : List (Nat × Nat)} {G : mj_G} {K : Nat → mj_G → Prop} (hS : cs_S G) (hC : rx_C G rd w n T B M hm) (hO : rd_O G rd p) (ht : tn_S G T B M w L t pa) (hd : 16 ≤ d) (hp : p < n) (hdep : dep ≤ p)
    (h0 : ¬ tx_T (w (p + 1)) → K (mj_n G) (mj_pI (tg_N G rd w p) rd 5 (nI (p + 1))))
    (h1 : tx_T (w (p + 1)) → Rd_readHead d rd (mj_n G) b (tg_H G rd T w p t) (tg_K d rd (mj_n G) b (nI (dep + 1)) K)) : Rd_readTag (d + 1) rd b (nI dep) G K := by
  have hR := hC.1
  have hn := hR.1.1
  have hw1 := tx_le hR.1 (p + 1)
  have hne : rd ≠ mj_n G := by have := hR.2.2.2.1; omega
  have hTn : T ≠ mj_n G := by have := hC.2.2.2.2.2.2.2.2.2.2.2.2.2.2.1; omega
  have hrT : rd ≠ T := z_kne hR.2.1 hC.2.2.2.1 (by decide)
  refine w_Rd_readTag hS (by omega) ⟨hR.2.1, ?_⟩
  rintro _ rfl
  rintro _ rfl
  rw [hO.1, z_add]
  have hRA : rd_R (mj_al (mj_pI G rd 4 (nI (p + 1))) 6 11 (fun _ => 0)) rd w n := fe_R hR (fe_trans (fe_pI (by decide)) fe_al)
  have hA4 : mj_i (mj_al (mj_pI G rd 4 (nI (p + 1))) 6 11 (fun _ => 0)) rd 4 = nI (p + 1) := (z_iAn (G := mj_pI G rd 4 (nI (p + 1))) hne).trans z_iIs
  have hA2 : mj_i (mj_al (mj_pI G rd 4 (nI (p + 1))) 6 11 (fun _ => 0)) rd 2 = mj_i G rd 2 := (z_iAn (G := mj_pI G rd 4 (nI (p + 1))) hne).trans (z_iIm (by decide))
  refine ⟨hRA.2.1, ?_⟩
  rw [hA4]
  refine c_sign (cs_al (cs_pI hS)) hRA (by omega) ⟨hRA.2.1, z_kAs, ?_⟩
  rw [hA2]
  have hRB : rd_R (tg_N G rd w p) rd w n := fe_R hR tgN_F
  have hB4 : mj_i (tg_N G rd w p) rd 4 = nI (p + 1) := (tgN_in hne).trans z_iIs
  have hB5 : mj_i (tg_N G rd w p) rd 5 = Int32.ofInt (-1) := (tgN_in hne).trans ((z_iIm (by decide)).trans hO.2)
  have hSB : cs_S (tg_N G rd w p) := tgN_S hS
  refine c_newNd (G := mj_pI G rd 4 (nI (p + 1))) (cs_pI hS) ?_
  have go : (mj_k (tg_N G rd w p) rd = 8) ∧ Rd_sign d rd (mj_i (tg_N G rd w p) rd 4) (tg_N G rd w p) (fun v12 G11 => mm_br (qb (q_7012 v12) = true) (mm_br (nI dep < (nI 90)) ((mj_k G11 rd = 8) ∧ ∀ G16, G16 = mj_pI G11 rd 4 ((mj_i G11 rd 4) + (nI 1)) → (mj_k G16 (mj_r G16 rd 3) = 11) ∧ ∀ G18, G18 = mj_pI G16 (mj_r G16 rd 3) 2 ((mj_i G16 (mj_r G16 rd 3) 2) + (nI 1)) → Rd_readHead d rd (mj_n G) b G18 (tg_K d rd (mj_n G) b (nI dep + nI 1) K)) ((mj_k G11 rd = 8) ∧ Rd_reject d rd G11 (fun G33 => K (mj_n G) G33))) ((mj_k G11 rd = 8) ∧ Rd_reject d rd G11 (fun G14 => K (mj_n G) G14))) := by
    refine ⟨hRB.2.1, ?_⟩
    rw [hB4]
    refine c_sign hSB hRB (by omega) ?_
    rw [z_7012 (by omega)]
    refine z_br (fun hT => z_bt (by rw [z_lt (by omega) (by omega)]; omega) ⟨hRB.2.1, ?_⟩) (fun hT => ⟨hRB.2.1, c_reject hSB hRB ⟨hB4, hB5⟩ (h0 hT)⟩)
    rintro _ rfl
    rw [hB4, z_add]
    have hT3 : mj_r (mj_pI (tg_N G rd w p) rd 4 (nI (p + 1 + 1))) rd 3 = T := z_rIa.trans ((tgN_rn hne).trans hC.2.1)
    rw [hT3]
    refine ⟨z_kIa.trans ((tgN_kn hTn).trans hC.2.2.2.1), ?_⟩
    rintro _ rfl
    have hT2 : mj_i (mj_pI (tg_N G rd w p) rd 4 (nI (p + 1 + 1))) T 2 = nI t := (z_iIn (Ne.symm hrT)).trans ((tgN_in hTn).trans ((z_iIn (Ne.symm hrT)).trans ht.2.1))
    rw [hT2, z_add, z_add]
    exact h1 hT
  exact go
/-- the class at a tag with a head: where it fails, where its bodies begin -/
theorem jt_cls {d rd T B M dep p t : Nat} {hm b pa : Int32} {L : List (Nat × Nat)} {G : mj_G} {K : Nat → mj_G → Prop} {res : Nat ⊕ Nat} (hd : 4 * n + 80 ≤ d) (hS : cs_S G) (hC : rx_C G rd w n T B M hm) (hO : rd_O G rd p) (hp : p < n) (hdep : dep ≤ p) (h123 : w p = 123) (hnz : ∀ x, x ∈ L → x.2 ≠ 0) (ht : tn_S G T B M w L t pa)
    (hTx : tx_T (w (p + 1))) (hok : rd_okP n (p + 2) res) (hH : jh_C w n p res)
    (hF : ∀ e G', (res = .inr e ∨ (res = .inl e ∧ ¬ w e = 125)) → cs_S G' → tg_F G G' rd w n T B M hm (mj_n G) p e → K (mj_n G) G')
    (hG : ∀ e G', res = .inl e → w e = 125 → cs_S G' → tg_S G G' rd w n T B M hm b (mj_n G) p e (e + 1) (L ++ [(p, mj_n G)]) (t + 1) pa → mj_r G' (mj_n G) 8 = 0 → mj_r G' (mj_n G) 9 = 0 → Rd_readBodies (d + 1) rd (mj_n G) (if w (p + 1) = 35 then mj_i G' (mj_n G) 3 else b) (nI (dep + 1)) G' (fun G2 => K (mj_n G) G2)) : Rd_readTag (d + 2) rd b (nI dep) G K := by
  have hR := hC.1
  have hn := hR.1.1
  have hw1 := tx_le hR.1 (p + 1)
  have hrn := hR.2.2.2.1
  have hr1 := hR.2.2.1
  have hC0 := hC
  obtain ⟨-, -, hc2, hc3, -, -, hc6, hc7, -, -, hcBM, hT0, hB0, hM0, hTn, hBn, hMn⟩ := hC0
  have hrT : rd ≠ T := z_kne hR.2.1 hc3 (by decide)
  have hS0 := hS.1
  refine c_tag0 (d := d + 1) hS hC hO ht (by omega) hp hdep (fun h => absurd hTx h) (fun _ => ?_)
  have F0 : rb_F rd T B M (mj_n G) 10 G (tg_H G rd T w p t) := rb_trans (rb_of_fe (fe_trans tgN_F (fe_pI (by decide)))) rb_T
  have C0 : rx_C (tg_H G rd T w p t) rd w n T B M hm := rx_K hC F0 (Or.inr (Nat.le_refl _))
  have hSH : cs_S (tg_H G rd T w p t) := cs_pI (cs_pI (tgN_S hS))
  have nN : mj_n (tg_H G rd T w p t) = mj_n G + 1 := rfl
  have uN : mj_u (tg_H G rd T w p t) = mj_u G + 11 := rfl
  have iN : ∀ j, mj_i (tg_H G rd T w p t) (mj_n G) j = mj_i (tg_N G rd w p) (mj_n G) j := fun j => (z_iIn (by omega)).trans (z_iIn (by omega))
  have kN : mj_k (tg_H G rd T w p t) (mj_n G) = 6 := z_kIa.trans (z_kIa.trans tgN_k)
  have i0 : mj_i (tg_H G rd T w p t) (mj_n G) 0 = nI (w (p + 1)) := (iN 0).trans (nd_i0 (G := mj_pI G rd 4 (nI (p + 1))))
  have i1 : mj_i (tg_H G rd T w p t) (mj_n G) 1 = hm := ((iN 1).trans (nd_i1 (G := mj_pI G rd 4 (nI (p + 1))))).trans hc2
  have i2 : mj_i (tg_H G rd T w p t) (mj_n G) 2 = nI p := (iN 2).trans (nd_i2 (G := mj_pI G rd 4 (nI (p + 1))))
  have i3 : mj_i (tg_H G rd T w p t) (mj_n G) 3 = Int32.ofInt (-1) := (iN 3).trans (nd_i3 (G := mj_pI G rd 4 (nI (p + 1))))
  have i4 : mj_i (tg_H G rd T w p t) (mj_n G) 4 = Int32.ofInt (-1) := (iN 4).trans (nd_i4 (G := mj_pI G rd 4 (nI (p + 1))))
  have rN : ∀ j, mj_r (tg_H G rd T w p t) (mj_n G) j = 0 := fun j => z_rIa.trans (z_rIa.trans tgN_r)
  have hO0 : rd_O (tg_H G rd T w p t) rd (p + 2) := ⟨(z_iIn hrT).trans z_iIs, (z_iIn hrT).trans ((z_iIm (by decide)).trans ((tgN_in (by omega)).trans ((z_iIm (by decide)).trans hO.2)))⟩
  have ht0 : tn_S (tg_H G rd T w p t) T B M w L (t + 1) pa := by
    obtain ⟨t1, t2, t3, t4, t5⟩ := ht
    have iT : ∀ j, j ≠ 2 → mj_i (tg_H G rd T w p t) T j = mj_i G T j := fun j hj => (z_iIm hj).trans ((z_iIn (Ne.symm hrT)).trans ((tgN_in (by omega)).trans (z_iIn (Ne.symm hrT))))
    exact ⟨(iT 1 (by decide)).trans t1, z_iIs, fun i hi => by rw [iT 3 (by decide)]; exact t3 i hi, fun d hd => z_rIa.trans (z_rIa.trans ((tgN_rn (by omega)).trans (t4 d hd))), fun d hd => z_rIa.trans (z_rIa.trans ((tgN_rn (by omega)).trans (t5 d hd)))⟩
  refine hH d (tg_H G rd T w p t) rd (mj_n G) b _ (by omega) hSH C0.1 hO0 ⟨kN, by omega, by omega, i0, i3, i4, rN⟩ (fun G1 hS1 hX => ?_)
  -- what the head leaves as it was
  have rest : hn_F rd (mj_n G) (tg_H G rd T w p t) G1 → rb_F rd T B M (mj_n G) 10 G G1 ∧ mj_k G1 (mj_n G) = 6 ∧ tn_S G1 T B M w L (t + 1) pa ∧ rx_C G1 rd w n T B M hm := fun x1 => by
    have f1 : rb_F rd T B M (mj_n G) 10 G G1 := by
      refine ⟨by have := x1.1; omega, fun a ha => ?_⟩
      obtain ⟨a1, a2, a3, a4⟩ := F0.2 a ha
      obtain ⟨b1, b2, b3, b4⟩ := x1.2 a (by omega)
      exact ⟨b1.trans a1, b2.trans a2, fun j h h' h'' => (b3 j (fun q => by have := q.1; omega)).trans (a3 j h h' h''), fun j h h' => (b4 j h (fun q => by have := q.1; omega)).trans (a4 j h h')⟩
    obtain ⟨-, -, -, bT⟩ := x1.2 T (by omega)
    obtain ⟨-, -, bB, -⟩ := x1.2 B (by omega)
    obtain ⟨-, -, bM, -⟩ := x1.2 M (by omega)
    exact ⟨f1, (x1.2 _ (by omega)).1.trans kN, tn_K ht0 (fun j => bT j (fun q => hrT q.1.symm) (fun q => by have := q.1; omega)) (fun j => bB j (fun q => by have := q.1; omega)) (fun j => bM j (fun q => by have := q.1; omega)), rx_K hC f1 (Or.inr (Nat.le_refl _))⟩
  cases res with
  | inr e =>
    obtain ⟨x1, x2, x3, x4⟩ := hX
    obtain ⟨f1, f2, f3, f4⟩ := rest x1
    have he : e ≤ 80 := by have := hok.2; omega
    have hle := x1.1
    refine ⟨f4.1.2.1, c_passF hS1 f4.1 x2 he (by omega) ⟨f4.1.2.1, c_failedF hS1 f4.1 x2 he (z_bt rfl (hF e G1 (Or.inl rfl) hS1 ⟨f4, f1, rfl, by omega, by omega, f2, x2, by omega, by omega⟩))⟩⟩
  | inl e =>
    obtain ⟨x1, x2, x5, x3, x4⟩ := hX
    obtain ⟨f1, f2, f3, f4⟩ := rest x1
    have he : e ≤ n := hok.2
    have hpe : p + 2 ≤ e := hok.1
    have hle := x1.1
    refine ⟨f4.1.2.1, c_pass hS1 f4.1 x2 (by omega) (by omega) (by decide) (fun h125 => ?_) (fun h125 => ?_)⟩
    · have C2 : rx_C (mj_pI G1 rd 4 (nI (e + 1))) rd w n T B M hm := rx_K f4 (rb_rd (y := 0) (by decide)) (Or.inl f2)
      have hO2 := rd_O4 (q := e + 1) x2
      refine ⟨C2.1.2.1, c_failed (cs_pI hS1) C2.1 hO2 (z_bf (by decide) ⟨C2.1.2.1, ?_⟩)⟩
      obtain ⟨b1, b2, b3, b4⟩ := x1.2 (mj_n G) (by omega)
      have I : ∀ j, ¬ (j = 3 ∨ j = 4) → mj_i (mj_pI G1 rd 4 (nI (e + 1))) (mj_n G) j = mj_i (tg_H G rd T w p t) (mj_n G) j := fun j hj => (z_iIn (by omega)).trans (b4 j (fun q => by have := q.1; omega) (fun q => hj q.2))
      have hH2 : tb_h (fe_I (mj_n G + 1) (mj_n G1)) (mj_pI G1 rd 4 (nI (e + 1))) (mj_n G) b w p e := tb_h_mono w (A := fe_I (mj_n G + 1) (mj_n G1)) (G := G1) (fun a ha => ha) (fun a ha => ⟨rfl, rfl, fun j => rfl, fun j => z_iIn (by have := ha.1; omega)⟩) rfl rfl (z_iIn (by omega)) (z_iIn (by omega)) x5
      refine c_note (cs_pI hS1) C2 f2 ((I 0 (by decide)).trans i0) hH2 hnz (tn_K f3 (fun j => z_iIn (by omega)) (fun j => rfl) (fun j => rfl)) (fun G2 hS2 hX2 => ?_)
      obtain ⟨y1, y2, y3, y4, y5⟩ := hX2
      obtain ⟨d1, d2, d3, d4⟩ := (y1 (mj_n G1) 10).2 (mj_n G) (by show mj_n G < mj_n G1; omega)
      have k2 : mj_k G2 (mj_n G) = 6 := d1.trans f2
      have y2' : mj_n G2 = mj_n G1 := y2
      have y3' : mj_u G2 = mj_u G1 := y3
      have J : ∀ j, mj_i G2 (mj_n G) j = mj_i (mj_pI G1 rd 4 (nI (e + 1))) (mj_n G) j := fun j => d4 j (fun q => by have := q.1; omega) (by omega)
      have R2 : ∀ j, mj_r G2 (mj_n G) j = mj_r G1 (mj_n G) j := fun j => d3 j (fun q => by have := q.1; omega) (by omega) (by omega)
      have R1 : ∀ j, ¬ (j = 6 ∨ j = 7) → mj_r G2 (mj_n G) j = 0 := fun j hj => (R2 j).trans ((b3 j (fun q => hj q.2)).trans (rN j))
      have C3 : rx_C G2 rd w n T B M hm := rx_K C2 (y1 (mj_n G1) 10) (Or.inr (Nat.le_refl _))
      refine ⟨k2, ?_⟩
      have hS3 : tg_S G G2 rd w n T B M hm b (mj_n G) p e (e + 1) (L ++ [(p, mj_n G)]) (t + 1) pa := by
        refine ⟨C3, ⟨(y4 4).trans hO2.1, (y4 5).trans hO2.2⟩, rb_trans f1 (rb_trans (rb_rd (by decide)) (y1 _ _)), rfl, by omega, by omega, ⟨by omega, by omega, by omega, by omega⟩, k2, (J 0).trans ((I 0 (by decide)).trans i0), (J 1).trans ((I 1 (by decide)).trans i1), (J 2).trans ((I 2 (by decide)).trans i2), R1 10 (by decide), ?_, y5, ?_, by omega, by omega⟩
        · refine tb_h_mono w (A := fe_I (mj_n G + 1) (mj_n G1)) (G := mj_pI G1 rd 4 (nI (e + 1))) (fun a ha => ⟨ha.1, by have := ha.2; omega⟩) (fun a ha => ?_) (R2 6) (R2 7) (J 3) (J 4) hH2
          obtain ⟨e1, e2, e3, e4⟩ := (y1 (mj_n G1) 10).2 a ha.2
          have ha1 := ha.1
          exact ⟨e1, e2, fun j => e3 j (fun q => by have := q.1; have := ha.2; omega) (by omega) (by omega), fun j => e4 j (fun q => by have := q.1; omega) (by omega)⟩
        · intro y hy
          rcases List.mem_append.mp hy with hy | hy
          · exact hnz y hy
          · rw [List.mem_singleton] at hy
            rw [hy]
            show mj_n G ≠ 0
            omega
      have hb := hG e G2 rfl h125 hS2 hS3 (R1 8 (by decide)) (R1 9 (by decide))
      have e35 : (mj_i G2 (mj_n G) 0 = nI 35) = (w (p + 1) = 35) := by rw [J 0, I 0 (by decide), i0, z_eq (by omega) (by omega)]
      rw [e35]
      refine z_br (fun q => ⟨C3.1.2.1, ?_⟩) (fun q => ⟨C3.1.2.1, ?_⟩)
      · rw [if_pos q] at hb
        exact hb
      · rw [if_neg q] at hb
        exact hb
    · have C2 : rx_C (mj_pI G1 rd 5 (nI e)) rd w n T B M hm := rx_K f4 (rb_rd (y := 0) (by decide)) (Or.inl f2)
      have h5 : mj_i (mj_pI G1 rd 5 (nI e)) rd 5 = nI e := z_iIs
      refine ⟨C2.1.2.1, c_failedF (cs_pI hS1) C2.1 h5 (by omega) (z_bt rfl (hF e _ (Or.inr ⟨rfl, h125⟩) (cs_pI hS1) ⟨C2, rb_trans f1 (rb_rd (by decide)), rfl, by show mj_n G < mj_n G1; omega, by omega, f2, h5, by show mj_n G1 + _ ≤ _; omega, by show mj_u G1 + _ + _ ≤ _ + 11 * mj_n G1 + _; omega⟩))⟩
/-- the class's ways through the bodies, by the tag's sign -/
theorem c_bodies {d rd N c : Nat} {b x : Int32} {G : mj_G} {K : mj_G → Prop} (hS : cs_S G) (hr : mj_k G rd = 8) (hk : mj_k G N = 6) (h0 : mj_i G N 0 = nI c) (hc : c ≤ 126)
    (h1 : c = 35 ∨ c = 36 ∨ c = 38 ∨ c = 107 → Rd_readBody d rd (nI 1) b x G (fun v G3 => (mj_k G3 N = 6) ∧ ∀ G6, G6 = mj_pR G3 N 8 v → (mj_k G6 rd = 8) ∧ Rd_leave d rd G6 (fun _ G8 => K G8)))
    (h2 : c = 42 ∨ c = 63 → Rd_readBody d rd (nI 3) b x G (fun v G3 => (mj_k G3 N = 6) ∧ ∀ G6, G6 = mj_pR G3 N 8 v → (mj_k G6 rd = 8) ∧ Rd_leave d rd G6 (fun v9 G8 => mm_br (v9 = nI 58) ((mj_k G8 rd = 8) ∧ Rd_readBody d rd (nI 1) b x G8 (fun v G3 => (mj_k G3 N = 6) ∧ ∀ G6, G6 = mj_pR G3 N 9 v → (mj_k G6 rd = 8) ∧ Rd_leave d rd G6 (fun _ G8 => K G8))) (K G8))))
    (h3 : c = 43 → Rd_readBody d rd (nI 2) b x G (fun v G3 => (mj_k G3 N = 6) ∧ ∀ G6, G6 = mj_pR G3 N 8 v → (mj_k G6 rd = 8) ∧ Rd_leave d rd G6 (fun _ G8 => (mj_k G8 rd = 8) ∧ Rd_readBody d rd (nI 1) b x G8 (fun v G3 => (mj_k G3 N = 6) ∧ ∀ G6, G6 = mj_pR G3 N 9 v → (mj_k G6 rd = 8) ∧ Rd_leave d rd G6 (fun _ G8 => K G8)))))
    (h4 : ¬ tx_B c → K G) : Rd_readBodies (d + 1) rd N b x G K := by
  refine w_Rd_readBodies hS ⟨hk, ?_⟩
  have e : ∀ {x : Nat}, x ≤ 126 → (mj_i G N 0 = nI x) = (c = x) := fun hx => by rw [h0, z_eq (by omega) (by omega)]
  rw [e (by decide), e (by decide), e (by decide), e (by decide), e (by decide), e (by decide), e (by decide)]
  refine z_br (fun q => ⟨hr, h1 (by omega)⟩) (fun _ => ?_)
  refine z_br (fun q => ⟨hr, h1 (by omega)⟩) (fun _ => ?_)
  refine z_br (fun q => ⟨hr, h1 (by omega)⟩) (fun _ => ?_)
  refine z_br (fun q => ⟨hr, h2 (by omega)⟩) (fun _ => ?_)
  refine z_br (fun q => ⟨hr, h3 q⟩) (fun _ => ?_)
  refine z_br (fun q => ⟨hr, h2 (by omega)⟩) (fun _ => ?_)
  refine z_br (fun q => ⟨hr, h1 (by omega)⟩) (fun _ => ?_)
  refine h4 ?_
  unfold tx_B
  omega
/-- how a tag's last body ends it -/
def rd_cl (w : Nat → Nat) : Nat ⊕ Nat → Nat ⊕ Nat
  | .inl q => if w (q + 2) = 125 then .inl (q + 3) else .inr (q + 2)
  | .inr e => .inr e
theorem rd_cl_ce {res : Nat ⊕ Nat} (h : (∃ q, res = .inl q ∧ ¬ w (q + 2) = 125) ∨ (∃ e, res = .inr e)) : rd_cl w res = .inr (rd_ce w res) := by
  rcases h with ⟨q, rfl, h⟩ | ⟨e, rfl⟩
  · exact if_neg h
  · rfl
theorem jm_closed {k s d : Nat} {res : Nat ⊕ Nat} {G : mj_G} {f : mm_F} {K : Bool → mm_F → Prop} (hS : mm_S G) (hT : pt_T f w n) (hd : 4 * k + 4 * n + 90 ≤ d) (hend : ∀ q, res = .inl q → jb_end w n 1 q) (hM : jb_M w n k s 1 res)
    (h : K (rd_cl w res).isLeft (pt_a f (rd_q (rd_cl w res)))) : m_takesClosed G (d + 1) (pt_a f s) K := by
  refine w_m_takesClosed hS ?_
  refine hM d G f _ hd hS hT ?_
  cases res with
  | inl q =>
    have h59 : w (q + 1) = 59 := by
      rcases hend q rfl with ⟨h, -⟩ | ⟨-, h | h⟩
      · exact absurd h (by decide)
      · exact h.1
      · exact absurd h.2 (by decide)
    refine ⟨fun h => absurd h (by decide), fun _ => ⟨fun h125 => ?_, fun h125 => ?_⟩⟩
    · rw [if_pos h59]
      rw [show rd_cl w (.inl q) = .inl (q + 3) from if_pos h125] at h
      exact z_bt rfl h
    · rw [show rd_cl w (.inl q) = .inr (q + 2) from if_neg h125] at h
      exact z_bf (by decide) h
  | inr e =>
    intro v hv
    refine z_bf ?_ h
    rcases hv with rfl | ⟨rfl, -⟩ <;> decide
end TA
