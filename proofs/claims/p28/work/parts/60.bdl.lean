/-! BODIES ARE READ: from node to node -/
section BL
variable {w : Nat → Nat} {n : Nat}
/-- behind a node that was read -/
theorem jb_link {rd T B M dep p m t tn v : Nat} {hm b pa : Int32} {L L1 : List (Nat × Nat)} {G G1 : mj_G} {r1 r2 x d k E : Nat} {res : Nat ⊕ Nat} {K : Nat → mj_G → Prop} (hS1 : cs_S G1) (hd : 4 * k + 4 * n + 90 ≤ d) (hC : rx_C G rd w n T B M hm) (hl : rb_l G r1 r2 x) (hdep : dep ≤ m) (htn : tn + 1 ≤ m)
    (hv : v = mj_n G) (hF : rb_F rd T B M (mj_n G) 10 G G1) (hlt : mj_n G < mj_n G1) (h1768 : 1768 ≤ mj_n G) (hO : rd_O G1 rd m) (hk : mj_k G1 v = 6) (h10 : mj_r G1 v 10 = 0) (hnz : ∀ x, x ∈ L ++ L1 → x.2 ≠ 0) (ht : tn_S G1 T B M w (L ++ L1) (t + L1.length) pa)
    (hu1 : mj_n G1 + 2 * p ≤ mj_n G + 2 * m) (hu2 : mj_u G1 + 11 * mj_n G + p ≤ mj_u G + 11 * mj_n G1 + m) (hok : rd_okP n m res)
    (hB : jb_C w n k m E res)
    (hJ : ∀ (G' : mj_G) (A : Nat → Prop) (L2 : List (Nat × Nat)) (q l : Nat), A v → (∀ a, fe_I (v + 1) (mj_n G1) a → A a) → sm_F (v + 1) (mj_n G1) G1 G' → mj_k G' v = mj_k G1 v → (∀ j, j ≠ 10 → mj_r G' v j = mj_r G1 v j) → (∀ j, mj_i G' v j = mj_i G1 v j) → tb_B l A G' hm b (mj_r G' v 10) w m q L2 → ∃ l', tb_B l' A G' hm b v w p q (L1 ++ L2))
    (hK : ∀ r G', cs_S G' → rb_X rd T B M w p hm b L t pa G r1 r2 x res r G' → K r G') :
    mm_br (r2 = 0) (Rd_readBody_40 d rd (nI E) b (nI dep) v v (nI tn + nI 1) G1 K) ((mj_k G1 r2 = 6) ∧ ∀ G31, G31 = mj_pR G1 r2 10 v → Rd_readBody_40 d rd (nI E) b (nI dep) r1 v (nI tn + nI 1) G31 K) := by
  subst hv
  have C1 : rx_C G1 rd w n T B M hm := rx_K hC hF (Or.inr (Nat.le_refl _))
  have hrn := hC.1.2.2.2.1
  obtain ⟨-, -, -, hc3, -, -, hc6, hc7, -, -, -, -, -, -, hTn, hBn, hMn⟩ := hC
  rw [z_add]
  -- what is common: from G2 on, which is G1 or G1 with the link
  have go : ∀ (G2 : mj_G) (rr : Nat), cs_S G2 → rx_C G2 rd w n T B M hm → rd_O G2 rd m → rb_F rd T B M x 10 G G2 → mj_n G2 = mj_n G1 → mj_u G2 = mj_u G1 → sm_F (mj_n G) (mj_n G1) G1 G2 → tn_S G2 T B M w (L ++ L1) (t + L1.length) pa → ((r2 = 0 ∧ rr = mj_n G) ∨ (r2 ≠ 0 ∧ rr = r1 ∧ mj_r G2 r2 10 = mj_n G ∧ r2 < mj_n G ∧ mj_k G2 r2 = 6)) →
      Rd_readBody_40 d rd (nI E) b (nI dep) rr (mj_n G) (nI (tn + 1)) G2 K := fun G2 rr hS2 C2 hO2 hF2 hn2 hu2' sm ht2 hrr => by
    have s0 := sm (mj_n G) ⟨Nat.le_refl _, hlt⟩
    refine hB d G2 rd T B M hm b dep (L ++ L1) (t + L1.length) pa rr (mj_n G) (mj_n G) (tn + 1) K hd hS2 C2 hO2 hdep htn (Or.inr ⟨by omega, rfl, s0.1.trans hk, by omega, h1768, (s0.2.2.1 10).trans h10⟩) hnz ht2 (fun r G' hS' hX => hK r G' hS' ?_)
    cases res with
    | inr e =>
      obtain ⟨x1, x2, x3, x4⟩ := hX
      exact ⟨rb_new hF2 x1 (Nat.le_refl _), x2, by omega, by omega⟩
    | inl q =>
      obtain ⟨x1, x2, x3, ⟨L2, l, x4, x5⟩, x6, x7⟩ := hX
      rw [if_neg (by omega)] at x4
      have hle := x1.1
      have hr : r = rr := x3 (by omega)
      have n0 : ∀ j, j ≠ 10 → mj_r G' (mj_n G) j = mj_r G2 (mj_n G) j := fun j hj => (x1.2 (mj_n G) (by omega)).2.2.1 j (fun q => hj q.2) (by omega) (by omega)
      have i0 : ∀ j, mj_i G' (mj_n G) j = mj_i G2 (mj_n G) j := fun j => (x1.2 (mj_n G) (by omega)).2.2.2 j (fun q => by have := q.1; omega) (by omega)
      have sm2 : sm_F (mj_n G + 1) (mj_n G1) G1 G' := fun a ha => by
        have ha1 := ha.1
        have ha2 := ha.2
        obtain ⟨e1, e2, e3, e4⟩ := sm a ⟨by omega, ha2⟩
        obtain ⟨g1, g2, g3, g4⟩ := x1.2 a (by omega)
        exact ⟨g1.trans e1, g2.trans e2, fun j => (g3 j (fun q => by have := q.1; omega) (by omega) (by omega)).trans (e3 j), fun j => (g4 j (fun q => by have := q.1; omega) (by omega)).trans (e4 j)⟩
      obtain ⟨l', hJ'⟩ := hJ G' (fe_I (mj_n G) (mj_n G')) L2 q l ⟨Nat.le_refl _, by omega⟩ (fun a ha => ⟨by have := ha.1; omega, by have := ha.2; omega⟩) sm2 ((x1.2 (mj_n G) (by omega)).1.trans s0.1) (fun j hj => (n0 j hj).trans (s0.2.2.1 j)) (fun j => (i0 j).trans (s0.2.2.2 j)) (tb_mono w (fun a ha => ⟨by have := ha.1; omega, ha.2⟩) (fun a _ => ⟨rfl, rfl, fun _ => rfl, fun _ => rfl⟩) (Nat.le_refl _) x4)
      have hd2 : (if r2 = 0 then r else mj_r G' r2 10) = mj_n G := by
        rcases hrr with ⟨g1, g2⟩ | ⟨g1, g2, g3, g4, g5⟩
        · rw [if_pos g1, hr, g2]
        · rw [if_neg g1]
          obtain ⟨-, -, y3, -⟩ := x1.2 r2 (by omega)
          exact (y3 10 (fun q => by have := q.1; omega) (z_kne g5 C2.2.2.2.2.2.2.1 (by decide)) (z_kne g5 C2.2.2.2.2.2.2.2.1 (by decide))).trans g3
      refine ⟨rb_new hF2 x1 (Nat.le_refl _), x2, fun h => ?_, ⟨L1 ++ L2, l', ?_, ?_⟩, by omega, by omega⟩
      · rcases hrr with ⟨g1, -⟩ | ⟨-, g2, -⟩
        · exact absurd g1 h
        · rw [hr, g2]
      · rw [hd2]; exact hJ'
      · rw [← List.append_assoc, List.length_append, ← Nat.add_assoc]
        exact x5
  rcases hl with ⟨g1, g2, g3⟩ | ⟨g1, g3, g4, g5, g5', g6⟩
  · refine z_bt g1 (go G1 _ hS1 C1 hO ?_ rfl rfl (fun a _ => ⟨rfl, rfl, fun _ => rfl, fun _ => rfl⟩) ht (Or.inl ⟨g1, rfl⟩))
    rw [g3]
    exact hF
  · have k2 : mj_k G1 r2 = 6 := (hF.2 r2 g5).1.trans g4
    have r2B : B ≠ r2 := Ne.symm (z_kne g4 hc6 (by decide))
    have r2M : M ≠ r2 := Ne.symm (z_kne g4 hc7 (by decide))
    refine z_bf g1 ⟨k2, ?_⟩
    rintro _ rfl
    refine go _ _ (cs_pRg hS1 g5') (rx_K C1 (rb_set (x := r2) (y := 10)) (Or.inl k2)) hO ?_ rfl rfl (fun a ha => ⟨rfl, rfl, fun j => z_rRn (by have := ha.1; omega), fun _ => rfl⟩) (tn_K ht (fun _ => rfl) (fun j => z_rRn r2B) (fun j => z_rRn r2M)) (Or.inr ⟨g1, rfl, z_rRs, g5, k2⟩)
    rw [g3]
    refine ⟨hF.1, fun a ha => ?_⟩
    obtain ⟨a1, a2, a3, a4⟩ := hF.2 a ha
    exact ⟨a1, a2, fun j h h' h'' => (if_neg h).trans (a3 j (fun q => by have := q.1; omega) h' h''), a4⟩
/-- behind a node with a fault -/
theorem jb_linkF {rd T B M e : Nat} {hm b : Int32} {G G1 : mj_G} {r1 r2 x d v : Nat} {E dep tn : Int32} {K : Nat → mj_G → Prop} (hS1 : cs_S G1) (hC : rx_C G rd w n T B M hm) (hl : rb_l G r1 r2 x) (x1 : rb_F rd T B M (mj_n G) 10 G G1) (x2 : mj_i G1 rd 5 = nI e) (he : e ≤ 80) (hd : 16 ≤ d)
    (hK : ∀ r G', cs_S G' → rb_F rd T B M x 10 G G' → mj_i G' rd 5 = nI e → mj_n G' = mj_n G1 → mj_u G' = mj_u G1 → K r G') :
    mm_br (r2 = 0) (Rd_readBody_40 d rd E b dep v v (tn + nI 1) G1 K) ((mj_k G1 r2 = 6) ∧ ∀ G31, G31 = mj_pR G1 r2 10 v → Rd_readBody_40 d rd E b dep r1 v (tn + nI 1) G31 K) := by
  have C1 : rx_C G1 rd w n T B M hm := rx_K hC x1 (Or.inr (Nat.le_refl _))
  rcases hl with ⟨g1, g2, g3⟩ | ⟨g1, g3, g4, g5, g5', g6⟩
  · refine z_bt g1 (c_loopF hS1 C1.1 x2 he hd (hK v G1 hS1 ?_ x2 rfl rfl))
    rw [g3]
    exact x1
  · have k2 : mj_k G1 r2 = 6 := (x1.2 r2 g5).1.trans g4
    refine z_bf g1 ⟨k2, ?_⟩
    rintro _ rfl
    have C2 : rx_C (mj_pR G1 r2 10 v) rd w n T B M hm := rx_K C1 (rb_set (x := r2) (y := 10)) (Or.inl k2)
    refine c_loopF (cs_pRg hS1 g5') C2.1 x2 he hd (hK r1 _ (cs_pRg hS1 g5') ?_ x2 rfl rfl)
    rw [g3]
    refine ⟨x1.1, fun a ha => ?_⟩
    obtain ⟨a1, a2, a3, a4⟩ := x1.2 a ha
    exact ⟨a1, a2, fun j h h' h'' => (if_neg h).trans (a3 j (fun q => by have := q.1; omega) h' h''), a4⟩
theorem c_readLiteral {d rd p : Nat} {G : mj_G} {K : Nat → mj_G → Prop} (hS : cs_S G) (hR : rd_R G rd w n) (hO : rd_O G rd p) (hp : p < n)
    (h1 : w p = 125 → K (mj_n G) (mj_pI (mj_pI (mj_pI (nd_N G (nI 1) (mj_i G rd 2) (nI p)) (mj_n G) 5 (nI (w p))) rd 5 (nI p)) rd 4 (nI (p + 1))))
    (h2 : ¬ w p = 125 → K (mj_n G) (mj_pI (mj_pI (nd_N G (nI 1) (mj_i G rd 2) (nI p)) (mj_n G) 5 (nI (w p))) rd 4 (nI (p + 1)))) : Rd_readLiteral (d + 1) rd G K := by
  have hn := hR.1.1
  have hw := tx_le hR.1 p
  have hne : rd ≠ mj_n G := by have := hR.2.2.2.1; omega
  refine w_Rd_readLiteral hS ?_
  rintro _ rfl
  refine ⟨(z_kAn hne).trans hR.2.1, ?_⟩
  rw [z_iAn hne, z_iAn hne, hO.1]
  have hRB : rd_R (nd_N G (nI 1) (mj_i G rd 2) (nI p)) rd w n := fe_R hR nd_F
  have hOB : rd_O (nd_N G (nI 1) (mj_i G rd 2) (nI p)) rd p := nd_O hO hne
  refine c_newNd hS ⟨hRB.2.1, ?_⟩
  rw [hOB.1]
  refine c_sign (nd_S hS) hRB (by omega) ⟨nd_k, z_cc (by omega), ?_⟩
  rintro _ rfl
  rw [z_iIs, z_eq (by omega) (by omega)]
  have hOC : rd_O (mj_pI (nd_N G (nI 1) (mj_i G rd 2) (nI p)) (mj_n G) 5 (nI (w p))) rd p := ⟨(z_iIn hne).trans hOB.1, (z_iIn hne).trans hOB.2⟩
  have hRC : rd_R (mj_pI (nd_N G (nI 1) (mj_i G rd 2) (nI p)) (mj_n G) 5 (nI (w p))) rd w n := fe_R hR (fe_nI nd_F (Nat.le_refl _))
  refine z_br (fun h => ⟨hRC.2.1, c_reject (cs_pI (nd_S hS)) hRC hOC ⟨z_kIa.trans hRC.2.1, ?_⟩⟩) (fun h => ⟨hRC.2.1, ?_⟩)
  · rintro _ rfl
    rw [z_iIm (by decide), hOC.1, z_add]
    exact h1 h
  · rintro _ rfl
    rw [hOC.1, z_add]
    exact h2 h
/-- the model at a character that goes on -/
theorem c_takesBody {p d : Nat} {x1 x2 : Int32} {G : mj_G} {f : mm_F} {K : Int32 → mm_F → Prop} (hS : mm_S G) (hW : tx_W w n) (hT : pt_T f w n) (hd : 1 ≤ d) (hp : p ≤ n) (h0 : n ≤ p → K (nI 1) (pt_a f p)) (h1 : w p = 125 → K (nI 0) (pt_a f p)) (h2 : p < n → ¬ w p = 125 → ¬ w p = 123 → m_takesBody G (d + 1) x1 x2 (pt_a f (p + 1)) K)
    (h3 : w p = 123 → p + 1 ≤ n → mm_br (x2 = (nI 0)) (m_takesBody_54 G (d + 1) x1 x2 (pt_a f (p + 1)) K) (m_next G d (pt_a f (p + 1)) (fun v8 f7 => mm_br (v8 = (nI 59)) (m_takesBody_67 G (d + 1) f7 K) (m_takesBody_54 G (d + 1) x1 x2 f7 K)))) : m_takesBody G (d + 1) x1 x2 (pt_a f p) K := by
  refine w_m_takesBody hS (c_next hS hW hT hp ?_)
  rw [tx_nxm hW]
  refine z_br h0 (fun hpn => c_next hS hW hT hp ?_)
  rw [tx_nxe hW (by decide)]
  refine z_br h1 (fun h125 => ?_)
  refine c_takes hS hW hT hd hp (by decide) (fun h => z_bt rfl (h3 h (by omega))) (fun h => z_bf (by decide) ?_)
  rw [pt_a3, z_add, pt_aa]
  exact h2 (by omega) h125 h
theorem c_takesBody67 {q d : Nat} {G : mj_G} {f : mm_F} {K : Int32 → mm_F → Prop} (hS : mm_S G) (hW : tx_W w n) (hT : pt_T f w n) (hd : 1 ≤ d) (hq : q + 2 ≤ n) (h58 : w (q + 1) = 59 ∨ w (q + 1) = 58)
    (h1 : w (q + 2) = 125 → K (nI (if w (q + 1) = 59 then 2 else 3)) (pt_a f (q + 3))) (h2 : ¬ w (q + 2) = 125 → K (nI 0) (pt_a f (q + 2))) : m_takesBody_67 G (d + 1) (pt_a f (q + 1)) K := by
  refine w_m_takesBody_67 hS (c_next hS hW hT (by omega) ?_)
  rw [tx_nxe hW (by decide), pt_a3, z_add, pt_aa]
  refine z_br (fun h => ?_) (fun h => ?_)
  · rw [if_pos h] at h1
    exact c_takes hS hW hT hd hq (by decide) (fun h => z_bt rfl (h1 h)) (fun h => z_bf (by decide) (h2 h))
  · rw [if_neg h] at h1
    exact c_takes hS hW hT hd hq (by decide) (fun h => z_bt rfl (h1 h)) (fun h => z_bf (by decide) (h2 h))
/-- the model at a tag -/
theorem c_takesBody54 {p d E : Nat} {G : mj_G} {f : mm_F} {K : Int32 → mm_F → Prop} (hS : mm_S G) (hW : tx_W w n) (hT : pt_T f w n) (hp : p + 1 ≤ n) (hE : E < 4)
    (h58 : w (p + 1) = 58 → 2 ≤ E → m_takesBody_67 G (d + 1) (pt_a f (p + 1)) K) (h : ¬ (w (p + 1) = 58 ∧ 2 ≤ E) → m_takesTag G d (pt_a f (p + 1)) (fun v15 f14 => mm_br (v15 = true) (m_takesBody G (d + 1) (nI (E / 2)) (nI (E % 2)) f14 K) (K (nI 0) f14))) : m_takesBody_54 G (d + 1) (nI (E / 2)) (nI (E % 2)) (pt_a f (p + 1)) K := by
  refine w_m_takesBody_54 hS ?_
  rw [z_eq (by omega) (by omega)]
  refine z_br (fun h0 => h (fun q => by omega)) (fun h0 => c_next hS hW hT hp ?_)
  rw [tx_nxe hW (by decide)]
  exact z_br (fun q => h58 q (by omega)) (fun q => h (fun q' => q q'.1))
theorem c_takesBodyT {p d E : Nat} {G : mj_G} {f : mm_F} {K : Int32 → mm_F → Prop} (hS : mm_S G) (hW : tx_W w n) (hT : pt_T f w n) (hp : p + 1 ≤ n) (hE : E < 4)
    (h59 : (w (p + 1) = 59 ∧ E % 2 = 1) ∨ (w (p + 1) = 58 ∧ 2 ≤ E) → m_takesBody_67 G (d + 1) (pt_a f (p + 1)) K) (h : ¬ ((w (p + 1) = 59 ∧ E % 2 = 1) ∨ (w (p + 1) = 58 ∧ 2 ≤ E)) → m_takesTag G d (pt_a f (p + 1)) (fun v15 f14 => mm_br (v15 = true) (m_takesBody G (d + 1) (nI (E / 2)) (nI (E % 2)) f14 K) (K (nI 0) f14))) :
    mm_br (nI (E % 2) = (nI 0)) (m_takesBody_54 G (d + 1) (nI (E / 2)) (nI (E % 2)) (pt_a f (p + 1)) K) (m_next G d (pt_a f (p + 1)) (fun v8 f7 => mm_br (v8 = (nI 59)) (m_takesBody_67 G (d + 1) f7 K) (m_takesBody_54 G (d + 1) (nI (E / 2)) (nI (E % 2)) f7 K))) := by
  rw [z_eq (by omega) (by omega)]
  refine z_br (fun h0 => c_takesBody54 hS hW hT hp hE (fun a b => h59 (Or.inr ⟨a, b⟩)) (fun q => h (by omega))) (fun h0 => c_next hS hW hT hp ?_)
  rw [tx_nxe hW (by decide)]
  exact z_br (fun q => h59 (Or.inl ⟨q, by omega⟩)) (fun q' => c_takesBody54 hS hW hT hp hE (fun a b => h59 (Or.inr ⟨a, b⟩)) (fun q => h (by omega)))
theorem jb_all (hW : tx_W w n) : ∀ k, jb_B w n k := by
  intro k
  induction k using Nat.strongRecOn with
  | _ k ih =>
  intro p E hE hp hk
  have hn := hW.1
  have hwp := tx_le hW p
  have hwp1 := tx_le hW (p + 1)
  -- the class up to its cases
  have cls : ∀ d G rd T B M hm b dep r1 r2 tn K, 16 ≤ d → cs_S G → rx_C G rd w n T B M hm → rd_O G rd p → tn ≤ p →
      (n ≤ p → mm_br (nI E = (nI 0)) (K r1 G) (Rd_reject d rd G (fun G18 => K r1 G18))) →
      (p < n → w p = 123 → ((w (p + 1) = 59 ∧ E % 2 = 1) ∨ (w (p + 1) = 58 ∧ 2 ≤ E)) → K r1 G) →
      (p < n → w p = 123 → ¬ ((w (p + 1) = 59 ∧ E % 2 = 1) ∨ (w (p + 1) = 58 ∧ 2 ≤ E)) → Rd_readTag d rd b (nI dep) G (fun v29 G28 => mm_br (r2 = 0) (Rd_readBody_40 (d + 1) rd (nI E) b (nI dep) v29 v29 (nI tn + nI 1) G28 K) ((mj_k G28 r2 = 6) ∧ ∀ G31, G31 = mj_pR G28 r2 10 v29 → Rd_readBody_40 (d + 1) rd (nI E) b (nI dep) r1 v29 (nI tn + nI 1) G31 K))) →
      (p < n → ¬ w p = 123 → Rd_readLiteral d rd G (fun v29 G28 => mm_br (r2 = 0) (Rd_readBody_40 (d + 1) rd (nI E) b (nI dep) v29 v29 (nI tn + nI 1) G28 K) ((mj_k G28 r2 = 6) ∧ ∀ G31, G31 = mj_pR G28 r2 10 v29 → Rd_readBody_40 (d + 1) rd (nI E) b (nI dep) r1 v29 (nI tn + nI 1) G31 K))) →
      Rd_readBody_40 (d + 1) rd (nI E) b (nI dep) r1 r2 (nI tn) G K := fun d G rd T B M hm b dep r1 r2 tn K hd hS hC hO htn k1 k2 k3 k4 => by
    have hR := hC.1
    refine w_Rd_readBody_40 hS (by omega) ⟨hR.2.1, ?_⟩
    rw [hR.2.2.2.2.2.1, z_lt (by omega) (by omega)]
    refine z_bf (by omega) (c_failed hS hR hO (z_bf (by decide) ⟨hR.2.1, ?_⟩))
    rw [hR.2.2.2.2.2.1, hO.1, z_lt (by omega) (by omega)]
    have l111 : p < n → ¬ (w p = 123 ∧ ((w (p + 1) = 59 ∧ E % 2 = 1) ∨ (w (p + 1) = 58 ∧ 2 ≤ E))) → Rd_readBody_111 (d + 1) rd (nI E) b (nI dep) r1 r2 (nI tn) G K := fun hpn hne => by
      refine w_Rd_readBody_111 hS ⟨hR.2.1, ?_⟩
      rw [hO.1]
      refine c_sign hS hR (by omega) ?_
      rw [z_eq (by omega) (by omega)]
      exact z_br (fun h => ⟨hR.2.1, k3 hpn h (fun q => hne ⟨h, q⟩)⟩) (fun h => ⟨hR.2.1, k4 hpn h⟩)
    refine z_br (fun hpn => c_sign hS hR (by omega) ?_) (fun hpn => k1 (by omega))
    rw [z_eq (by omega) (by omega)]
    refine z_br (fun h123 => ⟨hR.2.1, ?_⟩) (fun h123 => l111 hpn (fun q => h123 q.1))
    rw [hO.1, z_add]
    refine c_sign hS hR (by omega) ?_
    rw [z_7007 (by omega) hE]
    exact z_br (fun q => k2 hpn h123 q) (fun q => l111 hpn (fun q' => q q'.2))
  by_cases hpn : n ≤ p
  · have hpe : p = n := by omega
    subst hpe
    by_cases hE0 : E = 0
    · subst hE0
      refine ⟨.inl p, ⟨Nat.le_refl _, Nat.le_refl _⟩, fun q h => by cases h; exact Or.inl ⟨rfl, rfl⟩, fun d G rd T B M hm b dep L t pa r1 r2 x tn K hd hS hC hO hdep htn hl hnz ht hK => ?_, fun d G f K hd hS hT hK => ?_⟩
      · obtain ⟨d, rfl⟩ : ∃ e, d = e + 1 := ⟨d - 1, by omega⟩
        refine cls d G rd T B M hm b dep r1 r2 tn K (by omega) hS hC hO htn (fun _ => z_bt rfl ?_) (fun h => absurd h (by omega)) (fun h => absurd h (by omega)) (fun h => absurd h (by omega))
        refine hK r1 G hS ⟨rb_rfl, hO, fun _ => rfl, ⟨[], 1, Or.inl ⟨?_, rfl, rfl⟩, ?_⟩, Nat.le_refl _, Nat.le_refl _⟩
        · rcases hl with ⟨g1, g2, -⟩ | ⟨g1, -, -, -, -, g2⟩
          · rw [if_pos g1]; exact g2
          · rw [if_neg g1]; exact g2
        · rw [List.append_nil]; exact ht
      · obtain ⟨d, rfl⟩ : ∃ e, d = e + 1 := ⟨d - 1, by omega⟩
        refine c_takesBody hS hW hT (by omega) hp (fun _ => hK.1 rfl) (fun h => absurd (hW.2.2 p hpn) (by omega)) (fun h => absurd h (by omega)) (fun h => absurd (hW.2.2 p hpn) (by omega))
    · refine ⟨.inr p, ⟨Nat.le_refl _, Nat.le_refl _⟩, fun q h => (by cases h), fun d G rd T B M hm b dep L t pa r1 r2 x tn K hd hS hC hO hdep htn hl hnz ht hK => ?_, fun d G f K hd hS hT hK => ?_⟩
      · obtain ⟨d, rfl⟩ : ∃ e, d = e + 1 := ⟨d - 1, by omega⟩
        refine cls d G rd T B M hm b dep r1 r2 tn K (by omega) hS hC hO htn (fun _ => z_bf (by rw [z_eq (by omega) (by omega)]; exact hE0) (c_reject hS hC.1 hO ?_)) (fun h => absurd h (by omega)) (fun h => absurd h (by omega)) (fun h => absurd h (by omega))
        exact hK r1 _ (cs_pI hS) ⟨rb_rd (by decide), z_iIs, by show mj_n G + _ ≤ _; omega, by show mj_u G + _ + _ ≤ _ + 11 * mj_n G + _; omega⟩
      · obtain ⟨d, rfl⟩ : ∃ e, d = e + 1 := ⟨d - 1, by omega⟩
        refine c_takesBody hS hW hT (by omega) hp (fun _ => hK 1 (Or.inr ⟨rfl, hE0⟩)) (fun h => absurd (hW.2.2 p hpn) (by omega)) (fun h => absurd h (by omega)) (fun h => absurd (hW.2.2 p hpn) (by omega))
  have hpn : p < n := by omega
  by_cases h123 : w p = 123
  · by_cases hend : (w (p + 1) = 59 ∧ E % 2 = 1) ∨ (w (p + 1) = 58 ∧ 2 ≤ E)
    · -- an end
      have hp2 : p + 2 ≤ n := tx_in hW (k := p + 1) (by omega)
      refine ⟨.inl p, ⟨Nat.le_refl _, hp⟩, fun q h => by cases h; exact Or.inr ⟨h123, hend⟩, fun d G rd T B M hm b dep L t pa r1 r2 x tn K hd hS hC hO hdep htn hl hnz ht hK => ?_, fun d G f K hd hS hT hK => ?_⟩
      · obtain ⟨d, rfl⟩ : ∃ e, d = e + 1 := ⟨d - 1, by omega⟩
        refine cls d G rd T B M hm b dep r1 r2 tn K (by omega) hS hC hO htn (fun h => absurd h (by omega)) (fun _ _ _ => ?_) (fun _ _ h => absurd hend h) (fun _ h => absurd h123 h)
        refine hK r1 G hS ⟨rb_rfl, hO, fun _ => rfl, ⟨[], 1, Or.inl ⟨?_, rfl, rfl⟩, ?_⟩, Nat.le_refl _, Nat.le_refl _⟩
        · rcases hl with ⟨g1, g2, -⟩ | ⟨g1, -, -, -, -, g2⟩
          · rw [if_pos g1]; exact g2
          · rw [if_neg g1]; exact g2
        · rw [List.append_nil]; exact ht
      · obtain ⟨d, rfl⟩ : ∃ e, d = e + 1 := ⟨d - 1, by omega⟩
        refine c_takesBody hS hW hT (by omega) hp (fun h => absurd h (by omega)) (fun h => absurd h (by omega)) (fun _ _ h => absurd h123 h) (fun _ hp1 => ?_)
        have hK2 := hK.2 (by omega)
        exact c_takesBodyT hS hW hT hp1 hE (fun _ => c_takesBody67 hS hW hT (by omega) hp2 (by omega) hK2.1 hK2.2) (fun h => absurd hend h)
    · -- a tag
      obtain ⟨tres, t1, t2, t3⟩ := jt_all hW (k := k) ih hpn hk h123
      cases tres with
      | inr e =>
        have te : p + 1 ≤ e ∧ e ≤ n := t1
        refine ⟨.inr e, ⟨by omega, te.2⟩, fun q h => (by cases h), fun d G rd T B M hm b dep L t pa r1 r2 x tn K hd hS hC hO hdep htn hl hnz ht hK => ?_, fun d G f K hd hS hT hK => ?_⟩
        · obtain ⟨d, rfl⟩ : ∃ e, d = e + 1 := ⟨d - 1, by omega⟩
          refine cls d G rd T B M hm b dep r1 r2 tn K (by omega) hS hC hO htn (fun h => absurd h (by omega)) (fun _ _ h => absurd h hend) (fun _ _ _ => ?_) (fun _ h => absurd h123 h)
          refine t2 d G rd T B M hm b dep L t pa _ (by omega) hS hC hO hdep hnz ht (fun v G1 hS1 hX => ?_)
          obtain ⟨x1, x2, x3, x4⟩ := hX
          exact jb_linkF hS1 hC hl x1 x2 (by omega) (by omega) (fun r G' hS' y1 y2 y3 y4 => hK r G' hS' ⟨y1, y2, by omega, by omega⟩)
        · obtain ⟨d, rfl⟩ : ∃ e, d = e + 1 := ⟨d - 1, by omega⟩
          refine c_takesBody hS hW hT (by omega) hp (fun h => absurd h (by omega)) (fun h => absurd h (by omega)) (fun _ _ h => absurd h123 h) (fun _ hp1 => ?_)
          refine c_takesBodyT hS hW hT hp1 hE (fun h => absurd h hend) (fun _ => t3 d G f _ (by omega) hS hT ?_)
          exact z_bf (fun h => nomatch h) (hK 0 (Or.inl rfl))
      | inl m =>
        have te : p + 1 ≤ m ∧ m ≤ n := t1
        obtain ⟨res, s1, s2, s3, s4⟩ := ih (n - m) (by omega) m E hE te.2 (Nat.le_refl _)
        refine ⟨res, ?_, s2, fun d G rd T B M hm b dep L t pa r1 r2 x tn K hd hS hC hO hdep htn hl hnz ht hK => ?_, fun d G f K hd hS hT hK => ?_⟩
        · cases res with
          | inl q => exact ⟨by have := s1.1; omega, s1.2⟩
          | inr e => exact ⟨by have := s1.1; omega, s1.2⟩
        · obtain ⟨d, rfl⟩ : ∃ e, d = e + 1 := ⟨d - 1, by omega⟩
          have hS0 := hS.1
          refine cls d G rd T B M hm b dep r1 r2 tn K (by omega) hS hC hO htn (fun h => absurd h (by omega)) (fun _ _ h => absurd h hend) (fun _ _ _ => ?_) (fun _ h => absurd h123 h)
          refine t2 d G rd T B M hm b dep L t pa _ (by omega) hS hC hO hdep hnz ht (fun v G1 hS1 hX => ?_)
          obtain ⟨x0, x1, x2, x3, x4, ⟨L1, l1, x5, x6⟩, x7, x8⟩ := hX
          have kv := x5.2.1
          refine jb_link (L1 := (p, v) :: L1) (k := n - m) hS1 (by omega) hC hl (by omega) (by omega) x0 x1 x2 (by omega) x3 kv x4 (fun y hy => ?_) ?_ x7 x8 s1 s3 (fun G' A L2 q l hA1 hA2 sm h1 h2 h3 h4 => ?_) hK
          · rcases List.mem_append.mp hy with hy | hy
            · exact hnz y hy
            · rcases List.mem_cons.mp hy with rfl | hy
              · exact x5.1
              · obtain ⟨-, -, -, -, -, -, -, e, -, -, -, ha⟩ := x5
                rcases ha with ⟨-, -, rfl, -⟩ | ⟨-, -, -, q1, a4, -⟩ | ⟨-, q1, q2, La, Lb, a2, -, -, -, a6, -, -, -, -, rfl⟩
                · cases hy
                · exact tb_nz a4 y hy
                · rcases List.mem_append.mp hy with hy | hy
                  · exact tb_nz a2 y hy
                  · exact tb_nz a6 y hy
          · rw [List.length_cons, show t + (L1.length + 1) = t + 1 + L1.length by omega]
            exact x6
          · subst x0
            exact ⟨_, tb_cons hA1 (tb_t_mono w hA2 sm h1 h2 h3 (Nat.le_refl _) x5) h4⟩
        · obtain ⟨d, rfl⟩ : ∃ e, d = e + 1 := ⟨d - 1, by omega⟩
          refine c_takesBody hS hW hT (by omega) hp (fun h => absurd h (by omega)) (fun h => absurd h (by omega)) (fun _ _ h => absurd h123 h) (fun _ hp1 => ?_)
          refine c_takesBodyT hS hW hT hp1 hE (fun h => absurd h hend) (fun _ => t3 d G f _ (by omega) hS hT ?_)
          exact z_bt rfl (s4 (d + 1) G f K (by omega) hS hT hK)
  -- a literal
  by_cases h125 : w p = 125
  · refine ⟨.inr p, ⟨Nat.le_refl _, hp⟩, fun q h => (by cases h), fun d G rd T B M hm b dep L t pa r1 r2 x tn K hd hS hC hO hdep htn hl hnz ht hK => ?_, fun d G f K hd hS hT hK => ?_⟩
    · obtain ⟨d, rfl⟩ : ∃ e, d = e + 2 := ⟨d - 2, by omega⟩
      have hrn := hC.1.2.2.2.1
      refine cls (d + 1) G rd T B M hm b dep r1 r2 tn K (by omega) hS hC hO htn (fun h => absurd h (by omega)) (fun _ h => absurd h h123) (fun _ h => absurd h h123) (fun _ _ => ?_)
      refine c_readLiteral hS hC.1 hO hpn (fun _ => ?_) (fun h => absurd h125 h)
      have x1 : rb_F rd T B M (mj_n G) 10 G (mj_pI (mj_pI (mj_pI (nd_N G (nI 1) (mj_i G rd 2) (nI p)) (mj_n G) 5 (nI (w p))) rd 5 (nI p)) rd 4 (nI (p + 1))) := rb_of_fe (fe_trans (fe_nI nd_F (Nat.le_refl _)) (fe_trans (fe_pI (by decide)) (fe_pI (by decide))))
      have hS1 : cs_S (mj_pI (mj_pI (mj_pI (nd_N G (nI 1) (mj_i G rd 2) (nI p)) (mj_n G) 5 (nI (w p))) rd 5 (nI p)) rd 4 (nI (p + 1))) := cs_pI (cs_pI (cs_pI (nd_S hS)))
      have x2 : mj_i (mj_pI (mj_pI (mj_pI (nd_N G (nI 1) (mj_i G rd 2) (nI p)) (mj_n G) 5 (nI (w p))) rd 5 (nI p)) rd 4 (nI (p + 1))) rd 5 = nI p := (z_iIm (by decide)).trans z_iIs
      exact jb_linkF hS1 hC hl x1 x2 (by omega) (by omega) (fun r G' hS' y1 y2 y3 y4 => hK r G' hS' ⟨y1, y2, by rw [y3]; show mj_n G + 1 + _ ≤ _; omega, by rw [y3, y4]; show mj_u G + 11 + _ + _ ≤ _ + 11 * (mj_n G + 1) + _; omega⟩)
    · obtain ⟨d, rfl⟩ : ∃ e, d = e + 1 := ⟨d - 1, by omega⟩
      exact c_takesBody hS hW hT (by omega) hp (fun h => absurd h (by omega)) (fun _ => hK 0 (Or.inl rfl)) (fun _ h => absurd h125 h) (fun h => absurd h h123)
  · obtain ⟨res, s1, s2, s3, s4⟩ := ih (n - (p + 1)) (by omega) (p + 1) E hE hpn (Nat.le_refl _)
    refine ⟨res, ?_, s2, fun d G rd T B M hm b dep L t pa r1 r2 x tn K hd hS hC hO hdep htn hl hnz ht hK => ?_, fun d G f K hd hS hT hK => ?_⟩
    · cases res with
      | inl q => exact ⟨by have := s1.1; omega, s1.2⟩
      | inr e => exact ⟨by have := s1.1; omega, s1.2⟩
    · obtain ⟨d, rfl⟩ : ∃ e, d = e + 2 := ⟨d - 2, by omega⟩
      have hS0 := hS.1
      have hrn := hC.1.2.2.2.1
      have hC0 := hC
      obtain ⟨-, -, hc2, hc3, -, -, hc6, hc7, -, -, -, -, -, -, hTn, hBn, hMn⟩ := hC0
      refine cls (d + 1) G rd T B M hm b dep r1 r2 tn K (by omega) hS hC hO htn (fun h => absurd h (by omega)) (fun _ h => absurd h h123) (fun _ h => absurd h h123) (fun _ _ => ?_)
      refine c_readLiteral hS hC.1 hO hpn (fun h => absurd h h125) (fun _ => ?_)
      have x1 : rb_F rd T B M (mj_n G) 10 G (mj_pI (mj_pI (nd_N G (nI 1) (mj_i G rd 2) (nI p)) (mj_n G) 5 (nI (w p))) rd 4 (nI (p + 1))) := rb_of_fe (fe_trans (fe_nI nd_F (Nat.le_refl _)) (fe_pI (by decide)))
      have hS1 : cs_S (mj_pI (mj_pI (nd_N G (nI 1) (mj_i G rd 2) (nI p)) (mj_n G) 5 (nI (w p))) rd 4 (nI (p + 1))) := cs_pI (cs_pI (nd_S hS))
      have hne : rd ≠ mj_n G := by omega
      have hO1 : rd_O (mj_pI (mj_pI (nd_N G (nI 1) (mj_i G rd 2) (nI p)) (mj_n G) 5 (nI (w p))) rd 4 (nI (p + 1))) rd (p + 1) := ⟨z_iIs, (z_iIm (by decide)).trans ((z_iIn hne).trans ((nd_in hne).trans hO.2))⟩
      have iN : ∀ j, j ≠ 5 → mj_i (mj_pI (mj_pI (nd_N G (nI 1) (mj_i G rd 2) (nI p)) (mj_n G) 5 (nI (w p))) rd 4 (nI (p + 1))) (mj_n G) j = mj_i (nd_N G (nI 1) (mj_i G rd 2) (nI p)) (mj_n G) j := fun j hj => (z_iIn (Ne.symm hne)).trans (z_iIm hj)
      have i5 : mj_i (mj_pI (mj_pI (nd_N G (nI 1) (mj_i G rd 2) (nI p)) (mj_n G) 5 (nI (w p))) rd 4 (nI (p + 1))) (mj_n G) 5 = nI (w p) := (z_iIn (Ne.symm hne)).trans z_iIs
      have ht1 : tn_S (mj_pI (mj_pI (nd_N G (nI 1) (mj_i G rd 2) (nI p)) (mj_n G) 5 (nI (w p))) rd 4 (nI (p + 1))) T B M w L t pa := by
        have rT : rd ≠ T := z_kne hC.1.2.1 hc3 (by decide)
        exact tn_K ht (fun j => (z_iIn (Ne.symm rT)).trans ((z_iIn (by omega)).trans (nd_in (by omega)))) (fun j => z_rIa.trans (z_rIa.trans (nd_rn (by omega)))) (fun j => z_rIa.trans (z_rIa.trans (nd_rn (by omega))))
      refine jb_link (L1 := []) (p := p) (k := n - (p + 1)) hS1 (by omega) hC hl (by omega) (by omega) rfl x1 (Nat.lt_succ_self _) (by omega) hO1 (z_kIa.trans (z_kIa.trans nd_k)) (z_rIa.trans (z_rIa.trans nd_r)) (by rw [List.append_nil]; exact hnz) (by rw [List.append_nil]; exact ht1) ?_ ?_ s1 s3 (fun G' A L2 q l hA1 hA2 sm h1 h2 h3 h4 => ?_) hK
      · show mj_n G + 1 + _ ≤ _
        omega
      · show mj_u G + 11 + _ + _ ≤ _ + 11 * (mj_n G + 1) + _
        omega
      · exact ⟨l + 1, Or.inr (Or.inl ⟨hA1, by omega, h1.trans (z_kIa.trans (z_kIa.trans nd_k)), (h3 1).trans ((iN 1 (by decide)).trans (nd_i1.trans hc2)), (h3 2).trans ((iN 2 (by decide)).trans nd_i2), h123, h125, tx_pos hW hpn, (h3 0).trans ((iN 0 (by decide)).trans nd_i0), (h3 5).trans i5, h4⟩)⟩
    · obtain ⟨d, rfl⟩ : ∃ e, d = e + 1 := ⟨d - 1, by omega⟩
      exact c_takesBody hS hW hT (by omega) hp (fun h => absurd h (by omega)) (fun h => absurd h h125) (fun _ _ _ => s4 (d + 1) G f K (by omega) hS hT hK) (fun h => absurd h h123)
end BL
