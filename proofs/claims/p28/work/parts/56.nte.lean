/-! TAGS ARE NOTED; the class at a tag, at an end, behind a fault -/
section NT
variable {w : Nat → Nat} {n : Nat}
theorem z_7007 {c E : Nat} (hc : c < 128) (hE : E < 4) : (qb (q_7007 (nI c) (nI E)) = true) = ((c = 59 ∧ E % 2 = 1) ∨ (c = 58 ∧ 2 ≤ E)) := by
  have h : ((List.range 128).all fun c => (List.range 4).all fun E => qb (q_7007 (nI c) (nI E)) == ((Nat.beq c 59 && Nat.beq (E % 2) 1) || (Nat.beq c 58 && Nat.ble 2 E))) = true := by decide +kernel
  have h1 := List.all_eq_true.mp (List.all_eq_true.mp h c (List.mem_range.mpr hc)) E (List.mem_range.mpr hE)
  rw [eq_of_beq h1]
  refine propext ⟨fun q => ?_, fun q => ?_⟩
  · rcases Bool.or_eq_true_iff.mp q with q | q
    · have := Bool.and_eq_true_iff.mp q
      exact Or.inl ⟨Nat.eq_of_beq_eq_true this.1, Nat.eq_of_beq_eq_true this.2⟩
    · have := Bool.and_eq_true_iff.mp q
      exact Or.inr ⟨Nat.eq_of_beq_eq_true this.1, Nat.le_of_ble_eq_true this.2⟩
  · rcases q with ⟨q1, q2⟩ | ⟨q1, q2⟩
    · rw [q1, q2]; rfl
    · rw [q1, Nat.ble_eq_true_of_le q2]; simp
theorem tl_fd_snoc {c d p N : Nat} {L : List (Nat × Nat)} (h : ∀ x, x ∈ L → x.2 ≠ 0) : tl_fd w c d (L ++ [(p, N)]) = if tl_fd w c d L = 0 then (if w (p + 1) = c ∧ w (p + 2) = 48 + d then N else 0) else tl_fd w c d L := tl_fd_app h
theorem tl_st_one {i p N : Nat} : tl_st w i [(p, N)] ↔ w (p + 1) = 37 ∧ w (p + 2) = 97 + i := by
  unfold tl_st
  constructor
  · rintro ⟨x, h, h1⟩
    rw [List.mem_singleton] at h
    rw [h] at h1
    exact h1
  · exact fun h => ⟨_, List.mem_singleton.mpr rfl, h⟩
theorem tn_snoc {G G' : mj_G} {T B M t p N : Nat} {L : List (Nat × Nat)} {pa : Int32} (h : tn_S G T B M w L t pa) (hnz : ∀ x, x ∈ L → x.2 ≠ 0) (h1 : mj_i G' T 1 = mj_i G T 1) (h2 : mj_i G' T 2 = mj_i G T 2)
    (h3 : ∀ i, i < 26 → (bt (mj_i G' T 3) i ↔ bt (mj_i G T 3) i ∨ (w (p + 1) = 37 ∧ w (p + 2) = 97 + i)))
    (hB : ∀ d, d < 10 → mj_r G' B d = if mj_r G B d = 0 then (if w (p + 1) = 35 ∧ w (p + 2) = 48 + d then N else 0) else mj_r G B d)
    (hM : ∀ d, d < 10 → mj_r G' M d = if mj_r G M d = 0 then (if w (p + 1) = 36 ∧ w (p + 2) = 48 + d then N else 0) else mj_r G M d) : tn_S G' T B M w (L ++ [(p, N)]) t pa := by
  obtain ⟨t1, t2, t3, t4, t5⟩ := h
  refine ⟨h1.trans t1, h2.trans t2, fun i hi => ?_, fun d hd => ?_, fun d hd => ?_⟩
  · rw [h3 i hi, tl_st_app, tl_st_one, t3 i hi]
  · rw [hB d hd, tl_fd_snoc hnz, t4 d hd]
  · rw [hM d hd, tl_fd_snoc hnz, t5 d hd]
theorem tn_same {P : Prop} {a N : Nat} [Decidable P] (h : ¬ P) : a = if a = 0 then (if P then N else 0) else a := by
  by_cases h0 : a = 0
  · rw [if_pos h0, if_neg h, h0]
  · rw [if_neg h0]
/-- what a note does -/
def nt_X (w : Nat → Nat) (rd T B M p N : Nat) (L : List (Nat × Nat)) (t : Nat) (pa : Int32) (G G' : mj_G) : Prop := (∀ x y, rb_F rd T B M x y G G') ∧ mj_n G' = mj_n G ∧ mj_u G' = mj_u G ∧ (∀ j, mj_i G' rd j = mj_i G rd j) ∧ tn_S G' T B M w (L ++ [(p, N)]) t pa
theorem tn_put {P : Prop} [Decidable P] {x N : Nat} (h : x = 0) (hP : P) : N = if x = 0 then (if P then N else 0) else x := by rw [if_pos h, if_pos hP]
theorem c_note34 {d rd T B M N p t : Nat} {hm pa : Int32} {L : List (Nat × Nat)} {G : mj_G} {K : mj_G → Prop} (hS : cs_S G) (hC : rx_C G rd w n T B M hm) (hk : mj_k G N = 6) (h0 : mj_i G N 0 = nI (w (p + 1))) (hw : w (p + 1) ≤ 126) (h37 : ¬ w (p + 1) = 37)
    (h3 : w (p + 1) = 35 ∨ w (p + 1) = 36 → mj_i G N 3 = nI (w (p + 2) - 48) ∧ tx_D (w (p + 2))) (hnz : ∀ x, x ∈ L → x.2 ≠ 0) (ht : tn_S G T B M w L t pa) (hK : ∀ G', cs_S G' → nt_X w rd T B M p N L t pa G G' → K G') : Rd_note_34 d rd N G K := by
  obtain ⟨⟨r1, r2, r3, r4, r5, r6, r7⟩, c1, c2, c3, c4, c5, c6, c7, c8, c9, c10, c11, c12, c13, c14, c15, c16⟩ := hC
  have e35 : (mj_i G N 0 = nI 35) = (w (p + 1) = 35) := by rw [h0, z_eq (by omega) (by omega)]
  have e36 : (mj_i G N 0 = nI 36) = (w (p + 1) = 36) := by rw [h0, z_eq (by omega) (by omega)]
  have wB : cs_w B := by refine ⟨?_, ?_, ?_, ?_, ?_⟩ <;> omega
  have wM : cs_w M := by refine ⟨?_, ?_, ?_, ?_, ?_⟩ <;> omega
  refine w_Rd_note_34 hS ⟨hk, ?_⟩
  by_cases h : w (p + 1) = 35 ∨ w (p + 1) = 36
  · obtain ⟨q3, qD⟩ := h3 h
    have hdg : w (p + 2) - 48 < 10 := by have := qD.1; have := qD.2; omega
    have hdg2 : ∀ d, (w (p + 2) = 48 + d) = (d = w (p + 2) - 48) := fun d => propext ⟨fun q => by omega, fun q => by have := qD.1; omega⟩
    rw [e35, e36, c1, c4, c5, c8, c9, q3]
    refine z_bf (by rw [z_lt (by omega) (by omega)]; omega) (z_bt (by rw [z_lt (by omega) (by omega)]; omega) ?_)
    refine z_br (fun h35 => ⟨r2, c3, by rw [c6]; decide, z_ixi hdg (by decide) ?_⟩) (fun h35 => z_bt (by omega) ⟨r2, c3, by rw [c7]; decide, z_ixi hdg (by decide) ?_⟩)
    · have sM : ∀ d, d < 10 → mj_r G M d = if mj_r G M d = 0 then (if w (p + 1) = 36 ∧ w (p + 2) = 48 + d then N else 0) else mj_r G M d := fun d _ => tn_same (fun q => by omega)
      refine z_br (fun z => ⟨by rw [c6]; decide, z_ixi hdg (by decide) ⟨Or.inr (by rw [hk, c6]), wB, ?_⟩⟩) (fun z => ?_)
      · rintro _ rfl
        refine z_bf (by show ¬ mj_i G N 0 = nI 36; rw [e36]; omega) ?_
        refine hK _ (cs_pRw hS (by rw [c6]; decide) wB) ⟨fun x y => rb_B, rfl, rfl, fun j => rfl, tn_snoc ht hnz rfl rfl (fun i _ => ⟨Or.inl, fun q => q.elim id (fun q => absurd q.1 h37)⟩) (fun d hd => ?_) (fun d hd => ?_)⟩
        · by_cases hdd : d = w (p + 2) - 48
          · rw [hdd, z_rRs]
            exact tn_put z ⟨h35, by have := qD.1; omega⟩
          · rw [z_rRm hdd]
            exact tn_same (fun q => hdd (by rw [← hdg2]; exact q.2))
        · rw [z_rRn (Ne.symm c10)]
          exact sM d hd
      · refine z_bf (by omega) (hK _ hS ⟨fun x y => rb_rfl, rfl, rfl, fun j => rfl, tn_snoc ht hnz rfl rfl (fun i _ => ⟨Or.inl, fun q => q.elim id (fun q => absurd q.1 h37)⟩) (fun d hd => ?_) sM⟩)
        by_cases hdd : d = w (p + 2) - 48
        · rw [hdd]
          exact (if_neg z).symm
        · exact tn_same (fun q => hdd (by rw [← hdg2]; exact q.2))
    · have sB : ∀ d, d < 10 → mj_r G B d = if mj_r G B d = 0 then (if w (p + 1) = 35 ∧ w (p + 2) = 48 + d then N else 0) else mj_r G B d := fun d _ => tn_same (fun q => h35 q.1)
      have h36 : w (p + 1) = 36 := by omega
      refine z_br (fun z => ⟨by rw [c7]; decide, z_ixi hdg (by decide) ⟨Or.inr (by rw [hk, c7]), wM, ?_⟩⟩) (fun z => ?_)
      · rintro _ rfl
        refine hK _ (cs_pRw hS (by rw [c7]; decide) wM) ⟨fun x y => rb_M, rfl, rfl, fun j => rfl, tn_snoc ht hnz rfl rfl (fun i _ => ⟨Or.inl, fun q => q.elim id (fun q => absurd q.1 h37)⟩) (fun d hd => ?_) (fun d hd => ?_)⟩
        · rw [z_rRn c10]
          exact sB d hd
        · by_cases hdd : d = w (p + 2) - 48
          · rw [hdd, z_rRs]
            exact tn_put z ⟨h36, by have := qD.1; omega⟩
          · rw [z_rRm hdd]
            exact tn_same (fun q => hdd (by rw [← hdg2]; exact q.2))
      · refine hK _ hS ⟨fun x y => rb_rfl, rfl, rfl, fun j => rfl, tn_snoc ht hnz rfl rfl (fun i _ => ⟨Or.inl, fun q => q.elim id (fun q => absurd q.1 h37)⟩) sB (fun d hd => ?_)⟩
        by_cases hdd : d = w (p + 2) - 48
        · rw [hdd]
          exact (if_neg z).symm
        · exact tn_same (fun q => hdd (by rw [← hdg2]; exact q.2))
  · have hK' : K G := hK _ hS ⟨fun x y => rb_rfl, rfl, rfl, fun j => rfl, tn_snoc ht hnz rfl rfl (fun i _ => ⟨Or.inl, fun q => q.elim id (fun q => absurd q.1 h37)⟩) (fun d _ => tn_same (fun q => by omega)) (fun d _ => tn_same (fun q => by omega))⟩
    rw [e35, e36]
    exact z_br (fun _ => hK') (fun _ => z_br (fun _ => z_bf (by omega) (z_bf (by omega) hK')) (fun _ => hK'))
theorem c_note {A : Nat → Prop} {d rd T B M N p e t : Nat} {b hm pa : Int32} {L : List (Nat × Nat)} {G : mj_G} {K : mj_G → Prop} (hS : cs_S G) (hC : rx_C G rd w n T B M hm) (hk : mj_k G N = 6) (h0 : mj_i G N 0 = nI (w (p + 1))) (hH : tb_h A G N b w p e) (hnz : ∀ x, x ∈ L → x.2 ≠ 0) (ht : tn_S G T B M w L t pa)
    (hK : ∀ G', cs_S G' → nt_X w rd T B M p N L t pa G G' → K G') : Rd_note d rd N G K := by
  have hw := tx_le hC.1.1 (p + 1)
  have e37 : (mj_i G N 0 = nI 37) = (w (p + 1) = 37) := by rw [h0, z_eq (by omega) (by omega)]
  refine w_Rd_note hS ⟨hk, ?_⟩
  rw [e37]
  refine z_br (fun h37 => ?_) (fun h37 => ?_)
  · obtain ⟨hL, h3, h4⟩ : tx_L (w (p + 2)) ∧ mj_i G N 3 = Int32.ofInt (-1) ∧ mj_i G N 4 = nI (w (p + 2) - 97) := by
      unfold tb_h at hH
      rcases hH with ⟨a, -⟩ | ⟨a, b, -, c, d, -⟩ | ⟨a, -⟩ | ⟨a, -⟩ | ⟨a, -⟩ | ⟨a, -⟩ | ⟨a, -⟩ | ⟨a, -⟩
      · omega
      · exact ⟨b, c, d⟩
      all_goals omega
    obtain ⟨⟨r1, r2, r3, r4, r5, r6, r7⟩, c1, c2, c3, c4, c5, c6, c7, c8, c9, c10, c11, c12, c13, c14, c15, c16⟩ := hC
    have hNT : N ≠ T := z_kne hk c3 (by decide)
    have hrT : rd ≠ T := z_kne r2 c3 (by decide)
    rw [h4, c1]
    have h1 := hL.1
    have h2 := hL.2
    refine z_bf (by rw [z_lt (by omega) (by omega)]; omega) ⟨r2, c3, ?_⟩
    rintro _ rfl
    refine w_Rd_note_34 (cs_pI hS) ⟨hk, z_bt ?_ ?_⟩
    · rw [z_iIn hNT, h3]; decide
    · refine hK _ (cs_pI hS) ⟨fun x y => rb_T, rfl, rfl, fun j => z_iIn hrT, tn_snoc ht hnz (z_iIm (by decide)) (z_iIm (by decide)) (fun i hi => ?_) (fun d _ => tn_same (fun q => by omega)) (fun d _ => tn_same (fun q => by omega))⟩
      rw [z_iIs, bt_or (by omega) (by omega)]
      constructor
      · rintro (q | q)
        · exact Or.inl q
        · exact Or.inr ⟨h37, by omega⟩
      · rintro (q | ⟨-, q⟩)
        · exact Or.inl q
        · exact Or.inr (by omega)
  · refine c_note34 hS hC hk h0 hw h37 (fun q => ?_) hnz ht hK
    unfold tb_h at hH
    rcases hH with ⟨a, -⟩ | ⟨a, -⟩ | ⟨a, -⟩ | ⟨a, b, -, c, -⟩ | ⟨a, -⟩ | ⟨a, -⟩ | ⟨a, b, -, c, -⟩ | ⟨a, -⟩
    · omega
    · omega
    · omega
    · exact ⟨c, b⟩
    · omega
    · omega
    · exact ⟨c, b⟩
    · omega
/-! behind a fault -/
theorem c_loopF {d rd r1 r2 e : Nat} {E b dep t : Int32} {G : mj_G} {K : Nat → mj_G → Prop} (hS : cs_S G) (hR : rd_R G rd w n) (h5 : mj_i G rd 5 = nI e) (he : e ≤ 80) (hd : 16 ≤ d) (h : K r1 G) : Rd_readBody_40 d rd E b dep r1 r2 t G K := by
  obtain ⟨d, rfl⟩ : ∃ e, d = e + 1 := ⟨d - 1, by omega⟩
  exact w_Rd_readBody_40 hS (by omega) ⟨hR.2.1, z_br (fun _ => h) (fun _ => c_failedF hS hR h5 he (z_bt rfl h))⟩
theorem c_bodyF {d rd T B M e : Nat} {E b dep hm : Int32} {G : mj_G} {K : Nat → mj_G → Prop} (hS : cs_S G) (hC : rx_C G rd w n T B M hm) (h5 : mj_i G rd 5 = nI e) (he : e ≤ 80) (hd : 20 ≤ d)
    (h : ∀ G', cs_S G' → (∀ x y, rb_F rd T B M x y G G') → mj_i G' rd 5 = nI e → mj_n G' = mj_n G → mj_u G' = mj_u G → K 0 G') : Rd_readBody d rd E b dep G K := by
  obtain ⟨d, rfl⟩ : ∃ e, d = e + 1 := ⟨d - 1, by omega⟩
  have hR := hC.1
  have l0 : Rd_readBody_40 (d + 1) rd E b dep 0 0 (nI 0) G K := c_loopF hS hR h5 he (by omega) (h G hS (fun x y => rb_rfl) h5 rfl rfl)
  refine w_Rd_readBody hS ⟨hR.2.1, z_br (fun _ => ?_) (fun _ => l0)⟩
  refine c_sign hS hR (by decide) (z_br (fun _ => ⟨hR.2.1, ?_⟩) (fun _ => l0))
  refine c_sign hS hR (by decide) (z_br (fun _ => ⟨hR.2.1, ?_⟩) (fun _ => l0))
  obtain ⟨d, rfl⟩ : ∃ e, d = e + 1 := ⟨d - 1, by omega⟩
  have rT : rd ≠ T := z_kne hR.2.1 hC.2.2.2.1 (by decide)
  have hR2 : rd_R (mj_pI G rd 4 (nI 2)) rd w n := fe_R hR (fe_pI (by decide))
  have h52 : mj_i (mj_pI G rd 4 (nI 2)) rd 5 = nI e := (z_iIm (by decide)).trans h5
  refine w_Rd_readParent hS ⟨hR.2.1, ?_⟩
  rintro _ rfl
  refine c_readDigitF (cs_pI hS) hR2 h52 he (by omega) ?_
  have e3 : mj_r (mj_pI G rd 4 (nI 2)) rd 3 = T := hC.2.1
  rw [e3]
  refine ⟨hC.2.2.2.1, ?_⟩
  rintro _ rfl
  have F1 : ∀ x y, rb_F rd T B M x y G (mj_pI (mj_pI G rd 4 (nI 2)) T 1 (Int32.ofInt (-1))) := fun x y => rb_trans (rb_rd (by decide)) rb_T
  have C1 : rx_C (mj_pI (mj_pI G rd 4 (nI 2)) T 1 (Int32.ofInt (-1))) rd w n T B M hm := rx_K hC (F1 (mj_n G) 10) (Or.inr (Nat.le_refl _))
  have h53 : mj_i (mj_pI (mj_pI G rd 4 (nI 2)) T 1 (Int32.ofInt (-1))) rd 5 = nI e := (z_iIn rT).trans h52
  refine ⟨C1.1.2.1, c_passF (cs_pI (cs_pI hS)) C1.1 h53 he (by omega) ⟨C1.1.2.1, ?_⟩⟩
  rw [C1.2.1]
  refine ⟨C1.2.2.2.1, ?_⟩
  rintro _ rfl
  have F2 : ∀ x y, rb_F rd T B M x y G (mj_pI (mj_pI (mj_pI G rd 4 (nI 2)) T 1 (Int32.ofInt (-1))) T 2 (mj_i (mj_pI (mj_pI G rd 4 (nI 2)) T 1 (Int32.ofInt (-1))) T 2 + nI 1)) := fun x y => rb_trans (F1 x y) rb_T
  have h54 := (z_iIn (G := mj_pI (mj_pI G rd 4 (nI 2)) T 1 (Int32.ofInt (-1))) (k := 2) (x := mj_i (mj_pI (mj_pI G rd 4 (nI 2)) T 1 (Int32.ofInt (-1))) T 2 + nI 1) (j := 5) rT).trans h53
  exact c_loopF (cs_pI (cs_pI (cs_pI hS))) (rx_K hC (F2 (mj_n G) 10) (Or.inr (Nat.le_refl _))).1 h54 he (by omega) (h _ (cs_pI (cs_pI (cs_pI hS))) F2 h54 rfl rfl)
theorem c_leaveF {d rd e : Nat} {G : mj_G} {K : Int32 → mj_G → Prop} (hS : cs_S G) (hR : rd_R G rd w n) (h5 : mj_i G rd 5 = nI e) (he : e ≤ 80) (hd : 1 ≤ d) (h : K (nI 0) G) : Rd_leave d rd G K := by
  obtain ⟨d, rfl⟩ : ∃ e, d = e + 1 := ⟨d - 1, by omega⟩
  exact w_Rd_leave hS ⟨hR.2.1, c_failedF hS hR h5 he (z_bt rfl h)⟩
theorem c_leave {d rd q : Nat} {G : mj_G} {K : Int32 → mj_G → Prop} (hS : cs_S G) (hR : rd_R G rd w n) (hO : rd_O G rd q) (hq : q ≤ 80) (hd : 2 ≤ d) (hq2 : q + 2 ≤ 80)
    (h1 : w (q + 2) = 125 → K (nI (w (q + 1))) (mj_pI G rd 4 (nI (q + 3)))) (h2 : ¬ w (q + 2) = 125 → K (nI (w (q + 1))) (mj_pI (mj_pI G rd 4 (nI (q + 2))) rd 5 (nI (q + 2)))) : Rd_leave d rd G K := by
  obtain ⟨d, rfl⟩ : ∃ e, d = e + 1 := ⟨d - 1, by omega⟩
  have hw1 := tx_le hR.1 (q + 1)
  refine w_Rd_leave hS ⟨hR.2.1, c_failed hS hR hO (z_bf (by decide) ⟨hR.2.1, ?_⟩)⟩
  rw [hO.1, z_add]
  refine c_sign hS hR (by omega) ⟨hR.2.1, ?_⟩
  rintro _ rfl
  rw [hO.1, z_add]
  refine c_pass (cs_pI hS) (fe_R hR (fe_pI (by decide))) (rd_O4 hO) (by omega) hq2 (by decide) (fun h => ⟨z_cc (by omega), ?_⟩) (fun h => ⟨z_cc (by omega), h2 h⟩)
  rw [z_pII]
  exact h1 h
end NT
