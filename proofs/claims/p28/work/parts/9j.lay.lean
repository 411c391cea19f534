/-! RENDERING: a line laid, by both sides -/
theorem cs_l14_all : ((List.range 200).all fun i => Nat.beq (cs_ro (707 + 4 * i) 8) (708 + 4 * i) && Nat.beq (cs_kd (708 + 4 * i)) 20 && Nat.beq (cs_ln (708 + 4 * i)) 11) = true := by decide +kernel
theorem cs_l14 {G : mj_G} {i : Nat} (hS : cs_S G) (hi : i < 200) : mj_r G (707 + 4 * i) 8 = 708 + 4 * i ∧ mj_k G (708 + 4 * i) = 20 ∧ mj_l G (708 + 4 * i) = 10 := by
  have h := List.all_eq_true.mp cs_l14_all i (List.mem_range.mpr hi)
  simp only [Bool.and_eq_true] at h
  obtain ⟨⟨h1, h2⟩, h3⟩ := h
  have e1 := Nat.eq_of_beq_eq_true h1
  have e2 := Nat.eq_of_beq_eq_true h2
  have e3 := Nat.eq_of_beq_eq_true h3
  refine ⟨?_, ?_, ?_⟩
  · rcases hS.2.2.2.1 (707 + 4 * i) 8 with q | q
    · omega
    · rw [q, e1]
  · rcases hS.2.1 (708 + 4 * i) with q | q
    · omega
    · rw [q, e2]
  · rcases hS.2.2.1 (708 + 4 * i) with q | q <;> omega
section LY
variable {ρ : Nat → Nat} {D : Nat → rv} {I : Nat → Nat → rv} {G Gm : mj_G} {f : mm_F} {d i : Nat} {pa bd : Nat → Nat}
theorem lW_im (hi : i < 200) {o : Nat} (h : lW i o) : ¬ im_o o := by
  unfold lW at h
  unfold im_o
  omega
theorem l_hI {a j : Nat} {y : Int32} (h : hh ρ D I G) (hi : i < 200) (ha : lW i a) : hh ρ D I (mj_pI G a j y) ∧ fw ρ (lW i) G (mj_pI G a j y) := by
  have hk : mj_k G a ≠ 12 := by
    rcases ha with e | e
    · rw [e, cs_g14 h.1 hi]; decide
    · rw [e, (cs_l14 h.1 hi).2.1]; decide
  have ho : ow ρ a = a := ow_s (by unfold lW at ha; omega)
  exact ⟨hh_I h (by unfold imm; rw [ho]; exact lW_im hi ha) (fun _ q => absurd q hk), fw_I (by rw [ho]; exact ha)⟩
/-- what a frame tells of its line -/
def fL (G : mj_G) (i n : Nat) (c : Nat → Nat) : Prop := mj_i G (707 + 4 * i) 9 = nI n ∧ ∀ k, k < n → mj_i G (708 + 4 * i) k = nI (c k) ∧ c k < 10
theorem c_lay {K : Int32 → mj_G → Prop} {G0 : mj_G} (hi : i < 200) :
    ∀ {m n t : Nat} {c : Nat → Nat} {G : mj_G}, n + m = 10 → t < 10 → hh ρ D I G → tH ρ G pa bd → fw ρ (lW i) G0 G → (∀ j, j ≠ 9 → mj_i G (707 + 4 * i) j = mj_i G0 (707 + 4 * i) j) → (∀ j, j ≠ 2 → mj_r G (707 + 4 * i) j = mj_r G0 (707 + 4 * i) j) → fL G i n c →
      (∀ G', hh ρ D I G' → fw ρ (lW i) G0 G' → (∀ j, j ≠ 9 → mj_i G' (707 + 4 * i) j = mj_i G0 (707 + 4 * i) j) → (∀ j, j ≠ 2 → mj_r G' (707 + 4 * i) j = mj_r G0 (707 + 4 * i) j) → ((l_go pa m n c t).1 = true → fL G' i (l_go pa m n c t).2.1 (l_go pa m n c t).2.2 ∧ 1 ≤ (l_go pa m n c t).2.1 ∧ mj_r G' (707 + 4 * i) 2 = bd ((l_go pa m n c t).2.2 ((l_go pa m n c t).2.1 - 1))) → K (if (l_go pa m n c t).1 = true then nI 0 else Int32.ofInt (-8)) G') → Rn_layLine_26 (d + 1) (707 + 4 * i) (nI t) (nI n) G K
  | 0, n, t, c, G, hn, ht, h, hT, F, e1, e2, hL, hK => by
    refine w_Rn_layLine_26 h.1 (z_bt (by rw [z_le (by decide) (by omega)]; omega) ?_)
    have r := hK G h F e1 e2 (fun q => absurd q (by show ¬ false = true; decide))
    rw [show (l_go pa 0 n c t).1 = false from rfl, if_neg (by decide)] at r
    exact r
  | m + 1, n, t, c, G, hn, ht, h, hT, F, e1, e2, hL, hK => by
    obtain ⟨t1, t2, t3, t4, t5, t6, t7⟩ := hT t ht
    obtain ⟨s1, s2, s3⟩ := cs_l14 h.1 hi
    have n1 : 707 + 4 * i ≠ 708 + 4 * i := by omega
    have nT : mj_r G 7 t ≠ 707 + 4 * i ∧ mj_r G 7 t ≠ 708 + 4 * i := by unfold tp_C at t1; omega
    refine w_Rn_layLine_26 h.1 (z_bf (by rw [z_le (by decide) (by omega)]; omega) ?_)
    rw [s1, s3]
    refine ⟨cs_g14 h.1 hi, s2, by omega, z_ixi (by omega) (by decide) ?_⟩
    intro G1 q1
    obtain ⟨h1, F1⟩ := l_hI (a := 708 + 4 * i) (j := n) (y := nI t) h hi (Or.inr rfl)
    rw [← q1] at h1 F1
    intro G2 q2
    rw [z_add] at q2
    obtain ⟨h2, F2⟩ := l_hI (a := 707 + 4 * i) (j := 9) (y := nI (n + 1)) h1 hi (Or.inl rfl)
    rw [← q2] at h2 F2
    have r2 : ∀ x j, mj_r G2 x j = mj_r G x j := fun x j => by rw [q2, q1]; rfl
    have k2 : ∀ x, mj_k G2 x = mj_k G x := fun x => by rw [q2, q1]; rfl
    have iT : ∀ j, mj_i G2 (mj_r G 7 t) j = mj_i G (mj_r G 7 t) j := fun j => by rw [q2, z_iIn nT.1, q1, z_iIn nT.2]
    have if2 : ∀ j, j ≠ 9 → mj_i G2 (707 + 4 * i) j = mj_i G (707 + 4 * i) j := fun j hj => by rw [q2, z_iIm hj, q1, z_iIn n1]
    have if9 : mj_i G2 (707 + 4 * i) 9 = nI (n + 1) := by rw [q2, z_iIs]
    have ir2 : ∀ k, mj_i G2 (708 + 4 * i) k = if k = n then nI t else mj_i G (708 + 4 * i) k := fun k => by
      rw [q2, z_iIn n1.symm, q1]
      by_cases e : k = n
      · rw [if_pos e, e, z_iIs]
      · rw [if_neg e, z_iIm e]
    clear q1 q2
    refine z_ixi ht (by decide) ⟨by rw [r2, k2]; exact t4, ?_⟩
    rw [r2 7 t, r2 (mj_r G 7 t) 0, t6]
    intro G3 q3
    have ho : ow ρ (707 + 4 * i) = 707 + 4 * i := ow_s (by omega)
    have hl : ¬ lz (707 + 4 * i) 2 := by unfold lz; omega
    have h3 : hh ρ D I G3 := by rw [q3]; exact hh_R h2 (by unfold imm; rw [ho]; exact lW_im hi (Or.inl rfl)) hl (cs_pR h2.1 (cs_g14 h2.1 hi) rfl)
    have F3 : fw ρ (lW i) G2 G3 := by rw [q3]; exact fw_R (by rw [ho]; exact Or.inl rfl) hl h2.2.1
    have i3 : ∀ x j, mj_i G3 x j = mj_i G2 x j := fun x j => by rw [q3]; rfl
    have r3 : ∀ x j, ¬ (x = 707 + 4 * i ∧ j = 2) → mj_r G3 x j = mj_r G x j := fun x j hq => by rw [q3]; exact (if_neg hq).trans (r2 x j)
    have r32 : mj_r G3 (707 + 4 * i) 2 = bd t := by rw [q3, z_rRs]
    have k3 : ∀ x, mj_k G3 x = mj_k G x := fun x => by rw [q3]; exact k2 x
    clear q3
    have F03 := fw_t F ro_r (fw_t F1 ro_r (fw_t F2 ro_r F3))
    have hT3 := tH_f h hT (fw_t F1 ro_r (fw_t F2 ro_r F3)) ro_r (fun o q => lW_im hi q)
    have e13 : ∀ j, j ≠ 9 → mj_i G3 (707 + 4 * i) j = mj_i G0 (707 + 4 * i) j := fun j hj => (i3 _ j).trans ((if2 j hj).trans (e1 j hj))
    have e23 : ∀ j, j ≠ 2 → mj_r G3 (707 + 4 * i) j = mj_r G0 (707 + 4 * i) j := fun j hj => (r3 _ j (fun q => hj q.2)).trans (e2 j hj)
    have hL3 : fL G3 i (n + 1) (l_ad c n t) := ⟨(i3 _ _).trans if9, fun k hk => by
      rw [i3, ir2]
      unfold l_ad
      by_cases e : k = n
      · rw [if_pos e, if_pos e]; exact ⟨rfl, ht⟩
      · rw [if_neg e, if_neg e]; exact hL.2 k (by omega)⟩
    refine z_ixi ht (by decide) ⟨by rw [r3 7 t (by omega), k3]; exact t4, ?_⟩
    rw [r3 7 t (by omega), i3 (mj_r G 7 t) 1, iT 1, t5, sh_n (by omega)]
    refine z_br (fun q => ?_) (fun q => ?_)
    · have e : l_go pa (m + 1) n c t = (true, n + 1, l_ad c n t) := by show (if pa t = 0 then _ else _) = _; rw [if_pos q]
      rw [e] at hK
      have r := hK G3 h3 F03 e13 e23 (fun _ => ⟨hL3, Nat.succ_le_succ (Nat.zero_le _), by rw [r32]; show bd t = bd (l_ad c n t (n + 1 - 1)); rw [Nat.add_sub_cancel]; unfold l_ad; rw [if_pos rfl]⟩)
      rw [if_pos rfl] at r
      exact r
    · obtain ⟨t', ht'⟩ : ∃ t', pa t = t' + 1 := ⟨pa t - 1, by omega⟩
      rw [ht', sh_s]
      obtain ⟨u1, u2, u3⟩ := cs_l14 h3.1 hi
      have big : ∀ k, k < 10 → ¬ nI k = Int32.ofInt (-1) := fun k hk q => by
        rw [← sh_s, sh_n (by omega)] at q
        omega
      refine c_placeInLine h3.1 hi hL3.1 (by omega) u1 u2 u3 (by omega) hL3.2 (fun k k1 k2 k3 => z_bf (big k (by omega)) ?_) (fun hno => z_bt rfl ?_)
      · have hh1 : l_has (l_ad c n t) (n + 1) (pa t - 1) = true := l_hasT.mpr ⟨k, k1, by rw [ht']; exact k2⟩
        have e : l_go pa (m + 1) n c t = (false, n + 1, l_ad c n t) := by show (if pa t = 0 then _ else _) = _; rw [if_neg q, if_pos hh1]
        rw [e] at hK
        have r := hK G3 h3 F03 e13 e23 (fun q => absurd q (show ¬ false = true by decide))
        rw [if_neg (show ¬ false = true by decide)] at r
        exact r
      · have hh1 : ¬ l_has (l_ad c n t) (n + 1) (pa t - 1) = true := fun r => by
          obtain ⟨k, k1, k2⟩ := l_hasT.mp r
          exact hno k k1 (by rw [ht'] at k2; exact k2)
        have e : l_go pa (m + 1) n c t = l_go pa m (n + 1) (l_ad c n t) (pa t - 1) := by show (if pa t = 0 then _ else _) = _; rw [if_neg q, if_neg hh1]
        rw [e, ht', Nat.add_sub_cancel] at hK
        rw [z_add]
        exact c_lay hi (m := m) (n := n + 1) (t := t') (by omega) (by omega) h3 hT3 F03 e13 e23 hL3 hK
end LY
