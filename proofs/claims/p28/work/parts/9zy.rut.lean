/-! RENDERING from its top, by the class -/
/-- nothing put out -/
def o_z (o : ost) : ost := (0, o_c o, o_x o, false)
/-- what is left of a rendering -/
def rE (u : wo) (ρ : Nat → Nat) (G : mj_G) (o : ost) (st hts : Nat) (FG : Nat → kfr) (ρ' : Nat → Nat) (G' : mj_G) : Prop := hh ρ' (u_D u) (u_I u) G' ∧ ro_e ρ ρ' G ∧ fw ρ bW G G' ∧ wC u ρ' G' ∧ uC u G' st hts ∧ oD u G' o ∧ fgC u ρ' G' FG
section ZY
variable {u : wo} {ρ ρ' ρ0 ρ1 : Nat → Nat} {G G0 G1 G2 G' : mj_G} {p q m d t T : Nat} {e : Int32} {K : Int32 → mj_G → Prop} {lc : Nat} {ln : Nat → Nat} {V : Nat → Nat → Option rv} {o : ost} {ra rd : Nat → Int32} {sp : Nat → Bool} {st hts : Nat} {FG : Nat → kfr} {V' : Nat → Nat → Option rv} {o' : ost} {ra' rd' : Nat → Int32} {sp' : Nat → Bool} {st' hts' : Nat} {FG' : Nat → kfr}
theorem o_zk (h : o_ok o) : o_ok (o_z o) := ⟨Nat.zero_le _, h.2.1, fun i hi => absurd hi (Nat.not_lt_zero i)⟩
theorem wR_bW {o : Nat} (h : wR o) : bW o := ⟨by unfold wR at h; omega, by unfold wR at h; unfold im_o; omega⟩
/-- the output emptied -/
theorem c_empty {o1 : ost} {K : mj_G → Prop} (h : hh ρ (u_D u) (u_I u) G) (hw : wC u ρ G) (hu : uC u G st hts) (ho : oD u G o1) (hf : fgC u ρ G FG) (hK : ∀ G', rE u ρ G (o_z o1) st hts FG ρ G' → K G') : Ou_empty d G K := by
  refine w_Ou_empty h.1 ?_
  intro G1 e1 G2 e2
  obtain ⟨h1, f1, z1, v1, r1⟩ := in_w h (by unfold wR; omega) e1
  obtain ⟨h2, f2, z2, v2, r2⟩ := in_w h1 (by unfold wR; omega) e2
  clear e1 e2
  have F0 : fw ρ (fun o => o = 1589) G G2 := ⟨Nat.le_trans f1.1 f2.1, (fw_t f1 ro_r f2).2.1, (fw_t f1 ro_r f2).2.2.1, fun a ha => ⟨((fw_t f1 ro_r f2).2.2.2 a ha).1, ((fw_t f1 ro_r f2).2.2.2 a ha).2.1, fun hn => ⟨fun j => (r2 a j).trans (r1 a j), fun j => by
    have hne : a ≠ 1589 := fun q => hn (by rw [q]; exact ow_s (by decide))
    exact (z2 a j (fun q => hne q.1)).trans (z1 a j (fun q => hne q.1))⟩⟩⟩
  have nim : ∀ o, o = 1589 → ¬ im_o o := fun o q => by rw [q]; unfold im_o; omega
  obtain ⟨⟨o1', o2, o3, o4, o5, o6⟩, b1, b2, b3, b4, b5⟩ := ho
  have rr : ∀ a j, mj_r G2 a j = mj_r G a j := fun a j => (r2 a j).trans (r1 a j)
  have ii : ∀ a j, ¬ (a = 1589 ∧ (j = 1 ∨ j = 5)) → mj_i G2 a j = mj_i G a j := fun a j hn => (z2 a j (by omega)).trans (z1 a j (by omega))
  refine hK G2 ⟨h2, ro_r, fw_m F0 (fun o q => wR_bW (by unfold wR; omega)), wC_f h hw F0 ro_r nim, uC_f h hu F0 (fun o q => by omega), ⟨⟨o_zk o1', by rw [rr]; exact o2, (z2 _ _ (by omega)).trans v1, v2, fun i hi => absurd hi (Nat.not_lt_zero i), fun i hi => (ii _ _ (by omega)).trans (o6 i (Nat.le_trans hi (Nat.zero_le _)))⟩, (rr _ _).trans b1, by rw [rr]; exact b2, b3, (ii _ _ (by omega)).trans b4, fun i hi => (ii _ _ (by omega)).trans (b5 i hi)⟩, fgC_f h hf F0 ro_r (fun o q => ⟨nim o q, by unfold gW; omega⟩)⟩
/-- no try is open -/
theorem c_resc0 {x1 : Int32} (hS : cs_S G) (hK : K x1 G) : ∀ {n i : Nat}, i = n → i ≤ 200 → (∀ j, j < i → ¬ mj_i G (707 + 4 * j) 0 = nI 43) → Rn_rescue_16 (d + 1) x1 (sh i) G K
  | 0, i, hi, _, _ => by
    subst hi
    exact w_Rn_rescue_16 hS (z_bt (by decide) hK)
  | n + 1, i, hi, h200, hno => by
    subst hi
    rw [sh_s]
    refine w_Rn_rescue_16 hS (z_bf (by rw [z_lt (by omega) (by omega)]; omega) (z_ixi (by omega) (by omega) (z_bf (hno n (by omega)) ?_)))
    rw [sh_p]
    exact c_resc0 hS hK (n := n) rfl (by omega) (fun j hj => hno j (by omega))
/-- a rendering, from the body of the last template of the line -/
theorem run_B {S : Nat → Nat} {e : Int32} (hC : CC u ρ G 1 (fun _ => 0) 0 S lc ln 0 [] V o ra rd sp st hts FG (fun _ => 0) (fun _ => 0) (fun _ => 0) 0 0) (hk0 : mj_i G (707 + 4 * 0) 0 = nI 1) (hr : mj_r G (707 + 4 * 0) 2 = T) (h80 : q ≤ 80) (h : sgC u 1 (fun _ => 0) 0 S lc ln 0 [] V o ra rd sp st hts FG T 0 0 q e V' o' ra' rd' sp' st' hts' FG') (hd : 300 ≤ d)
    (hK : ∀ ρ' G' o1, rE u ρ G (if e = nI 0 then o' else o_z o1) st' hts' FG' ρ' G' → K (if e = nI 0 then nI (o_n o') else e) G') : lp d K 0 G := by
  have hbu := hC.2.2.2.2.2.2.1.2.2.2.1
  obtain ⟨d, rfl⟩ : ∃ y, d = y + 1 := ⟨d - 1, by omega⟩
  refine h _ _ _ 0 0 ρ G hC hr q (Nat.le_refl _) h80 (by omega) (by omega) (d + 1) K 0 hd (by omega) (fun he => ?_) (fun he => ?_)
  · intro ρ1 G1 cn1 t1 ⟨b1, b2, b3, b4, b5, b6, b7, b8⟩
    have hh1 := b1.1
    have h11 := b1.2.2.2.2.1
    have kd : mj_i G1 (707 + 4 * 0) 0 = nI 1 := (FF_i b4 hC.1 (Nat.le_refl _) (by decide) (by decide)).trans hk0
    have sc := b1.2.2.1.2.2.2.2.2.1
    refine w_Rn_run_33 hh1.1 (z_bf (by rw [z_le (by omega) (by omega)]; omega) (z_bt rfl ?_))
    rw [h11]
    refine z_bf (by decide) (z_ixi (by decide) (by decide) (z_bt b5 (w_Rn_end hh1.1 ⟨cs_g14 hh1.1 (by decide), ?_⟩)))
    rw [kd]
    refine z_bf (by decide) (z_bf (by decide) ?_)
    rw [h11]
    refine c_cut (at' := 0) (top := 0) (fl := fun i => if i = 0 then mj_i G1 (707 + 4 * 0) 5 else mj_i G1 11 2) hh1 h11 (by decide) (by decide) rfl (fun i _ h2 => ?_) (fun G2 a1 a2 a3 a4 a5 a6 a7 => z_bt rfl ?_)
    · have hi : i = 0 := by omega
      subst hi
      exact ⟨fun _ => rfl, fun q => absurd sc q⟩
    · refine w_Rn_run_33 a1.1 (z_bf (by rw [z_add, z_le (by omega) (by omega)]; omega) (z_bt rfl ?_))
      rw [a3]
      refine z_bt (by decide) (z_bt rfl ?_)
      have ho := b1.2.2.2.2.2.2.2.1
      have e1 : mj_i G2 1589 1 = nI (o_n o') := (a6 _ _ (by decide)).trans ho.1.2.2.1
      have hk := hK ρ1 G2 o' ⟨a1, b2, fw_t b3 b2 (fw_m a2 (fun o q => ⟨by omega, fw11 q⟩)), wC_f hh1 b1.2.1 a2 ro_r (fun o q => fw11 q), uC_f hh1 b1.2.2.2.2.2.2.1 a2 (fun o q => by omega), by
        rw [if_pos he]
        exact (oD_f hh1 ho a2 (fun o q => by unfold oW; omega)).1, fgC_f hh1 b1.2.2.2.2.2.2.2.2 a2 ro_r (fun o q => ⟨fw11 q, by unfold gW; omega⟩)⟩
      rw [if_pos he] at hk
      rw [e1]
      exact hk
  · intro o1 ρ1 G1 cn1 top1 t1 ⟨b1, b2, b3, b4, b5, b6, b7, b8, b9, b10, b11, b12, b13, b14, b15, b16⟩
    have fin : Rn_run_33 (d + 1 + 1) e (nI (t1 + 1)) G1 K := by
      have emp : Ou_empty (d + 1) G1 (fun G7 => K e G7) := c_empty b1 b2 b4 b5 b7 (fun G2 r2 => by
        obtain ⟨r1', r2', r3', r4', r5', r6', r7'⟩ := r2
        have hk := hK ρ1 G2 o1 ⟨r1', b12, fw_t b13 b12 r3', r4', r5', by
          rw [if_neg he]
          exact r6', r7'⟩
        rw [if_neg he] at hk
        exact hk)
      exact w_Rn_run_33 b1.1 (z_br (fun _ => z_bf he emp) (fun _ => z_bf he (z_bf he emp)))
    unfold lf
    refine w_Rn_rescue b1.1 (z_br (fun _ => fin) (fun h9 => ?_))
    rw [b8, ← sh_s]
    refine c_resc0 b1.1 fin (n := top1 + 1) rfl (by omega) (fun j hj => ?_)
    by_cases hj0 : j = 0
    · rw [hj0, FF_i b14 hC.1 (Nat.le_refl _) (by decide) (by decide), hk0]
      decide
    · exact b11 h9 j (by omega) (by omega)
end ZY
