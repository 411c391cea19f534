/-! THE CALLS that look at the whole state; typing -/
section H03
variable {s : lst} {H Gm : mj_G} {d k c t : Nat}
theorem k_fault (hd : 1200 ≤ d) (hs : OB k s H) : CR d 12003 [none] oI (k + 1000) H (fun s' res => s' = s ∧ ∃ v, res = .inl v) := by
  obtain ⟨q1, q2, ⟨ρ, q3⟩, q4, q5⟩ := hs
  obtain ⟨v, hv⟩ := ow_fault q1 q3
  have hX : Tq_fault d H (fun v' G' => Sum.inl v' = (Sum.inl v : Int32 ⊕ Nat) ∧ (∃ ρ', LC s ρ' G') ∧ yF H G') := hv d (fun r G' => r = .inl v ∧ (∃ ρ', LC s ρ' G') ∧ yF H G') hd (fun ρ' G' a b => ⟨rfl, ⟨ρ', a⟩, b⟩)
  obtain ⟨H', ⟨b1, b2⟩, b3, b4, -, b5⟩ := C_b (mi := 12003) (as := [none]) (f := oI) (res := .inl v) (by decide) rfl oI_n (fun _ => rfl) q4 (mj_X_mono hX fun _ _ q => cx1 (K := fun r G' => r = (Sum.inl v : Int32 ⊕ Nat) ∧ (∃ ρ', LC s ρ' G') ∧ yF H G') q)
  exact ⟨s, .inl v, H', ⟨q1, q2, b1, b3, bR_m (bR_y q5 (yR_m b2 (by decide : 999 ≤ 1000) (by decide : 11999 ≤ 12 * 1000)) (Nat.le_refl _)) (Nat.le_refl _)⟩, ⟨rfl, v, rfl⟩, b4, b5⟩
/-- mayEnd leaves the heap as it is -/
theorem k_may (ht : t < 10) (hd : 1200 ≤ d) (hs : OB k s H) : ∃ v, s8 v ∧ ne8 v ∧ (u_pa (ls_u s) t = 0 → ∀ (FG : Nat → kfr) (o : ost) (FG1 : Nat → kfr), SF (ls_u s) FG → RR (ls_u s) t FG (nI 0) o FG1 → bt v (cx o)) ∧ RV d 12026 [some (.inl (nI t)), none] (.inl (some (.inl v))) H H := by
  obtain ⟨q1, q2, ⟨ρ, q3⟩, q4, q5⟩ := hs
  obtain ⟨v, v1, v2, v3, hv⟩ := ow_may q1 q2 q3 ht
  have hX : Tq_mayEnd d (nI t) H (fun r G' => r = (Sum.inl v : Int32 ⊕ Nat) ∧ G' = H) := hv d _ (by omega) ⟨rfl, rfl⟩
  obtain ⟨H', rfl, -, -, -, b5⟩ := C_b (mi := 12026) (as := [some (.inl (nI t)), none]) (f := oI) (res := .inl v) (R := fun G' => G' = H) (by decide) rfl oI_n (fun _ => rfl) q4 (mj_X_mono hX fun _ _ q => cxI q)
  exact ⟨v, v1, v2, v3, b5⟩
/-- so does the context at a place of the output -/
theorem k_ctx {x : Nat} (hx : x ≤ o_n (ls_o s)) (hd : 1200 ≤ d) (hs : OB k s H) : RV d 12023 [some (.inl (nI x))] (.inl (some (.inl (nI (o_x (ls_o s) x))))) H H := by
  obtain ⟨q1, q2, ⟨ρ, q3⟩, q4, q5⟩ := hs
  have ho := q1.2.2.2.1
  have h300 := ho.1
  have hX : Tq_context d (nI x) H (fun r G' => r = (Sum.inl (nI (o_x (ls_o s) x)) : Int32 ⊕ Nat) ∧ G' = H) := by
    have hoC := q3.2.2.2.1.1
    refine w_Tq_context q3.1.1 (by omega) ?_
    rw [hoC.2.2.1, z_lt (by omega) (by decide), z_le (by omega) (by omega)]
    refine z_bf (by omega) (z_bt hx (z_ixi (by omega) (by decide) ?_))
    rw [hoC.2.2.2.2.2 x hx]
    exact ⟨rfl, rfl⟩
  obtain ⟨H', rfl, -, -, -, b5⟩ := C_b (mi := 12023) (as := [some (.inl (nI x))]) (f := oI) (res := .inl (nI (o_x (ls_o s) x))) (R := fun G' => G' = H) (by decide) rfl oI_n (fun _ => rfl) q4 (mj_X_mono hX fun _ _ q => cxI q)
  exact b5
theorem k_check (hM : mm_S Gm) (ht : t < 10) (hd : 1200 ≤ d) (hs : OB k s H) : ∃ v H', OB (k + 1000) s H' ∧ rg v ∧ fn_F H H' ∧ mj_u H ≤ mj_u H' ∧ RV d 12028 [some (.inl (nI t))] (.inl (some (.inl v))) H H' := by
  obtain ⟨q1, q2, ⟨ρ, q3⟩, q4, q5⟩ := hs
  obtain ⟨v, v1, hv⟩ := ow_chk hM q1 q3 ht
  have hX : Tq_check d (nI t) H (fun r G' => r = (Sum.inl v : Int32 ⊕ Nat) ∧ (∃ ρ', LC s ρ' G') ∧ yF H G' ∧ fn_F H G') := hv d _ hd (fun ρ' G' a b c => ⟨rfl, ⟨ρ', a⟩, b, c⟩)
  obtain ⟨H', ⟨b1, b2, b6⟩, b3, b4, b7, b5⟩ := C_b (mi := 12028) (as := [some (.inl (nI t))]) (f := oI) (res := .inl v) (by decide) rfl oI_n (fun _ => rfl) q4 (mj_X_mono hX fun _ _ q => cxI q)
  exact ⟨v, H', ⟨q1, q2, b1, b3, bR_m (bR_y q5 (yR_m b2 (by decide : 999 ≤ 1000) (by decide : 11999 ≤ 12 * 1000)) (Nat.le_refl _)) (Nat.le_refl _)⟩, v1, b6, b7, b5⟩
theorem ix_10 (x : Int32) : (x < nI 0 ∨ (¬ x < nI 0 ∧ ¬ x < nI 10)) ∨ ∃ t, t < 10 ∧ x = nI t := by
  by_cases h1 : x < nI 0
  · exact Or.inl (Or.inl h1)
  by_cases h2 : x < nI 10
  · obtain ⟨n, hn, rfl⟩ := z_nn h1
    rw [z_lt hn (by decide)] at h2
    exact Or.inr ⟨n, h2, rfl⟩
  · exact Or.inl (Or.inr ⟨h1, h2⟩)
theorem k_chk {x : Int32} (hM : mm_S Gm) (hd : 1200 ≤ d) (hs : OB k s H) : CR d 12028 [some (.inl x)] oI (k + 1000) H (fun s' _ => s' = s) := by
  rcases ix_10 x with hx | ⟨t, ht, rfl⟩
  · obtain ⟨q1, q2, ⟨ρ, q3⟩, q4, q5⟩ := hs
    have hX : Tq_check d x H (fun r G' => r = (Sum.inr 17 : Int32 ⊕ Nat) ∧ (∃ ρ', LC s ρ' G') ∧ yR 1 6 H G') := ow_chkX q3 hx hd (fun ρ' G' a b => ⟨rfl, ⟨ρ', a⟩, b⟩)
    obtain ⟨H', ⟨b1, b2⟩, b3, b4, -, b5⟩ := C_b (mi := 12028) (as := [some (.inl x)]) (f := oI) (res := .inr 17) (by decide) rfl oI_n (fun _ => rfl) q4 (mj_X_mono hX fun _ _ q => cxI q)
    exact ⟨s, .inr 17, H', ⟨q1, q2, b1, b3, bR_m (bR_y q5 (yR_m b2 (by decide : 1 ≤ 1000) (by decide : 6 ≤ 12 * 1000)) (Nat.le_refl _)) (Nat.le_refl _)⟩, rfl, b4, b5⟩
  · obtain ⟨v, H', a1, -, -, -, a2⟩ := k_check hM ht hd hs
    exact ⟨s, .inl v, H', a1, rfl, (fun e q => by cases q), a2⟩
theorem k_ren (hM : mm_S Gm) (ht : t < 10) (hd : 1200 ≤ d) (hs : OB k s H) : ∃ x1 e o' st hts FG H', OB k (ls_rr s x1 e o' st hts FG) H' ∧ st ≤ u_bu (ls_u s) ∧ er e ∧ RR (ls_u (ls_rr s x1 e o' st hts FG)) t (ls_F s) e o' FG ∧ RV d 12016 [some (.inl (nI t))] (.inl (some (.inl (if e = nI 0 then nI (o_n o') else e)))) H H' := by
  obtain ⟨q1, q2, ⟨ρ, q3⟩, q4, q5⟩ := hs
  obtain ⟨x1, e, o', st, hts, FG, v1, v2, v3, v4, v5, hv⟩ := ow_ren hM q1 q2 q3 ht
  have hX : Tq_render d (nI t) H (fun r G' => r = (Sum.inl (if e = nI 0 then nI (o_n o') else e) : Int32 ⊕ Nat) ∧ (∃ ρ', LC (ls_rr s x1 e o' st hts FG) ρ' G') ∧ yR 0 0 H G') := hv d _ hd (fun ρ' G' a b => ⟨rfl, ⟨ρ', a⟩, b⟩)
  obtain ⟨H', ⟨b1, b2⟩, b3, b4, b7, b5⟩ := C_b (mi := 12016) (as := [some (.inl (nI t))]) (f := oI) (res := .inl (if e = nI 0 then nI (o_n o') else e)) (by decide) rfl oI_n (fun _ => rfl) q4 (mj_X_mono hX fun _ _ q => cxI q)
  exact ⟨x1, e, o', st, hts, FG, H', ⟨v1, v2, b1, b3, bR_y (c := 0) q5 b2 (Nat.zero_le _)⟩, v3, v4, v5, b5⟩
theorem k_render {x : Int32} (hM : mm_S Gm) (hd : 1200 ≤ d) (hs : OB k s H) : CR d 12016 [some (.inl x)] oI (k + 1) H (fun _ _ => True) := by
  rcases ix_10 x with hx | ⟨t, ht, rfl⟩
  · obtain ⟨q1, q2, ⟨ρ, q3⟩, q4, q5⟩ := hs
    have hX : Tq_render d x H (fun r G' => r = (Sum.inr 17 : Int32 ⊕ Nat) ∧ (∃ ρ', LC s ρ' G') ∧ yR 1 6 H G') := ow_renX q3 hx hd (fun ρ' G' a b => ⟨rfl, ⟨ρ', a⟩, b⟩)
    obtain ⟨H', ⟨b1, b2⟩, b3, b4, -, b5⟩ := C_b (mi := 12016) (as := [some (.inl x)]) (f := oI) (res := .inr 17) (by decide) rfl oI_n (fun _ => rfl) q4 (mj_X_mono hX fun _ _ q => cxI q)
    exact ⟨s, .inr 17, H', ⟨q1, q2, b1, b3, bR_y q5 b2 (by decide)⟩, trivial, b4, b5⟩
  · obtain ⟨x1, e, o', st, hts, FG, H', a1, -, -, -, a2⟩ := k_ren hM ht hd hs
    exact ⟨_, .inl _, H', OB_m a1 (by omega), trivial, (fun e q => by cases q), a2⟩
/-- template() takes what is typed, if the law has typed it -/
theorem k_tpl {x : Int32} (hI : ∀ j, ls_w s j = 123 → tx_T (ls_w s (j + 1)) → inst (ls_w s) j) (hd : 1200 ≤ d) (hs : OB k s H) : CR d 12004 [some (.inl x), none, none] oI (k + 1000) H (fun _ _ => True) := by
  obtain ⟨q1, q2, ⟨ρ, q3⟩, q4, q5⟩ := hs
  rcases ix_10 x with hx | ⟨t, ht, rfl⟩
  · have hX : Tq_template d x H (fun r G' => r = (Sum.inr 17 : Int32 ⊕ Nat) ∧ (∃ ρ', LC s ρ' G') ∧ yR 1 6 H G') := ow_tplX q3 hx hd (fun ρ' G' a b => ⟨rfl, ⟨ρ', a⟩, b⟩)
    obtain ⟨H', ⟨b1, b2⟩, b3, b4, -, b5⟩ := C_b (mi := 12004) (as := [some (.inl x), none, none]) (f := oI) (res := .inr 17) (by decide) rfl oI_n (fun _ => rfl) q4 (mj_X_mono hX fun _ _ q => cxI q)
    exact ⟨s, .inr 17, H', ⟨q1, q2, b1, b3, bR_m (bR_y q5 (yR_m b2 (by decide : 1 ≤ 1000) (by decide : 6 ≤ 12 * 1000)) (Nat.le_refl _)) (Nat.le_refl _)⟩, trivial, b4, b5⟩
  · obtain ⟨res, hc, hm⟩ := rw_all q1.2.1
    cases res with
    | inl q =>
      obtain ⟨p, r, L, A, H0, v1, v2, v3, hv⟩ := ow_tpl0 q1 q2 q3 ht hI hc hd
      have hX : Tq_template d (nI t) H (fun r' G' => r' = (Sum.inl (nI (ct (ls_w s) (ls_n s))) : Int32 ⊕ Nat) ∧ (∃ ρ', LC (ls_p s t p r L A H0) ρ' G') ∧ yF H G') := hv _ (fun ρ' G' a b => ⟨rfl, ⟨ρ', a⟩, b⟩)
      obtain ⟨H', ⟨b1, b2⟩, b3, b4, -, b5⟩ := C_b (mi := 12004) (as := [some (.inl (nI t)), none, none]) (f := oI) (res := .inl (nI (ct (ls_w s) (ls_n s)))) (by decide) rfl oI_n (fun _ => rfl) q4 (mj_X_mono hX fun _ _ q => cxI q)
      exact ⟨_, _, H', ⟨v1, v2, b1, b3, bR_m (bR_y q5 (yR_m b2 (by decide : 999 ≤ 1000) (by decide : 11999 ≤ 12 * 1000)) (Nat.le_refl _)) (Nat.le_refl _)⟩, trivial, b4, b5⟩
    | inr e =>
      have hX : Tq_template d (nI t) H (fun r' G' => r' = (Sum.inr 15 : Int32 ⊕ Nat) ∧ (∃ ρ', LC s ρ' G') ∧ yF H G') := ow_tplE q1 q3 ht hc d _ hd (fun ρ' G' a b => ⟨rfl, ⟨ρ', a⟩, b⟩)
      obtain ⟨H', ⟨b1, b2⟩, b3, b4, -, b5⟩ := C_b (mi := 12004) (as := [some (.inl (nI t)), none, none]) (f := oI) (res := .inr 15) (by decide) rfl oI_n (fun _ => rfl) q4 (mj_X_mono hX fun _ _ q => cxI q)
      exact ⟨s, .inr 15, H', ⟨q1, q2, b1, b3, bR_m (bR_y q5 (yR_m b2 (by decide : 999 ≤ 1000) (by decide : 11999 ≤ 12 * 1000)) (Nat.le_refl _)) (Nat.le_refl _)⟩, trivial, b4, b5⟩
/-- and never fails over whole pieces -/
theorem k_tpl3 {ls : List (List Nat)} (hM : mm_S Gm) (hT : LT (ls_w s) (ls_n s) ls 0) (hg : ∀ l, l ∈ ls → l ∈ lp_t) (ht : t < 10) (hd : 1200 ≤ d) (hs : OB k s H) : ∃ p r L A H0 H', OB (k + 1000) (ls_p s t p r L A H0) H' ∧ pa_t (ls_w s) p ∧ RV d 12004 [some (.inl (nI t)), none, none] (.inl (some (.inl (nI (ct (ls_w s) (ls_n s)))))) H H' := by
  obtain ⟨q1, q2, ⟨ρ, q3⟩, q4, q5⟩ := hs
  obtain ⟨res, hc, hm⟩ := rw_all q1.2.1
  obtain ⟨q, rfl⟩ := LT_in hM q1.2.1 hT hg (fun e he => ow_end q3.1.1 q1.2.1 q3.2.2.2.2.2.1.2 (he ▸ hc)) hm
  have hI : ∀ j, ls_w s j = 123 → tx_T (ls_w s (j + 1)) → inst (ls_w s) j := fun j h1 _ => by
    refine LT_at hT (fun l hl => Or.inl (hg l hl)) j (Nat.zero_le _) (Nat.lt_of_not_le fun q => ?_)
    rw [q1.2.1.2.2 j q] at h1
    cases h1
  obtain ⟨p, r, L, A, H0, v1, v2, v3, hv⟩ := ow_tpl0 q1 q2 q3 ht hI hc hd
  have hX : Tq_template d (nI t) H (fun r' G' => r' = (Sum.inl (nI (ct (ls_w s) (ls_n s))) : Int32 ⊕ Nat) ∧ (∃ ρ', LC (ls_p s t p r L A H0) ρ' G') ∧ yF H G') := hv _ (fun ρ' G' a b => ⟨rfl, ⟨ρ', a⟩, b⟩)
  obtain ⟨H', ⟨b1, b2⟩, b3, b4, -, b5⟩ := C_b (mi := 12004) (as := [some (.inl (nI t)), none, none]) (f := oI) (res := .inl (nI (ct (ls_w s) (ls_n s)))) (by decide) rfl oI_n (fun _ => rfl) q4 (mj_X_mono hX fun _ _ q => cxI q)
  exact ⟨p, r, L, A, H0, H', ⟨v1, v2, b1, b3, bR_m (bR_y q5 (yR_m b2 (by decide : 999 ≤ 1000) (by decide : 11999 ≤ 12 * 1000)) (Nat.le_refl _)) (Nat.le_refl _)⟩, v3, b5⟩
end H03
