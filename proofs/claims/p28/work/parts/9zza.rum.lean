/-! RENDERING from its top, by the model -/
def rS2 (j : Nat) : Prop := rS j ∨ j = 64
def rR2 (a : Nat) : Prop := rR a ∨ a = 1761
/-- the model's fields as a rendering begins -/
def m_b0 (f : mm_F) : mm_F := (mj_u2 (mj_u2 (mj_u2 (mj_u2 (mj_u2 (mj_u2 (mj_u2 (mj_u2 (mj_u2 (mj_u2 (mj_u2 (mj_u2 (mj_u2 (mj_u2 (mj_u2 (mj_u2 f 1714 64 (f 1714 61)) 1714 61 (nI 0)) 1714 62 (nI 0)) 1714 68 (nI 0)) 1714 69 (nI 0)) 1714 70 (nI 0)) 1714 26 (nI 0)) 1714 30 (nI 0)) 1714 21 (nI 320)) 1714 34 (nI 0)) 1714 33 (nI 1)) 1714 42 (Int32.ofInt (-1))) 1714 41 (nI 0)) 1714 43 (nI 0)) 1714 44 (nI 0)) 1714 66 (nI 0))
theorem m_b0_f {f : mm_F} : mw no_R rS2 no_R f (m_b0 f) ∧ (m_b0 f) 1714 64 = (f 1714 61) ∧ (m_b0 f) 1714 61 = (nI 0) ∧ (m_b0 f) 1714 62 = (nI 0) ∧ (m_b0 f) 1714 68 = (nI 0) ∧ (m_b0 f) 1714 69 = (nI 0) ∧ (m_b0 f) 1714 70 = (nI 0) ∧ (m_b0 f) 1714 26 = (nI 0) ∧ (m_b0 f) 1714 30 = (nI 0) ∧ (m_b0 f) 1714 21 = (nI 320) ∧ (m_b0 f) 1714 34 = (nI 0) ∧ (m_b0 f) 1714 33 = (nI 1) ∧ (m_b0 f) 1714 42 = (Int32.ofInt (-1)) ∧ (m_b0 f) 1714 41 = (nI 0) ∧ (m_b0 f) 1714 43 = (nI 0) ∧ (m_b0 f) 1714 44 = (nI 0) ∧ (m_b0 f) 1714 66 = (nI 0) := by
  exact ⟨(mw_t (mw_t (mw_t (mw_t (mw_t (mw_t (mw_t (mw_t (mw_t (mw_t (mw_t (mw_t (mw_t (mw_t (mw_t (mw_S (by unfold rS2 rS; omega)) (mw_S (by unfold rS2 rS; omega))) (mw_S (by unfold rS2 rS; omega))) (mw_S (by unfold rS2 rS; omega))) (mw_S (by unfold rS2 rS; omega))) (mw_S (by unfold rS2 rS; omega))) (mw_S (by unfold rS2 rS; omega))) (mw_S (by unfold rS2 rS; omega))) (mw_S (by unfold rS2 rS; omega))) (mw_S (by unfold rS2 rS; omega))) (mw_S (by unfold rS2 rS; omega))) (mw_S (by unfold rS2 rS; omega))) (mw_S (by unfold rS2 rS; omega))) (mw_S (by unfold rS2 rS; omega))) (mw_S (by unfold rS2 rS; omega))) (mw_S (by unfold rS2 rS; omega))), ((z_u2m (by decide)).trans ((z_u2m (by decide)).trans ((z_u2m (by decide)).trans ((z_u2m (by decide)).trans ((z_u2m (by decide)).trans ((z_u2m (by decide)).trans ((z_u2m (by decide)).trans ((z_u2m (by decide)).trans ((z_u2m (by decide)).trans ((z_u2m (by decide)).trans ((z_u2m (by decide)).trans ((z_u2m (by decide)).trans ((z_u2m (by decide)).trans ((z_u2m (by decide)).trans ((z_u2m (by decide)).trans z_u2s))))))))))))))), ((z_u2m (by decide)).trans ((z_u2m (by decide)).trans ((z_u2m (by decide)).trans ((z_u2m (by decide)).trans ((z_u2m (by decide)).trans ((z_u2m (by decide)).trans ((z_u2m (by decide)).trans ((z_u2m (by decide)).trans ((z_u2m (by decide)).trans ((z_u2m (by decide)).trans ((z_u2m (by decide)).trans ((z_u2m (by decide)).trans ((z_u2m (by decide)).trans ((z_u2m (by decide)).trans z_u2s)))))))))))))), ((z_u2m (by decide)).trans ((z_u2m (by decide)).trans ((z_u2m (by decide)).trans ((z_u2m (by decide)).trans ((z_u2m (by decide)).trans ((z_u2m (by decide)).trans ((z_u2m (by decide)).trans ((z_u2m (by decide)).trans ((z_u2m (by decide)).trans ((z_u2m (by decide)).trans ((z_u2m (by decide)).trans ((z_u2m (by decide)).trans ((z_u2m (by decide)).trans z_u2s))))))))))))), ((z_u2m (by decide)).trans ((z_u2m (by decide)).trans ((z_u2m (by decide)).trans ((z_u2m (by decide)).trans ((z_u2m (by decide)).trans ((z_u2m (by decide)).trans ((z_u2m (by decide)).trans ((z_u2m (by decide)).trans ((z_u2m (by decide)).trans ((z_u2m (by decide)).trans ((z_u2m (by decide)).trans ((z_u2m (by decide)).trans z_u2s)))))))))))), ((z_u2m (by decide)).trans ((z_u2m (by decide)).trans ((z_u2m (by decide)).trans ((z_u2m (by decide)).trans ((z_u2m (by decide)).trans ((z_u2m (by decide)).trans ((z_u2m (by decide)).trans ((z_u2m (by decide)).trans ((z_u2m (by decide)).trans ((z_u2m (by decide)).trans ((z_u2m (by decide)).trans z_u2s))))))))))), ((z_u2m (by decide)).trans ((z_u2m (by decide)).trans ((z_u2m (by decide)).trans ((z_u2m (by decide)).trans ((z_u2m (by decide)).trans ((z_u2m (by decide)).trans ((z_u2m (by decide)).trans ((z_u2m (by decide)).trans ((z_u2m (by decide)).trans ((z_u2m (by decide)).trans z_u2s)))))))))), ((z_u2m (by decide)).trans ((z_u2m (by decide)).trans ((z_u2m (by decide)).trans ((z_u2m (by decide)).trans ((z_u2m (by decide)).trans ((z_u2m (by decide)).trans ((z_u2m (by decide)).trans ((z_u2m (by decide)).trans ((z_u2m (by decide)).trans z_u2s))))))))), ((z_u2m (by decide)).trans ((z_u2m (by decide)).trans ((z_u2m (by decide)).trans ((z_u2m (by decide)).trans ((z_u2m (by decide)).trans ((z_u2m (by decide)).trans ((z_u2m (by decide)).trans ((z_u2m (by decide)).trans z_u2s)))))))), ((z_u2m (by decide)).trans ((z_u2m (by decide)).trans ((z_u2m (by decide)).trans ((z_u2m (by decide)).trans ((z_u2m (by decide)).trans ((z_u2m (by decide)).trans ((z_u2m (by decide)).trans z_u2s))))))), ((z_u2m (by decide)).trans ((z_u2m (by decide)).trans ((z_u2m (by decide)).trans ((z_u2m (by decide)).trans ((z_u2m (by decide)).trans ((z_u2m (by decide)).trans z_u2s)))))), ((z_u2m (by decide)).trans ((z_u2m (by decide)).trans ((z_u2m (by decide)).trans ((z_u2m (by decide)).trans ((z_u2m (by decide)).trans z_u2s))))), ((z_u2m (by decide)).trans ((z_u2m (by decide)).trans ((z_u2m (by decide)).trans ((z_u2m (by decide)).trans z_u2s)))), ((z_u2m (by decide)).trans ((z_u2m (by decide)).trans ((z_u2m (by decide)).trans z_u2s))), ((z_u2m (by decide)).trans ((z_u2m (by decide)).trans z_u2s)), ((z_u2m (by decide)).trans z_u2s), z_u2s⟩
section ZZA
variable {u : wo} {Gm : mj_G} {f f' f1 : mm_F} {p q d T : Nat} {e : Int32} {K : Int32 → mm_F → Prop} {V : Nat → Nat → Option rv} {o : ost} {ra rd : Nat → Int32} {sp : Nat → Bool} {st hts : Nat} {FG : Nat → kfr} {V' : Nat → Nat → Option rv} {o' : ost} {ra' rd' : Nat → Int32} {sp' : Nat → Bool} {st' hts' : Nat} {FG' : Nat → kfr}
/-- the output kept for the next time -/
theorem p_r23 {x1 : Int32} {oQ : ost} (hM : mm_S Gm) (ho : oM f oQ) (hK : ∀ f', mw no_R no_R (fun a => a = 1761) f f' → (∀ i, i < o_n oQ → f' 1761 i = om (o_c oQ i)) → m_render_23 Gm (d + 1) x1 (nI (o_n oQ)) f' K) : ∀ {n j : Nat} {f1 : mm_F}, j + n = o_n oQ → mw no_R no_R (fun a => a = 1761) f f1 → (∀ i, i < j → f1 1761 i = om (o_c oQ i)) → m_render_23 Gm (d + 1) x1 (nI j) f1 K
  | 0, j, f1, hj, F, h => by
    rw [show j = o_n oQ by omega]
    exact hK f1 F (fun i hi => h i (by omega))
  | n + 1, j, f1, hj, F, h => by
    have h300 := ho.1.1
    have nr : ∀ a, no_R a → False := fun a q => q
    refine w_m_render_23 hM (z_bf (by rw [F.2.1 61 (nr _), ho.2.1, z_le (by omega) (by omega)]; omega) (z_ixi (by omega) (by omega) (z_ixi (by omega) (by omega) ?_)))
    rw [F.1 1759 j (by decide) (by decide) (by decide), ho.2.2.2.1 j (by omega), z_add]
    refine p_r23 hM ho hK (n := n) (by omega) (mw_t F (mw_R (by decide) rfl)) (fun i hi => ?_)
    by_cases q : i = j
    · rw [q]
      exact z_u2s
    · exact (z_u2m q).trans (h i (by omega))
/-- a rendering, by the model -/
theorem run_M {tg : Nat} {S : Nat → Nat} {oP oQ : ost} (hM : mm_S Gm) (hu : uP u) (hw : wM u f) (hf : fgM f FG) (hoQ : oM f oQ) (hP : o_ok oP) (ht : tg < 10) (hd : 1500 ≤ d)
    (hb : (l_of (u_pa u) tg).1 = true → sgM u Gm ((l_of (u_pa u) tg).2.2 ((l_of (u_pa u) tg).2.1 - 1)) 1 (fun _ => 0) 0 S (l_of (u_pa u) tg).2.1 (l_of (u_pa u) tg).2.2 0 [] (fun _ _ => none) (o_z oP) ra rd sp 0 0 FG 0 (u_n u ((l_of (u_pa u) tg).2.2 ((l_of (u_pa u) tg).2.1 - 1))) e V' o' ra' rd' sp' st' hts' FG')
    (hno : ¬ (l_of (u_pa u) tg).1 = true → e = Int32.ofInt (-8) ∧ st' = 0 ∧ hts' = 0 ∧ FG' = FG)
    (hK : ∀ f' oE, wM u f' → f' 1714 68 = nI st' → f' 1714 69 = nI hts' → fgM f' FG' → oM f' oE → (e = nI 0 → oE = o') → (¬ e = nI 0 → o_n oE = 0) → f' 1714 64 = nI (o_n oQ) → (∀ i, i < o_n oQ → f' 1761 i = om (o_c oQ i)) → mw al rS2 rR2 f f' → K (if e = nI 0 then nI (o_n o') else e) f') : m_render_23 Gm (d + 1) (nI tg) (nI 0) f K := by
  have nr : ∀ a, no_R a → False := fun a q => q
  have hbu := hu.2.1
  refine p_r23 hM hoQ (fun f1 F1 k1 => ?_) (n := o_n oQ) (j := 0) (Nat.zero_add _) mw_r (fun i hi => absurd hi (Nat.not_lt_zero i))
  have e61 : f1 1714 61 = nI (o_n oQ) := (F1.2.1 61 (nr _)).trans hoQ.2.1
  refine w_m_render_23 hM (z_bt (by rw [e61, z_le (by have := hoQ.1.1; omega) (by have := hoQ.1.1; omega)]; exact Nat.le_refl _) ?_)
  show m_laysLine Gm d (nI 0) (nI tg) (m_b0 f1) _
  obtain ⟨F2, g64, g61, g62, g68, g69, g70, g26, g30, g21, g34, g33, g42, g41, g43, g44, g66⟩ := m_b0_f (f := f1)
  generalize m_b0 f1 = f2 at F2 g64 g61 g62 g68 g69 g70 g26 g30 g21 g34 g33 g42 g41 g43 g44 g66 ⊢
  have w1 := wM_f hw F1 (nr _) (fun a q => by omega)
  have w2 := wM_f w1 F2 (by unfold rS2 rS; omega) (fun a q => absurd q (nr a))
  have fg2 := fgM_f (fgM_f hf F1 (fun a q => by omega)) F2 (fun a q => absurd q (nr a))
  have row1 : ∀ a i, a ≠ 1761 → a ≠ 1714 → ¬ (1728 ≤ a ∧ a ≤ 1732) → f1 a i = f a i := fun a i h1 h2 h3 => F1.1 a i h2 h3 h1
  have row2 : ∀ a i, a ≠ 1714 → ¬ (1728 ≤ a ∧ a ≤ 1732) → f2 a i = f1 a i := fun a i h2 h3 => F2.1 a i h2 h3 (nr a)
  have o2 : oM f2 (o_z oP) := ⟨o_zk hP, g61, g62, fun i hi => absurd hi (Nat.not_lt_zero i), fun i hi => by
    have hi0 : i = 0 := Nat.le_zero.mp hi
    subst hi0
    show f2 1760 0 = nI (o_x oP 0)
    rw [row2 _ _ (by decide) (by decide), row1 _ _ (by decide) (by decide) (by decide), hoQ.2.2.2.2 0 (Nat.zero_le _), hoQ.1.2.1, hP.2.1]⟩
  have Fa : mw al rS2 rR2 f f2 := mw_t (mw_m F1 (fun _ _ => trivial) (fun _ q => absurd q (nr _)) (fun a q => Or.inr q)) (mw_m F2 (fun _ _ => trivial) (fun _ q => q) (fun _ q => absurd q (nr _)))
  have hW : ∀ i, i < o_n oQ → f2 1761 i = om (o_c oQ i) := fun i hi => (row2 _ _ (by decide) (by decide)).trans (k1 i hi)
  obtain ⟨d, rfl⟩ : ∃ y, d = y + 1 := ⟨d - 1, by omega⟩
  refine p_laysLine hM (by decide) (by omega) ht w2.1 g70 (fun f3 F3 O3 h1 h2 => ?_)
  have nv : ∀ a, R_l a → a = 1737 ∨ a = 1738 := fun a q => q
  have w3 := wM_f w2 F3 (by decide) (fun a q => by have := nv a q; omega)
  have fg3 := fgM_f fg2 F3 (fun a q => by have := nv a q; omega)
  have o3 := oM_f o2 F3 ⟨by decide, by decide⟩ ⟨by unfold R_l; decide, by unfold R_l; decide⟩
  have s3 : ∀ j, j ≠ 70 → f3 1714 j = f2 1714 j := fun j hj => F3.2.1 j hj
  have Fb : mw al rS2 rR2 f f3 := mw_t Fa (mw_m F3 (fun _ _ => trivial) (fun j q => by unfold rS2 rS; omega) (fun a q => by have := nv a q; unfold rR2 rR; omega))
  have hW3 : ∀ i, i < o_n oQ → f3 1761 i = om (o_c oQ i) := fun i hi => (F3.1 1761 i (by decide) (by decide) (by unfold R_l; decide)).trans (hW i hi)
  by_cases hok : (l_of (u_pa u) tg).1 = true
  case neg =>
    have h70 := h2 hok
    obtain ⟨n1, n2, n3, n4⟩ := hno hok
    have he : ¬ e = nI 0 := by rw [n1]; decide
    have n8 : ¬ (Int32.ofInt (-8)) = nI 0 := by decide
    refine z_bf (by rw [h70]; exact n8) (z_bf (by rw [h70]; exact n8) ?_)
    have z70 : (mj_u2 f3 1714 61 (nI 0)) 1714 70 = Int32.ofInt (-8) := (z_u2m (by decide)).trans h70
    refine z_bf (by rw [z70]; exact n8) ?_
    rw [z70]
    have F4 : mw no_R (fun j => j = 61) no_R f3 (mj_u2 f3 1714 61 (nI 0)) := mw_S rfl
    have hk := hK (mj_u2 f3 1714 61 (nI 0)) (o_z oP) (wM_f w3 F4 (by decide) (fun a q => absurd q (nr a))) (by rw [n2]; exact (z_u2m (by decide)).trans ((s3 68 (by decide)).trans g68)) (by rw [n3]; exact (z_u2m (by decide)).trans ((s3 69 (by decide)).trans g69)) (by rw [n4]; exact fgM_f fg3 F4 (fun a q => absurd q (nr a))) ⟨o_zk hP, z_u2s, (z_u2m (by decide)).trans o3.2.2.1, fun i hi => absurd hi (Nat.not_lt_zero i), fun i hi => (z_u2n (by decide)).trans (o3.2.2.2.2 i hi)⟩ (fun q => absurd q he) (fun _ => rfl) ((z_u2m (by decide)).trans ((s3 64 (by decide)).trans (g64.trans e61))) (fun i hi => (z_u2n (by decide)).trans (hW3 i hi)) (mw_t Fb (mw_m F4 (fun _ _ => trivial) (fun j q => by unfold rS2 rS; omega) (fun a q => absurd q (nr a))))
    rw [if_neg he, n1] at hk
    exact hk
  obtain ⟨h3, h70⟩ := h1 hok
  have hpa : ∀ t, t < 10 → u_pa u t ≤ 10 := fun t ht => (hu.2.2.2 t ht).2.1
  obtain ⟨l1, l2, l3, l4⟩ := l_go_p hpa (m := 10) (n := 0) (t := tg) (c := fun _ => 0) ht (fun k hk => absurd hk (by omega)) hok
  have l1' : (l_of (u_pa u) tg).2.1 ≤ 10 := by
    have : (l_of (u_pa u) tg).2.1 = (l_go (u_pa u) 10 0 (fun _ => 0) tg).2.1 := rfl
    omega
  have l2' : 1 ≤ (l_of (u_pa u) tg).2.1 := l2
  have l3' : ∀ k, k < (l_of (u_pa u) tg).2.1 → (l_of (u_pa u) tg).2.2 k < 10 := l3
  have hb' := hb hok
  generalize (l_of (u_pa u) tg).2.1 = n' at l1' l2' l3' h3 hb'
  generalize (l_of (u_pa u) tg).2.2 = c' at l3' h3 hb'
  have hT' := l3' (n' - 1) (by omega)
  have hn80 := (hu.2.2.2 _ hT').1.1
  refine z_bt h70 (z_ixi (by decide) (by decide) ?_)
  rw [h3.1, z_sub l2']
  refine z_ixi (by omega) (by omega) ?_
  rw [show f3 1737 (n' - 1) = nI (c' (n' - 1)) by have := (h3.2 (n' - 1) (by omega)).1; rw [Nat.mul_zero, Nat.zero_add] at this; exact this]
  refine z_ixi hT' (by omega) ?_
  rw [((w3.1 _ hT').1).2.2.1]
  -- the outermost scope
  have me0 : me f3 (u_D u) 0 (fun _ => 0) (fun _ _ => none) := ⟨Nat.zero_le _, fun s hs => absurd hs (Nat.not_lt_zero s), 0, Nat.zero_le _, (s3 30 (by decide)).trans g30, fun k hk => absurd hk (Nat.not_lt_zero k), fun s l v q => absurd q (by simp)⟩
  have mu0 : mu f3 0 := ⟨Nat.zero_le _, (s3 30 (by decide)).trans g30, fun k j hk => absurd hk (Nat.not_lt_zero k)⟩
  have mb0 : mb f3 0 (fun _ => 0) 0 := ⟨(s3 26 (by decide)).trans g26, fun s hs => absurd hs (Nat.not_lt_zero s)⟩
  refine w_m_scoped hM (p_opensScope (x := 0) (N := 0) hM me0 mu0 mb0 (by decide) (Nat.le_refl 0) (fun f4 F4 i1 i2 i3 i4 => ?_))
  have no : ∀ a, R_o a → a = 1733 ∨ a = 1734 := fun a q => q
  have s4 : ∀ j, ¬ (j = 26 ∨ j = 27) → f4 1714 j = f3 1714 j := fun j hj => F4.2.1 j hj
  have w4 := wM_f w3 F4 (by decide) (fun a q => by have := no a q; omega)
  have fg4 := fgM_f fg3 F4 (fun a q => by have := no a q; omega)
  have o4 := oM_f o3 F4 ⟨by decide, by decide⟩ ⟨by unfold R_o; decide, by unfold R_o; decide⟩
  have r4 : ∀ a i, ¬ (a = 1733 ∨ a = 1734) → a ≠ 1714 → ¬ (1728 ≤ a ∧ a ≤ 1732) → f4 a i = f3 a i := fun a i h1 h2 h3 => F4.1 a i h2 h3 (fun q => h1 (no a q))
  have t4 : ∀ j, ¬ (j = 26 ∨ j = 27) → j ≠ 70 → f4 1714 j = f2 1714 j := fun j h1 h2 => (s4 j h1).trans (s3 j h2)
  have hMM : MM u f4 1 (fun _ => 0) 0 S n' c' 0 [] (fun _ _ => none) (o_z oP) ra rd sp 0 0 FG (nI 0) (fun _ => 0) 0 0 1 (Int32.ofInt (-1)) 0 0 (nI 320) := by
    refine ⟨w4, ⟨Nat.le_refl _, i4, (t4 21 (by decide) (by decide)).trans g21, (t4 34 (by decide) (by decide)).trans g34, by decide, by decide, by decide, (t4 33 (by decide) (by decide)).trans g33, ⟨(r4 _ _ (by decide) (by decide) (by decide)).trans h3.1, fun k hk => ⟨(r4 _ _ (by decide) (by decide) (by decide)).trans (h3.2 k hk).1, (h3.2 k hk).2⟩⟩, l1', (t4 43 (by decide) (by decide)).trans g43, (t4 41 (by decide) (by decide)).trans g41, Nat.le_refl _, (t4 42 (by decide) (by decide)).trans g42, Or.inl rfl, (t4 66 (by decide) (by decide)).trans g66⟩, ⟨me_cg i1 (fun s hs => by unfold e_bh; by_cases q : s = 0 <;> simp [q]) rfl, i2, mb_cg i3 (fun s hs => by unfold e_bh; by_cases q : s = 0 <;> simp [q]), ⟨Nat.zero_le _, (t4 44 (by decide) (by decide)).trans g44, fun k hk => absurd hk (Nat.not_lt_zero k)⟩, fun s _ => Nat.zero_le _, fun k hk => absurd hk (Nat.not_lt_zero k)⟩, (t4 68 (by decide) (by decide)).trans g68, Nat.zero_le _, hbu, (t4 69 (by decide) (by decide)).trans g69, (s4 70 (by decide)).trans h70, o4, fg4⟩
  have Fc : mw al rS2 rR2 f f4 := mw_t Fb (mw_m F4 (fun _ _ => trivial) (fun j q => by unfold rS2 rS; omega) (fun a q => by have := no a q; unfold rR2 rR; omega))
  refine bd_M hM hb' hMM hn80 (Nat.le_refl _) (by omega) (by omega) (by omega) (fun f5 vc5 m5 g5 _ => ?_)
  obtain ⟨x1, x2, ⟨y1, y2, y3, y4, y5, y6⟩, x4, x5, x6, x7, x8, x9, x0⟩ := m5
  refine p_closesScope (N := 0) (y := f3 1714 27) hM y1 y2 y3 (fun f6 F6 _ _ _ _ => ?_)
  have w6 := wM_f x1 F6 (by decide) (fun a q => absurd q (nr a))
  have fg6 := fgM_f x0 F6 (fun a q => absurd q (nr a))
  have o6 := oM_f x9 F6 ⟨by decide, by decide⟩ ⟨nr _, nr _⟩
  have s6 : ∀ j, ¬ (j = 26 ∨ j = 27 ∨ j = 30) → f6 1714 j = f5 1714 j := fun j hj => F6.2.1 j hj
  have e70 : f6 1714 70 = e := (s6 70 (by decide)).trans x8
  have Fd : mw al rS2 rR2 f f6 := mw_t Fc (mw_t (mw_m g5.1 (fun _ q => q) (fun _ q => Or.inl q) (fun _ q => Or.inl q)) (mw_m F6 (fun _ _ => trivial) (fun j q => by unfold rS2 rS; omega) (fun a q => absurd q (nr a))))
  have e64 : f6 1714 64 = nI (o_n oQ) := (s6 64 (by decide)).trans ((g5.1.2.1 64 (by unfold rS; omega)).trans ((t4 64 (by decide) (by decide)).trans (g64.trans e61)))
  have hW6 : ∀ i, i < o_n oQ → f6 1761 i = om (o_c oQ i) := fun i hi => (F6.1 1761 i (by decide) (by decide) (nr _)).trans ((g5.1.1 1761 i (by decide) (by decide) (by unfold rR; omega)).trans ((r4 _ _ (by decide) (by decide) (by decide)).trans (hW3 i hi)))
  by_cases he : e = nI 0
  · have e61' : mj_u2 f6 1714 61 (f6 1714 61) = f6 := by
      funext a i
      unfold mj_u2
      by_cases q : a = 1714 ∧ i = 61
      · rw [if_pos q, q.1, q.2]
      · rw [if_neg q]
    rw [e61']
    refine z_bt (e70.trans he) (z_bt (e70.trans he) ?_)
    have hk := hK f6 o' w6 ((s6 68 (by decide)).trans x4) ((s6 69 (by decide)).trans x7) fg6 o6 (fun _ => rfl) (fun q => absurd he q) e64 hW6 Fd
    rw [if_pos he] at hk
    rw [o6.2.1]
    exact hk
  · have F7 : mw no_R (fun j => j = 61) no_R f6 (mj_u2 f6 1714 61 (nI 0)) := mw_S rfl
    have z70 : (mj_u2 f6 1714 61 (nI 0)) 1714 70 = e := (z_u2m (by decide)).trans e70
    refine z_bf (by rw [e70]; exact he) (z_bf (by rw [z70]; exact he) ?_)
    rw [z70]
    have hk := hK (mj_u2 f6 1714 61 (nI 0)) (0, o_c o', o_x o', o_w o') (wM_f w6 F7 (by decide) (fun a q => absurd q (nr a))) ((z_u2m (by decide)).trans ((s6 68 (by decide)).trans x4)) ((z_u2m (by decide)).trans ((s6 69 (by decide)).trans x7)) (fgM_f fg6 F7 (fun a q => absurd q (nr a))) ⟨⟨Nat.zero_le _, o6.1.2.1, fun i hi => absurd hi (Nat.not_lt_zero i)⟩, z_u2s, (z_u2m (by decide)).trans o6.2.2.1, fun i hi => absurd hi (Nat.not_lt_zero i), fun i hi => (z_u2n (by decide)).trans (o6.2.2.2.2 i (Nat.le_trans hi (Nat.zero_le _)))⟩ (fun q => absurd q he) (fun _ => rfl) ((z_u2m (by decide)).trans e64) (fun i hi => (z_u2n (by decide)).trans (hW6 i hi)) (mw_t Fd (mw_m F7 (fun _ _ => trivial) (fun j q => by unfold rS2 rS; omega) (fun a q => absurd q (nr a))))
    rw [if_neg he] at hk
    exact hk
end ZZA
