/-! RENDERING, by both sides -/
section ZZU
variable {u : wo} {Gm : mj_G} {tg : Nat} {oP : ost} {FG : Nat → kfr}
/-- a rendering comes out the same by both sides -/
theorem run_J (hM : mm_S Gm) (hu : uP u) (ht : tg < 10) : ∃ (e : Int32) (o' : ost) (st' hts' : Nat) (FG' : Nat → kfr), st' ≤ u_bu u ∧
    (∀ (ρ : Nat → Nat) (G : mj_G) (d : Nat) (K : Int32 → mj_G → Prop), hh ρ (u_D u) (u_I u) G → wC u ρ G → fgC u ρ G FG → oC G oP → mj_i G 6 6 = nI (u_bu u) → (mj_r G 1589 2 = 1590 ∨ mj_r G 1589 2 = 1591) → mj_r G 1589 2 ≠ mj_r G 1589 0 → u_o2 u = mj_r G 1589 0 → u_on u = o_n oP → u_oc u = o_c oP → 303 ≤ d → (∀ ρ' G' o1, rE u ρ G (if e = nI 0 then o' else o_z o1) st' hts' FG' ρ' G' → K (if e = nI 0 then nI (o_n o') else e) G') → Rn_run (d + 1) (nI tg) G K) ∧
    (∀ (f : mm_F) (oQ : ost) (d : Nat) (K : Int32 → mm_F → Prop), wM u f → fgM f FG → oM f oQ → o_ok oP → 1500 ≤ d → (∀ f' oE, wM u f' → f' 1714 68 = nI st' → f' 1714 69 = nI hts' → fgM f' FG' → oM f' oE → (e = nI 0 → oE = o') → (¬ e = nI 0 → o_n oE = 0) → f' 1714 64 = nI (o_n oQ) → (∀ i, i < o_n oQ → f' 1761 i = om (o_c oQ i)) → mw al rS2 rR2 f f' → K (if e = nI 0 then nI (o_n o') else e) f') → m_render_23 Gm (d + 1) (nI tg) (nI 0) f K) := by
  have hpa : ∀ t, t < 10 → u_pa u t ≤ 10 := fun t ht => (hu.2.2.2 t ht).2.1
  have hbu := hu.2.1
  by_cases hok : (l_of (u_pa u) tg).1 = true
  · obtain ⟨l1, l2, l3, l4⟩ := l_go_p hpa (m := 10) (n := 0) (t := tg) (c := fun _ => 0) ht (fun k hk => absurd hk (by omega)) hok
    have l1' : (l_of (u_pa u) tg).2.1 ≤ 10 := by
      have : (l_of (u_pa u) tg).2.1 = (l_go (u_pa u) 10 0 (fun _ => 0) tg).2.1 := rfl
      omega
    have l2' : 1 ≤ (l_of (u_pa u) tg).2.1 := l2
    have l3' : ∀ k, k < (l_of (u_pa u) tg).2.1 → (l_of (u_pa u) tg).2.2 k < 10 := l3
    have l4' : u_pa u ((l_of (u_pa u) tg).2.2 ((l_of (u_pa u) tg).2.1 - 1)) = 0 := l4
    have hT := l3' ((l_of (u_pa u) tg).2.1 - 1) (by omega)
    obtain ⟨hW, -, s, k, hs, hB⟩ := hu.2.2.2 _ hT
    have hn := hW.1
    have hs0 : s = 0 := by
      rw [l4'] at hs
      rcases hs with ⟨a, -⟩ | ⟨-, -, -, a, -, b⟩
      · exact a
      · exfalso
        have a' : 48 ≤ u_w u ((l_of (u_pa u) tg).2.2 ((l_of (u_pa u) tg).2.1 - 1)) 2 ∧ u_w u ((l_of (u_pa u) tg).2.2 ((l_of (u_pa u) tg).2.1 - 1)) 2 ≤ 57 := a
        generalize u_w u ((l_of (u_pa u) tg).2.2 ((l_of (u_pa u) tg).2.1 - 1)) 2 = w at a' b
        obtain ⟨i, hi, hw⟩ : ∃ i, i < 10 ∧ w = 48 + i := ⟨w - 48, by omega, by omega⟩
        rw [hw, Nat.add_sub_cancel_left] at b
        have hsh : sh 0 = Int32.ofInt (-1) := rfl
        rw [hsh] at b
        clear hB hW a a'
        rcases i with _ | _ | _ | _ | _ | _ | _ | _ | _ | _ | i
        all_goals first
          | exact absurd b (by decide)
          | omega
    subst hs0
    generalize hS : (fun _ : Nat => 0) = S
    have hx : pX u 1 (fun _ => 0) 0 S (l_of (u_pa u) tg).2.1 (l_of (u_pa u) tg).2.2 0 [] := ⟨Nat.le_refl _, by decide, l1', l3', fun s => Nat.zero_le _, Nat.le_refl _, fun k hk => absurd hk (Nat.not_lt_zero k), fun y hy => by cases hy⟩
    have hV : pV u 1 (fun _ _ => none) := fun s l v q => absurd q (by simp)
    have ra : Nat → Int32 := fun _ => nI 0
    obtain ⟨e, V', o', ra', rd', sp', st', hts', FG', j1, j2, j3⟩ := bd_0 (o := o_z oP) (ra := ra) (rd := ra) (sp := fun _ => false) (hts := 0) (FG := FG) hB hV (Nat.zero_le _) (fun hr => bd_every hM hu _ hT _ _ _ _ _ _ hB (fun y hy => hy) (Nat.le_refl _) hr _ _ _ _ _ _ _ (fun _ _ => none) (o_z oP) ra ra (fun _ => false) 0 0 FG hx hV (Nat.zero_le _))
    refine ⟨e, o', st', hts', FG', j1.2.2.2.2, fun ρ G d K a1 a2 a3 a4 a5 a6 a7 a8 a9 a10 a11 a12 => ?_, fun f oQ d K a1 a2 a3 a4 a5 a6 => ?_⟩
    · exact run_C a1 a2 a3 a4 a5 hbu a6 a7 a8 a9 a10 ht hpa a11 hn (fun _ => j2) (fun q => absurd hok q) a12
    · exact run_M hM hu a1 a2 a3 a4 ht a5 (fun _ => j3) (fun q => absurd hok q) a6
  · have ra : Nat → Int32 := fun _ => nI 0
    refine ⟨Int32.ofInt (-8), oP, 0, 0, FG, Nat.zero_le _, fun ρ G d K a1 a2 a3 a4 a5 a6 a7 a8 a9 a10 a11 a12 => ?_, fun f oQ d K a1 a2 a3 a4 a5 a6 => ?_⟩
    · exact run_C (V' := fun _ _ => none) (ra := ra) (rd := ra) (ra' := ra) (rd' := ra) (sp := fun _ => false) (sp' := fun _ => false) (S := fun _ => 0) a1 a2 a3 a4 a5 hbu a6 a7 a8 a9 a10 ht hpa a11 (Nat.zero_le 80) (fun q => absurd q hok) (fun _ => ⟨rfl, rfl, rfl, rfl⟩) a12
    · exact run_M (V' := fun _ _ => none) (ra := ra) (rd := ra) (ra' := ra) (rd' := ra) (sp := fun _ => false) (sp' := fun _ => false) (S := fun _ => 0) hM hu a1 a2 a3 a4 ht a5 (fun q => absurd q hok) (fun _ => ⟨rfl, rfl, rfl, rfl⟩) a6
end ZZU
