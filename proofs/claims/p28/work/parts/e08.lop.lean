/-! WHERE A TEMPLATE MAY END: a loop, and what its rounds leave -/
section E08
variable {u : wo} {G : mj_G} {ch : Int32}
theorem xs_loop {r s q1 dep : Nat} {S v2 : Int32} {D : Nat} (hS : cs_S G) (hk : mj_k G r = 6) (hs80 : s ≤ 80) (hdep : dep + 1 ≤ s) (hb : xb u G ch (mj_r G r 8) s q1)
    (hce : ∀ d (K : Int32 → mj_G → Prop), D ≤ d → K v2 G → Fo_through d (mj_r G r 9) S ch (nI (dep + 1)) G K) (hD : 3 * (q1 - s) + 61 ≤ D) :
    ∀ (m : Nat) (ahead left : Int32) (i : Nat), s8 ahead → s8 left → i ≤ s8c ahead → 8 - s8c ahead ≤ m → xr u ch ahead left (jbd (mj_r G r 8)) → ∃ A l', s8 l' ∧ (∀ a, bt ahead a → bt A a) ∧ (∀ a, bt l' a → bt A a) ∧ xr u ch A l' (jbd (mj_r G r 8)) ∧ (∀ d (K : Int32 → mj_G → Prop), D ≤ d → K (l' ||| v2) G → Fo_behindLoop_21 (d + 1) r S ch (nI dep) ahead left (nI i) G K) ∧ (ne8 left → ne8 l') := by
  intro m
  induction m with
  | zero =>
    intro ahead left i ha hl hi hm hx
    have h8 := s8c_le (ahead ||| left)
    have same : (ahead ||| left) = ahead := Decidable.byContradiction (fun h => by have := s8c_lt hl h; omega)
    refine ⟨ahead, left, hl, fun a q => q, fun a q => ?_, hx, fun d K hd hK => w_Fo_behindLoop_21 hS ?_, id⟩
    · rw [← same, bt_or2]
      exact Or.inr q
    · rw [z_add]
      exact z_br (fun _ => ⟨hk, hce d _ hd hK⟩) (fun _ => z_bt same ⟨hk, hce d _ hd hK⟩)
  | succ m ih =>
    intro ahead left i ha hl hi hm hx
    by_cases same : (ahead ||| left) = ahead
    · refine ⟨ahead, left, hl, fun a q => q, fun a q => ?_, hx, fun d K hd hK => w_Fo_behindLoop_21 hS ?_, id⟩
      · rw [← same, bt_or2]
        exact Or.inr q
      · rw [z_add]
        exact z_br (fun _ => ⟨hk, hce d _ hd hK⟩) (fun _ => z_bt same ⟨hk, hce d _ hd hK⟩)
    · have hlt := s8c_lt hl same
      have h8 := s8c_le (ahead ||| left)
      have hor := s8_or ha hl
      obtain ⟨S', t1, t2, t3, t4⟩ := xs_thr hS hs80 hb (ahead ||| left) (dep + 1) hor hdep
      obtain ⟨A, l', l1, l2, l3, l4, l5, l6⟩ := ih (ahead ||| left) S' (i + 1) hor t1 (by omega) (by omega) t3
      refine ⟨A, l', l1, fun a q => l2 a (by rw [bt_or2]; exact Or.inl q), l3, l4, fun d K hd hK => w_Fo_behindLoop_21 hS ?_, fun q => l6 (t4 (ne8_or (Or.inr q)))⟩
      rw [z_add, z_add, z_le (by omega) (by omega)]
      exact z_bf (by omega) (z_bf same ⟨hk, t2 d _ (by omega) (l5 d K hd hK)⟩)
end E08
