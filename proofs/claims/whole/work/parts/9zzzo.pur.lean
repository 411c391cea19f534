/-! THE PURE CLAIM -/
theorem mw_pure : mj_Pure 1536 600000 7200000 := by
  intro L xs hL
  have key : ∀ ρ : Nat → Int32, ρ 0 = nI L → (∀ k, ρ (2 * k + 1) = xs k) → mj_X 2047 14018 0 (mj_en [.inr (.inr 1)] 7) [] (mj_G0 L xs) (fun o G => o = .inl (some (.inl (Int32.ofInt 1))) ∧ mj_n G ≤ 600003 ∧ mj_u G ≤ 7200000) := by
    intro ρ h0 hx
    have h1 : (ρ 0).toNatClampNeg = L := by rw [h0]; exact z_tn (by omega)
    have hρ : ¬ ρ 0 < 0 := by
      rw [h0, show (0 : Int32) = nI 0 from rfl, z_lt (by omega) (by decide)]
      omega
    have hI := s0_I (ρ := ρ)
    rw [h1] at hI
    have X := lw_loop hL 513 0 _ hI (by omega) (by omega)
    have P := mw_pre hρ X
    rw [mw_G0 h1 hx] at P
    exact P
  exact key (fun k => if k = 0 then nI L else xs ((k - 1) / 2)) (if_pos rfl) (fun k => by
    show (if 2 * k + 1 = 0 then nI L else xs ((2 * k + 1 - 1) / 2)) = xs k
    rw [if_neg (by omega), show (2 * k + 1 - 1) / 2 = k from by omega])
