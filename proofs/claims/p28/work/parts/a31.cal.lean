/-! A CALL, by what its callee promises -/
theorem rj_X_det {d mi pc : Nat} {ls : List (Option mj_V)} {st : List mj_V} {G : mj_G} {Q : mj_O → mj_G → Prop} (h : rj_X d mi pc ls st G Q) : ∃ o G', Q o G' ∧ mj_n G ≤ mj_n G' ∧ mj_u G ≤ mj_u G' ∧ rj_X d mi pc ls st G (fun a b => a = o ∧ b = G') := by
  obtain ⟨f, h⟩ := h
  obtain ⟨o, G', h1, h2, h3, h4⟩ := rj_XF_det h
  exact ⟨o, G', h1, h2, h3, f, h4⟩
theorem rj_X_callP {d mi pc len mt : Nat} {i : Instr} {ls : List (Option mj_V)} {st as rest : List mj_V} {G : mj_G} {P Q : mj_O → mj_G → Prop} (hat : rj_at mi pc = some (i, len)) (htg : rj_tg (mi / 1000) i = some mt) (htk : mj_tk (rj_na mt) [] st = some (as, rest)) (hw : mj_w rest ≤ 8) (hrc : rj_rc G mt as)
    (h1 : rj_X d mt 0 (mj_en as (rj_mL mt)) [] G P)
    (h2 : ∀ o G1, P o G1 → (match o with
      | .inl none => rj_X (d + 1) mi (pc + len) ls rest G1 Q
      | .inl (some v) => rj_X (d + 1) mi (pc + len) ls (v :: rest) G1 Q
      | .inr k => rj_kd mt = 1 ∧ (match rj_hn mi k with | none => rj_kd mi = 1 ∧ Q (.inr k) G1 | some (q, x) => rj_kd mi = 2 ∧ rj_X (d + 1) mi q (mj_p (mj_cl0 ls x) x none) [] G1 Q))) : rj_X (d + 1) mi pc ls st G Q := by
  obtain ⟨o, G1, hP, -, -, hX⟩ := rj_X_det h1
  have h3 := h2 o G1 hP
  rcases o with (_ | v) | k
  · exact rj_X_call hat htg htk hw hrc hX h3
  · exact rj_X_call hat htg htk hw hrc hX h3
  · exact rj_X_call hat htg htk hw hrc hX h3
