/-! A CALL, by what its callee promises -/
theorem mj_X_det {d mi pc : Nat} {ls : List (Option mj_V)} {st : List mj_V} {G : mj_G} {Q : mj_O → mj_G → Prop} (h : mj_X d mi pc ls st G Q) : ∃ o G', Q o G' ∧ mj_n G ≤ mj_n G' ∧ mj_u G ≤ mj_u G' ∧ mj_X d mi pc ls st G (fun a b => a = o ∧ b = G') := by
  obtain ⟨f, h⟩ := h
  obtain ⟨o, G', h1, h2, h3, h4⟩ := mj_XF_det h
  exact ⟨o, G', h1, h2, h3, f, h4⟩
theorem mj_X_callP {d mi pc len mt : Nat} {i : Instr} {ls : List (Option mj_V)} {st as rest : List mj_V} {G : mj_G} {P Q : mj_O → mj_G → Prop} (hat : mj_at mi pc = some (i, len)) (htg : mj_tg (mi / 1000) i = some mt) (htk : mj_tk (mj_na mt) [] st = some (as, rest)) (hw : mj_w rest ≤ 8) (hrc : mj_rc G mt as)
    (h1 : mj_X d mt 0 (mj_en as (mj_mL mt)) [] G P)
    (h2 : ∀ o G1, P o G1 → (match o with
      | .inl none => mj_X (d + 1) mi (pc + len) ls rest G1 Q
      | .inl (some v) => mj_X (d + 1) mi (pc + len) ls (v :: rest) G1 Q
      | .inr k => mj_kd mi = 2 ∧ mj_kd mt = 1 ∧ (match mj_hn mi k with | none => False | some (q, x) => mj_X (d + 1) mi q (mj_p (mj_cl0 ls x) x none) [] G1 Q))) : mj_X (d + 1) mi pc ls st G Q := by
  obtain ⟨o, G1, hP, -, -, hX⟩ := mj_X_det h1
  have h3 := h2 o G1 hP
  rcases o with (_ | v) | k
  · exact mj_X_call hat htg htk hw hrc hX h3
  · exact mj_X_call hat htg htk hw hrc hX h3
  · exact mj_X_call hat htg htk hw hrc hX h3
