/-! WHAT HOLDS OF THE LAW'S STATES -/
/-- pieces alone in the templates; no text of the data is safe; sound fragments; sources; a budget -/
def LXq (s : lst) : Prop := LW (ls_u s) ∧ (∀ l, l < 26 → rv_t (u_D (ls_u s) l) = 2 → rv_s (u_D (ls_u s) l) = false) ∧ SF (ls_u s) (ls_F s) ∧ FS (ls_F s) ∧ OS (ls_o s) ∧ 1 ≤ u_bu (ls_u s)
/-- a call, whatever heap holds its state -/
def opv (Cl : Nat → mj_G → (Int32 ⊕ Nat → mj_G → Prop) → Prop) (cz : Int32 ⊕ Nat → Nat × Nat) (P : lst → lst → Int32 ⊕ Nat → Prop) : Prop := ∀ s, LQ s → ∃ s' res, LQ s' ∧ P s s' res ∧ ∀ d ρ G K, 1200 ≤ d → LC s ρ G → (∀ ρ' G', LC s' ρ' G' → yR (cz res).1 (cz res).2 G G' → K res G') → Cl d G K
theorem yR_i {c e : Nat} {G G' : mj_G} (h : yR c e G G') (_ : True) (_ : True) : yR c e G G' := h
theorem LX_v {s : lst} {l n : Nat} {v : rv} {it : Nat → rv} {w : Nat → Nat} (h : LXq s) (hv : rv_t v = 2 → rv_s v = false) : LXq (ls_v s l v it n w) := by
  obtain ⟨h1, h2, h3, h4, h5, h6⟩ := h
  refine ⟨h1, fun m hm => ?_, h3, h4, h5, h6⟩
  show rv_t (g_u (u_D (ls_u s)) l v m) = 2 → rv_s (g_u (u_D (ls_u s)) l v m) = false
  by_cases q : m = l
  · rw [q, g_us]
    exact hv
  · rw [g_un q]
    exact h2 m hm
theorem LX_tm {s : lst} (h : LXq s) : ∀ l, l < 26 → tme (u_D (ls_u s) l) := fun l hl t q => by
  rw [h.2.1 l hl t] at q
  exact absurd q (by decide)
/-! a world with another output of the time before renders the same -/
section G00
variable {u : wo} {x0 n0 : Nat} {c0 : Nat → Nat}
theorem AGk_wo {N : Nat} {B : Nat → Nat} {M : Nat} {S : Nat → Nat} {V : Nat → Nat → Option rv} {m2 : Nat} {lt : Nat → Nat} : ∀ n, AGk (wo_r u x0 n0 c0) N B M S V m2 lt n = AGk u N B M S V m2 lt n
  | 0 => rfl
  | n + 1 => by
    funext r j un ga av ra rd e ga' av' ra' rd'
    unfold AGk
    rw [AGk_wo n]
    rfl
theorem DFk_wo {N : Nat} {B : Nat → Nat} {M : Nat} {S : Nat → Nat} {V : Nat → Nat → Option rv} {m2 : Nat} {lt x : Nat → Nat} : ∀ n, DFk (wo_r u x0 n0 c0) N B M S V m2 lt x n = DFk u N B M S V m2 lt x n
  | 0 => rfl
  | n + 1 => by
    funext i g ra rd e g' ra' rd'
    unfold DFk
    rw [DFk_wo n]
    rfl
theorem CLL_wo {r N : Nat} {B : Nat → Nat} {M : Nat} {S : Nat → Nat} {lc : Nat} {ln : Nat → Nat} {V : Nat → Nat → Option rv} {ra rd : Nat → Int32} {c rm m2 T2 : Nat} {x a : Nat → Nat} {e : Int32} {g' : Nat → Option rv} {ra' rd' : Nat → Int32} : CLL (wo_r u x0 n0 c0) r N B M S lc ln V ra rd c rm m2 T2 x a e g' ra' rd' = CLL u r N B M S lc ln V ra rd c rm m2 T2 x a e g' ra' rd' := by
  have e1 : @AG (wo_r u x0 n0 c0) = @AG u := by
    funext N B M S V m2 lt r j un ga av ra rd e ga' av' ra' rd'
    unfold AG
    simp only [AGk_wo]
  have e2 : @DF (wo_r u x0 n0 c0) = @DF u := by
    funext N B M S V m2 lt x i g ra rd e g' ra' rd'
    unfold DF
    simp only [DFk_wo]
  unfold CLL
  rw [e1, e2]
  rfl
theorem OI_wo {r N : Nat} {B : Nat → Nat} {M : Nat} {S : Nat → Nat} {lc : Nat} {ln : Nat → Nat} {op : Nat} {ch : List en} {V : Nat → Nat → Option rv} {ra rd : Nat → Int32} {sp : Nat → Bool} {e : Int32} {ra' rd' : Nat → Int32} {sp' : Nat → Bool} : OI (wo_r u x0 n0 c0) r N B M S lc ln op ch V ra rd sp e ra' rd' sp' = OI u r N B M S lc ln op ch V ra rd sp e ra' rd' sp' := by
  unfold OI
  simp only [CLL_wo]
  rfl
theorem OO_wo {r N : Nat} {B : Nat → Nat} {M : Nat} {S : Nat → Nat} {lc : Nat} {ln : Nat → Nat} {op : Nat} {ch : List en} {V : Nat → Nat → Option rv} {ra rd : Nat → Int32} {sp : Nat → Bool} {r8 xx lc' : Nat} {ln' : Nat → Nat} {ch' : List en} {V1 : Nat → Nat → Option rv} {ra' rd' : Nat → Int32} {sp' : Nat → Bool} : OO (wo_r u x0 n0 c0) r N B M S lc ln op ch V ra rd sp r8 xx lc' ln' ch' V1 ra' rd' sp' = OO u r N B M S lc ln op ch V ra rd sp r8 xx lc' ln' ch' V1 ra' rd' sp' := by
  unfold OO
  simp only [CLL_wo]
  rfl
theorem ST_wo {r N : Nat} {B : Nat → Nat} {M : Nat} {S : Nat → Nat} {lc : Nat} {ln : Nat → Nat} {op : Nat} {ch : List en} {V : Nat → Nat → Option rv} {o : ost} {ra rd : Nat → Int32} {sp : Nat → Bool} {FG : Nat → kfr} {e : Int32} {s' : sS} (h : ST (wo_r u x0 n0 c0) r (N, B, M, S, lc, ln, op, ch) (V, o, ra, rd, sp, FG) e s') : ST u r (N, B, M, S, lc, ln, op, ch) (V, o, ra, rd, sp, FG) e s' := by
  rcases h with h | h | h | h | h | h | h | h | ⟨ra1, rd1, sp1, h, h2⟩ | h | h
  · exact Or.inl h
  · exact Or.inr (Or.inl h)
  · exact Or.inr (Or.inr (Or.inl h))
  · exact Or.inr (Or.inr (Or.inr (Or.inl h)))
  · exact Or.inr (Or.inr (Or.inr (Or.inr (Or.inl h))))
  · exact Or.inr (Or.inr (Or.inr (Or.inr (Or.inr (Or.inl h)))))
  · exact Or.inr (Or.inr (Or.inr (Or.inr (Or.inr (Or.inr (Or.inl h))))))
  · exact Or.inr (Or.inr (Or.inr (Or.inr (Or.inr (Or.inr (Or.inr (Or.inl h)))))))
  · exact Or.inr (Or.inr (Or.inr (Or.inr (Or.inr (Or.inr (Or.inr (Or.inr (Or.inl ⟨ra1, rd1, sp1, (OI_wo ▸ h), h2⟩))))))))
  · exact Or.inr (Or.inr (Or.inr (Or.inr (Or.inr (Or.inr (Or.inr (Or.inr (Or.inr (Or.inl h)))))))))
  · exact Or.inr (Or.inr (Or.inr (Or.inr (Or.inr (Or.inr (Or.inr (Or.inr (Or.inr (Or.inr (h))))))))))
theorem SBk_wo : ∀ {n : Nat} {j : sj} {X : sX} {s : sS} {e : Int32} {s' : sS}, SBk (wo_r u x0 n0 c0) n j X s e s' → SBk u n j X s e s'
  | 0, _, _, _, _, _, h => h.elim
  | n + 1, (0, r, _, _), X, s, e, s', h => by
    rcases h with h | ⟨h0, e1, s1, h1, h2⟩
    · exact Or.inl h
    · exact Or.inr ⟨h0, e1, s1, SBk_wo h1, h2.imp id (fun q => ⟨q.1, SBk_wo q.2⟩)⟩
  | n + 1, (1, r, _, _), (N, B, M, S, lc, ln, op, ch), (V, o, ra, rd, sp, FG), e, s', h => by
    rcases h with h | ⟨T, p, v, ra1, rd1, h1, h2, h3⟩ | ⟨T, p, v, ra1, rd1, h1, h2, h3, h4⟩ | ⟨T, p, e1, V1, o1, ra1, rd1, sp1, FG1, h1, h2, h3⟩ | ⟨r8, xx, lc', ln', ch', V1, ra1, rd1, sp1, V', o', ra', rd', sp', FG', h1, h2, h3⟩ | ⟨T, p, i, V', o', ra', rd', sp', FG', h1, h2, h3, h4, h5, h6, h7, h8, h9⟩
    · exact Or.inl (ST_wo h)
    · exact Or.inr (Or.inl ⟨T, p, v, ra1, rd1, h1, h2, SBk_wo h3⟩)
    · exact Or.inr (Or.inr (Or.inl ⟨T, p, v, ra1, rd1, h1, h2, h3, h4.imp (fun q => ⟨q.1, SBk_wo q.2⟩) (fun q => ⟨q.1, SBk_wo q.2⟩)⟩))
    · exact Or.inr (Or.inr (Or.inr (Or.inl ⟨T, p, e1, V1, o1, ra1, rd1, sp1, FG1, h1, SBk_wo h2, h3.imp id (fun q => ⟨q.1, q.2.1, SBk_wo q.2.2⟩)⟩)))
    · exact Or.inr (Or.inr (Or.inr (Or.inr (Or.inl ⟨r8, xx, lc', ln', ch', V1, ra1, rd1, sp1, V', o', ra', rd', sp', FG', (OO_wo ▸ h1), SBk_wo h2, h3⟩))))
    · exact Or.inr (Or.inr (Or.inr (Or.inr (Or.inr ⟨T, p, i, V', o', ra', rd', sp', FG', h1, h2, h3, h4, h5, h6, h7, SBk_wo h8, h9⟩))))
  | n + 1, (k + 2, r, j, v), (N, B, M, S, lc, ln, op, ch), (V, o, ra, rd, sp, FG), e, s', h => by
    rcases h with h | ⟨h0, l, e1, V1, o1, ra1, rd1, sp1, FG1, h1, h2, h3, h4⟩
    · exact Or.inl h
    · exact Or.inr ⟨h0, l, e1, V1, o1, ra1, rd1, sp1, FG1, h1, h2, SBk_wo h3, h4.imp id (fun q => ⟨q.1, SBk_wo q.2⟩)⟩
theorem RR_wo {tg : Nat} {FG FG1 : Nat → kfr} {e : Int32} {o : ost} (h : RR (wo_r u x0 n0 c0) tg FG e o FG1) : RR u tg FG e o FG1 := by
  rcases h with ⟨h1, V', ra', rd', sp', n, h⟩ | h
  · exact Or.inl ⟨h1, V', ra', rd', sp', n, SBk_wo h⟩
  · exact Or.inr h
end G00
