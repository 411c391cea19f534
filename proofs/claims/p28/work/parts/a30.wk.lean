/-! FORGOTTEN PLACES; STRETCHES; what a method's blocks are walked with -/
/-- ls knows less than ls2 -/
def rj_le (ls ls2 : List (Option mj_V)) : Prop := ls.length = ls2.length ∧ ∀ k v, mj_g ls k = some v → mj_g ls2 k = some v
theorem rj_le_r (ls : List (Option mj_V)) : rj_le ls ls := ⟨rfl, fun _ _ h => h⟩
theorem rj_le_0 : rj_le [] [] := rj_le_r []
theorem rj_le_n {x : Option mj_V} {a b : List (Option mj_V)} (h : rj_le a b) : rj_le (none :: a) (x :: b) := by
  refine ⟨by simp [h.1], fun k v hk => ?_⟩
  cases k with
  | zero => cases hk
  | succ k => exact h.2 k v hk
theorem rj_le_s {x : mj_V} {a b : List (Option mj_V)} (h : rj_le a b) : rj_le (some x :: a) (some x :: b) := by
  refine ⟨by simp [h.1], fun k v hk => ?_⟩
  cases k with
  | zero => exact hk
  | succ k => exact h.2 k v hk
theorem rj_le_p {a b : List (Option mj_V)} {k : Nat} {o : Option mj_V} (h : rj_le a b) : rj_le (mj_p a k o) (mj_p b k o) := by
  refine ⟨by rw [rj_p_len, rj_p_len, h.1], fun j v hj => ?_⟩
  rw [rj_g_p] at hj ⊢
  rw [← h.1]
  split at hj
  · rename_i hc
    rw [if_pos hc]
    exact hj
  · rename_i hc
    rw [if_neg hc]
    exact h.2 j v hj
theorem rj_le_cl {a b : List (Option mj_V)} {k : Nat} (h : rj_le a b) : rj_le (mj_cl0 a k) (mj_cl0 b k) := by
  refine ⟨by rw [rj_cl0_len, rj_cl0_len, h.1], fun j v hj => ?_⟩
  obtain ⟨h1, h2⟩ := rj_g_cl0 hj
  have h3 := h.2 j v h1
  unfold mj_cl0
  split
  · exact h3
  · rename_i n
    cases hL : mj_L (mj_g b n) with
    | false => exact h3
    | true =>
      simp only [cond_true]
      rw [rj_g_p]
      by_cases hjn : j = n
      · subst hjn
        rw [h3] at hL
        exact absurd ⟨rfl, hL⟩ h2
      · rw [if_neg (fun q => hjn q.1)]
        exact h3
def rj_loc (i : Instr) : Bool := match i with
  | .iload _ => true
  | .iload_n _ => true
  | .lload _ => true
  | .lload_n _ => true
  | .aload _ => true
  | .aload_n _ => true
  | .istore _ => true
  | .istore_n _ => true
  | .lstore _ => true
  | .lstore_n _ => true
  | .astore _ => true
  | .astore_n _ => true
  | .iinc _ _ => true
  | _ => false
theorem rj_s1_nl {own : Nat} {ini : Bool} {i : Instr} {len pc : Nat} {ls : List (Option mj_V)} (ls2 : List (Option mj_V)) {st : List mj_V} {G : mj_G} {K : mj_K} (hn : rj_loc i = false) :
    rj_s1 own ini i len pc ls st G K = rj_s1 own ini i len pc ls2 st G (fun q _ st G => K q ls st G) := by
  cases i
  case if_acmp c off => cases c <;> rfl
  all_goals first | rfl | cases hn
theorem rj_s1_wk {own : Nat} {ini : Bool} {i : Instr} {len pc : Nat} {ls ls2 : List (Option mj_V)} {st : List mj_V} {G : mj_G} {K K2 : mj_K} (h : rj_s1 own ini i len pc ls st G K) (hl : rj_le ls ls2)
    (hk : ∀ q a b st G, rj_le a b → K q a st G → K2 q b st G) : rj_s1 own ini i len pc ls2 st G K2 := by
  have ldi : ∀ {k : Nat} {q : Nat}, mj_ldi ls k (fun v => K q ls (v :: st) G) → mj_ldi ls2 k (fun v => K2 q ls2 (v :: st) G) := fun h => by
    obtain ⟨x, h1, h2⟩ := rj_ldi_e h
    unfold mj_ldi
    rw [hl.2 _ _ h1]
    exact hk _ _ _ _ _ hl h2
  have ldl : ∀ {k : Nat} {q : Nat}, mj_ldl ls k (fun v => K q ls (v :: st) G) → mj_ldl ls2 k (fun v => K2 q ls2 (v :: st) G) := fun h => by
    obtain ⟨x, h1, h2⟩ := rj_ldl_e h
    unfold mj_ldl
    rw [hl.2 _ _ h1]
    exact hk _ _ _ _ _ hl h2
  have lda : ∀ {k : Nat} {q : Nat}, mj_lda ls k (fun v => K q ls (v :: st) G) → mj_lda ls2 k (fun v => K2 q ls2 (v :: st) G) := fun h => by
    obtain ⟨x, h1, h2⟩ := rj_lda_e h
    unfold mj_lda
    rw [hl.2 _ _ h1]
    exact hk _ _ _ _ _ hl h2
  have sti : ∀ {k : Nat} {q : Nat}, mj_sti ls k st (fun l s => K q l s G) → mj_sti ls2 k st (fun l s => K2 q l s G) := fun h => by
    obtain ⟨x, st', rfl, h1, h2⟩ := rj_sti_e h
    show bif decide (_ < ls2.length) then _ else False
    rw [decide_eq_true (by rw [← hl.1]; exact h1)]
    exact hk _ _ _ _ _ (rj_le_p (rj_le_cl hl)) h2
  have stl : ∀ {k : Nat} {q : Nat}, mj_stl ls k st (fun l s => K q l s G) → mj_stl ls2 k st (fun l s => K2 q l s G) := fun h => by
    obtain ⟨x, st', rfl, h1, h2⟩ := rj_stl_e h
    show bif decide (_ < ls2.length) then _ else False
    rw [decide_eq_true (by rw [← hl.1]; exact h1)]
    exact hk _ _ _ _ _ (rj_le_p (rj_le_p (rj_le_cl hl))) h2
  have sta : ∀ {k : Nat} {q : Nat}, mj_sta ls k st (fun l s => K q l s G) → mj_sta ls2 k st (fun l s => K2 q l s G) := fun h => by
    obtain ⟨x, st', rfl, h1, h2⟩ := rj_sta_e h
    show bif decide (_ < ls2.length) then _ else False
    rw [decide_eq_true (by rw [← hl.1]; exact h1)]
    exact hk _ _ _ _ _ (rj_le_p (rj_le_cl hl)) h2
  have gen : rj_loc i = false → rj_s1 own ini i len pc ls st G K → rj_s1 own ini i len pc ls2 st G K2 := fun hn h => by
    rw [rj_s1_nl ls2 hn] at h ⊢
    exact rj_s1_mono h (fun _ _ _ _ hK => hk _ _ _ _ _ hl hK)
  cases i
  case iload k => exact ldi h
  case iload_n k => exact ldi h
  case lload k => exact ldl h
  case lload_n k => exact ldl h
  case aload k => exact lda h
  case aload_n k => exact lda h
  case istore k => exact sti h
  case istore_n k => exact sti h
  case lstore k => exact stl h
  case lstore_n k => exact stl h
  case astore k => exact sta h
  case astore_n k => exact sta h
  case iinc k n =>
    have h1 : (match mj_g ls k with | some (.inl x) => (bif decide (k < ls.length) then K (pc + len) (mj_s ls k (.inl (x + Int32.ofInt n))) st G else False) | _ => False) := h
    split at h1
    · rename_i x hx
      obtain ⟨h2, h3⟩ := rj_cond_e h1
      show (match mj_g ls2 k with | some (.inl x) => (bif decide (k < ls2.length) then K2 (pc + len) (mj_s ls2 k (.inl (x + Int32.ofInt n))) st G else False) | _ => False)
      rw [hl.2 _ _ hx]
      dsimp only
      rw [← hl.1, h2]
      exact hk _ _ _ _ _ (rj_le_p (rj_le_cl hl)) h3
    · exact h1.elim
  all_goals exact gen rfl h
theorem rj_XF_wk : ∀ {f d mi pc : Nat} {ls ls2 : List (Option mj_V)} {st : List mj_V} {G : mj_G} {Q : mj_O → mj_G → Prop}, rj_XF f d mi pc ls st G Q → rj_le ls ls2 → rj_XF f d mi pc ls2 st G Q
  | 0, _, _, _, _, _, _, _, _, h, _ => h.elim
  | f + 1, d, mi, pc, ls, ls2, st, G, Q, h, hl => by
    unfold rj_XF at h ⊢
    cases hat : rj_at mi pc with
    | none => rw [hat] at h; exact h.elim
    | some il =>
      obtain ⟨i, len⟩ := il
      rw [hat] at h
      dsimp only at h ⊢
      cases htg : rj_tg (mi / 1000) i with
      | some mt =>
        rw [htg] at h
        dsimp only at h ⊢
        cases htk : mj_tk (rj_na mt) [] st with
        | none => rw [htk] at h; exact h.elim
        | some ar =>
          obtain ⟨as, rest⟩ := ar
          rw [htk] at h
          dsimp only at h ⊢
          obtain ⟨hw, hrc, d', hd, hX⟩ := h
          refine ⟨hw, hrc, d', hd, rj_XF_mono hX fun o G' hm => ?_⟩
          rcases o with (_ | v) | k
          · exact rj_XF_wk hm hl
          · exact rj_XF_wk hm hl
          · obtain ⟨g2, g3⟩ := hm
            refine ⟨g2, ?_⟩
            cases hhn : rj_hn mi k with
            | none => rw [hhn] at g3; exact g3
            | some qx =>
              obtain ⟨q, x⟩ := qx
              rw [hhn] at g3
              exact ⟨g3.1, rj_XF_wk g3.2 (rj_le_p (rj_le_cl hl))⟩
      | none =>
        rw [htg] at h
        dsimp only at h ⊢
        split at h
        · exact h
        · exact h
        · exact h
        · exact h
        · rename_i k
          cases hc : rj_cl (mi / 1000) k with
          | none => rw [hc] at h; exact h.elim
          | some c =>
            rw [hc] at h
            dsimp only at h ⊢
            cases hb : Nat.ble 15 c with
            | true => rw [hb] at h; exact h
            | false =>
              rw [hb] at h
              simp only [cond_false] at h ⊢
              exact rj_s1_wk h hl fun _ _ _ _ _ hab hK => rj_XF_wk hK hab
        · exact rj_s1_wk h hl fun _ _ _ _ _ hab hK => rj_XF_wk hK hab
theorem rj_X_wk {d mi pc : Nat} {ls ls2 : List (Option mj_V)} {st : List mj_V} {G : mj_G} {Q : mj_O → mj_G → Prop} (hl : rj_le ls ls2) (h : rj_X d mi pc ls st G Q) : rj_X d mi pc ls2 st G Q := by
  obtain ⟨f, h⟩ := h
  exact ⟨f, rj_XF_wk h hl⟩
theorem rj_X_mono {d mi pc : Nat} {ls : List (Option mj_V)} {st : List mj_V} {G : mj_G} {Q Q' : mj_O → mj_G → Prop} (h : rj_X d mi pc ls st G Q) (hQ : ∀ o G, Q o G → Q' o G) : rj_X d mi pc ls st G Q' := by
  obtain ⟨f, h⟩ := h
  exact ⟨f, rj_XF_mono h hQ⟩
/-- one instruction that is no call and no end -/
theorem rj_X_s1 {d mi pc len : Nat} {i : Instr} {ls : List (Option mj_V)} {st : List mj_V} {G : mj_G} {Q : mj_O → mj_G → Prop} (hat : rj_at mi pc = some (i, len)) (htg : rj_tg (mi / 1000) i = none)
    (h : rj_s1 (mi / 1000) (bif (rj_y mi).name == "<init>" then true else false) i len pc ls st G (fun q ls st G => rj_X d mi q ls st G Q)) : rj_X d mi pc ls st G Q := by
  obtain ⟨q, ls', st', G', ⟨f, a⟩, -, -, dd⟩ := rj_s1_dt _ h
  exact ⟨f + 1, rj_XF_st hat htg fun K hK => dd K (hK _ _ _ _ a)⟩
theorem rj_X_sp {d mi : Nat} {Q : mj_O → mj_G → Prop} : ∀ {n pc : Nat} {ls : List (Option mj_V)} {st : List mj_V} {G : mj_G}, rj_sp n mi pc ls st G (fun q ls st G => rj_X d mi q ls st G Q) → rj_X d mi pc ls st G Q
  | 0, _, _, _, _, h => h
  | n + 1, pc, ls, st, G, h => by
    unfold rj_sp at h
    cases hat : rj_at mi pc with
    | none => rw [hat] at h; exact h.elim
    | some il =>
      obtain ⟨i, len⟩ := il
      rw [hat] at h
      dsimp only at h
      cases hs : rj_stop mi i with
      | true => rw [hs] at h; exact h
      | false =>
        rw [hs] at h
        simp only [cond_false] at h
        have htg : rj_tg (mi / 1000) i = none := by
          cases ht : rj_tg (mi / 1000) i with
          | none => rfl
          | some t =>
            unfold rj_stop at hs
            rw [ht] at hs
            cases hs
        refine rj_X_s1 hat htg (rj_s1_mono h fun q ls st G hq => ?_)
        cases hb : Nat.ble q pc with
        | true => rw [hb] at hq; exact hq
        | false =>
          rw [hb] at hq
          exact rj_X_sp hq
section MXE
variable {d mi len pc : Nat} {ls : List (Option mj_V)} {G : mj_G} {Q : mj_O → mj_G → Prop}
theorem rj_X_ir {x : Int32} (hat : rj_at mi pc = some (.ireturn, len)) (hr : rj_ro mi x) (h : Q (.inl (some (.inl x))) G) : rj_X d mi pc ls [.inl x] G Q := ⟨1, rj_XF_ir (f := 0) hat ⟨hr, h⟩⟩
theorem rj_X_lr {x : Int64} (hat : rj_at mi pc = some (.lreturn, len)) (hr : rj_rt mi = some .long) (h : Q (.inl (some (.inr (.inl x)))) G) : rj_X d mi pc ls [.inr (.inl x)] G Q := ⟨1, rj_XF_lr (f := 0) hat ⟨hr, h⟩⟩
theorem rj_X_ar {x : Nat} (hat : rj_at mi pc = some (.areturn, len)) (hr : rj_rr mi = true) (h : Q (.inl (some (.inr (.inr x)))) G) : rj_X d mi pc ls [.inr (.inr x)] G Q := ⟨1, rj_XF_ar (f := 0) hat ⟨hr, h⟩⟩
theorem rj_X_vr (hat : rj_at mi pc = some (.return_, len)) (hr : rj_rt mi = none) (h : Q (.inl none) G) : rj_X d mi pc ls [] G Q := ⟨1, rj_XF_vr (f := 0) hat ⟨hr, h⟩⟩
theorem rj_X_th {k c : Nat} (hat : rj_at mi pc = some (.new k, len)) (hc : rj_cl (mi / 1000) k = some c) (hb : Nat.ble 15 c = true) (hkd : rj_kd mi = 1) (h8 : 8 ≤ d) (h : Q (.inr c) (mj_al G (c + 1) 6 (fun _ => 0))) : rj_X d mi pc ls [] G Q := ⟨1, rj_XF_th (f := 0) hat hc hb ⟨hkd, h8, h⟩⟩
end MXE
