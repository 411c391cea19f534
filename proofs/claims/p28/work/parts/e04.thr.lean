/-! CONTEXTS LED ON, by the class; variables that are not safe unless set -/
/-- the variables: none of a scope that is not open; values; safe only those that some tag sets -/
def VI (u : wo) (ch : Int32) (N : Nat) (V : Nat → Nat → Option rv) : Prop := (∀ s l, N ≤ s → V s l = none) ∧ ∀ s l v, V s l = some v → rv_in (u_D u) v ∧ (bt ch l ∨ tme v)
section E04
variable {u : wo} {G : mj_G} {ch : Int32}
theorem xs_lead {c : Nat} (hc : c < 128) (S : Int32) (hS : cs_S G) : ∀ (m i : Nat) (acc : Int32), i + m = 8 → s8 acc → ∃ v, s8 v ∧ (∀ d K, 15 ≤ d → K v G → Fo_leadAll_4 (d + 1) S (nI c) acc (nI i) G K) ∧ (∀ a, a < 32 → bt acc a → bt v a) ∧ ∀ a, i ≤ a → a < 8 → bt S a → bt v (ld a c)
  | 0, i, acc, hi, ha => ⟨acc, ha, fun d K hd h => w_Fo_leadAll_4 hS hd (z_bt (by rw [z_le (by omega) (by omega)]; omega) h), fun _ _ h => h, fun a h1 h2 _ => absurd h1 (by omega)⟩
  | m + 1, i, acc, hi, ha => by
    have h0 : ¬ nI 8 ≤ nI i := by rw [z_le (by omega) (by omega)]; omega
    by_cases hb : bt S i
    · obtain ⟨-, hl, hj⟩ := ld_f (a := i) (b := c) (by omega) hc
      obtain ⟨v, v1, v2, v3, v4⟩ := xs_lead hc S hS m (i + 1) (acc ||| mm_shl (nI 1) (nI (ld i c))) (by omega) (s8_or ha (s8_1 hj))
      have or' : ∀ a, a < 32 → (bt acc a ∨ a = ld i c) → bt v a := fun a h1 h2 => v3 a h1 (by rw [bt_or (by omega) (by omega)]; exact h2)
      refine ⟨v, v1, fun d K hd h => w_Fo_leadAll_4 hS hd (z_bf h0 ?_), fun a h1 h2 => or' a h1 (Or.inl h2), fun a h1 h2 h3 => ?_⟩
      · rw [z_2003 (by omega), hl, z_add]
        exact z_bt hb (v2 d K hd h)
      · by_cases q : a = i
        · rw [q]
          exact or' _ (by omega) (Or.inr rfl)
        · exact v4 a (by omega) h2 h3
    · obtain ⟨v, v1, v2, v3, v4⟩ := xs_lead hc S hS m (i + 1) acc (by omega) ha
      refine ⟨v, v1, fun d K hd h => w_Fo_leadAll_4 hS hd (z_bf h0 ?_), v3, fun a h1 h2 h3 => ?_⟩
      · rw [z_2003 (by omega), z_add]
        exact z_bf hb (v2 d K hd h)
      · by_cases q : a = i
        · rw [q] at h3
          exact absurd h3 hb
        · exact v4 a (by omega) h2 h3
theorem VI_in {N l : Nat} {B : Nat → Nat} {V : Nat → Nat → Option rv} (hD : da (u_D u) (u_I u)) (hV : VI u ch N V) (hl : l < 26) : rv_in (u_D u) (e_vl (u_D u) B V l N) := e_vl_in hD (fun s l v q => (hV.2 s l v q).1) hl
theorem VI_tm {N l : Nat} {B : Nat → Nat} {V : Nat → Nat → Option rv} (hT : ∀ l, l < 26 → tme (u_D u l)) (hV : VI u ch N V) (hl : l < 26) (hb : ¬ bt ch l) : tme (e_vl (u_D u) B V l N) := by
  unfold e_vl
  by_cases q : e_fd B V l N N = 0
  · rw [if_pos q]
    exact hT l hl
  · rw [if_neg q]
    cases hv : V (e_fd B V l N N - 1) l with
    | none => exact tme_0
    | some v => exact (hV.2 _ _ _ hv).2.resolve_left hb
theorem VI_up {N : Nat} {V : Nat → Nat → Option rv} (h : VI u ch N V) : VI u ch (N + 1) V := ⟨fun s l hs => h.1 s l (by omega), h.2⟩
theorem VI_st {N l : Nat} {V : Nat → Nat → Option rv} {v : rv} (h : VI u ch N V) (hN : 1 ≤ N) (hv : rv_in (u_D u) v) (hb : bt ch l ∨ tme v) : VI u ch N (e_st V (N - 1) l v) := by
  refine ⟨fun s m hs => ?_, fun s m w hw => ?_⟩
  · show (if s = N - 1 ∧ m = l then some v else V s m) = none
    rw [if_neg (by omega)]
    exact h.1 s m hs
  · have hw' : (if s = N - 1 ∧ m = l then some v else V s m) = some w := hw
    by_cases q : s = N - 1 ∧ m = l
    · rw [if_pos q] at hw'
      obtain rfl := Option.some.inj hw'
      rw [q.2]
      exact ⟨hv, hb⟩
    · rw [if_neg q] at hw'
      exact h.2 s m w hw'
theorem VI_0 : VI u ch 1 (fun _ _ => none) := ⟨fun _ _ _ => rfl, fun s l v q => nomatch q⟩
end E04
