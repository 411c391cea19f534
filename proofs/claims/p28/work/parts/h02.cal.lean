/-! THE CALLS, on the law's two objects -/
def oI : Int32 ⊕ Nat → mj_O
  | .inl v => .inl (some (.inl v))
  | .inr k => .inr k
def oV : Int32 ⊕ Nat → mj_O
  | .inl _ => .inl none
  | .inr k => .inr k
theorem oI_n (r : Int32 ⊕ Nat) (φ : Nat → Nat) : zv_o φ (oI r) = oI r := by cases r <;> rfl
theorem oV_n (r : Int32 ⊕ Nat) (φ : Nat → Nat) : zv_o φ (oV r) = oV r := by cases r <;> rfl
def nl1 : Option mj_V → Bool
  | some (.inr (.inr _)) => false
  | _ => true
def nl (as : List (Option mj_V)) : Bool := as.all nl1
theorem nl_L : ∀ {as : List (Option mj_V)}, nl as = true → ∀ φ, zv_L φ as = as
  | [], _, _ => rfl
  | o :: as, h, φ => by
    have h' : (nl1 o && nl as) = true := h
    rw [Bool.and_eq_true] at h'
    show o.map (zv_m φ) :: zv_L φ as = _
    rw [nl_L h'.2 φ]
    rcases o with _ | (v | (v | v))
    · rfl
    · rfl
    · rfl
    · cases h'.1
theorem nl_D {as : List (Option mj_V)} (h : nl as = true) (D : Nat → Prop) : zv_lD D as := fun o ho v e => by
  have h1 := List.all_eq_true.mp h o ho
  subst e
  rcases v with v | (v | v)
  · trivial
  · trivial
  · cases h1
theorem cxI {K : Int32 ⊕ Nat → mj_G → Prop} {o : mj_O} {G : mj_G} (h : cx_I K o G) : cs_S G ∧ ∃ r, oI r = o ∧ K r G := by
  obtain ⟨a, ⟨v, rfl, b⟩ | ⟨v, rfl, b⟩⟩ := h
  · exact ⟨a, .inl v, rfl, b⟩
  · exact ⟨a, .inr v, rfl, b⟩
theorem cxZ {K : Int32 ⊕ Nat → mj_G → Prop} {o : mj_O} {G : mj_G} (h : cx_Z (fun r G' => K (rZ r) G') o G) : cs_S G ∧ ∃ r, oI r = o ∧ K r G := by
  obtain ⟨a, ⟨v, rfl, b⟩ | ⟨v, rfl, b⟩⟩ := h
  · exact ⟨a, .inl (bI v), rfl, b⟩
  · exact ⟨a, .inr v, rfl, b⟩
theorem cxV {K : Int32 ⊕ Nat → mj_G → Prop} {o : mj_O} {G : mj_G} (h : cx_V (fun r G' => K (rU r) G') o G) : cs_S G ∧ ∃ r, oV r = o ∧ K r G := by
  obtain ⟨a, ⟨rfl, b⟩ | ⟨v, rfl, b⟩⟩ := h
  · exact ⟨a, .inl (nI 0), rfl, b⟩
  · exact ⟨a, .inr v, rfl, b⟩
theorem cx1 {K : Int32 ⊕ Nat → mj_G → Prop} {o : mj_O} {G : mj_G} (h : ∃ v, o = .inl (some (.inl v)) ∧ cs_S G ∧ K (.inl v) G) : cs_S G ∧ ∃ r, oI r = o ∧ K r G := by
  obtain ⟨v, rfl, a, b⟩ := h
  exact ⟨a, .inl v, rfl, b⟩
/-- the room that is spent: units of a cell and 12 slots -/
def bR (k : Nat) (H : mj_G) : Prop := mj_n H + pw 1 2 H ≤ 3888 + k ∧ mj_u H + pw 300 8 H ≤ 564798 + 12 * k
def OB (k : Nat) (s : lst) (H : mj_G) : Prop := LQ s ∧ LXq s ∧ (∃ ρ, LC s ρ H) ∧ jw_J H ∧ bR k H
/-- a call came to a state and a heap, an answer or what is thrown -/
def CR (d mi : Nat) (as : List (Option mj_V)) (f : Int32 ⊕ Nat → mj_O) (k : Nat) (H : mj_G) (P : lst → Int32 ⊕ Nat → Prop) : Prop := ∃ s' res H', OB k s' H' ∧ P s' res ∧ (∀ e, res = .inr e → e = 15 ∨ e = 16 ∨ e = 17) ∧ RV d mi as (f res) H H'
section H02
variable {s : lst} {H G : mj_G} {d k mi c : Nat} {as : List (Option mj_V)} {f : Int32 ⊕ Nat → mj_O}
theorem bR_y {e : Nat} {H' : mj_G} (h : bR k H) (y : yR c e H H') (he : e ≤ 12 * c) : bR (k + c) H' := ⟨by have := h.1; have := y.2.2.2.1; omega, by have := h.2; have := y.2.2.2.2; omega⟩
theorem bR_m {k' : Nat} (h : bR k H) (hk : k ≤ k') : bR k' H := ⟨by have := h.1; omega, by have := h.2; omega⟩
theorem OB_m {k' : Nat} (h : OB k s H) (hk : k ≤ k') : OB k' s H := ⟨h.1, h.2.1, h.2.2.1, h.2.2.2.1, bR_m h.2.2.2.2 hk⟩
theorem C_b {res : Int32 ⊕ Nat} {R : mj_G → Prop} (hmi : mi / 1000 < 13) (hnl : nl as = true) (hf : ∀ r φ, zv_o φ (f r) = f r) (hfi : ∀ e, f (.inr e) = .inr e) (hJ : jw_J H) (hX : mj_X d mi 0 (some (.inr (.inr 3)) :: as) [] H (fun o G1 => cs_S G1 ∧ ∃ r, f r = o ∧ r = res ∧ R G1)) : ∃ H', R H' ∧ jw_J H' ∧ (∀ e, res = .inr e → e = 15 ∨ e = 16 ∨ e = 17) ∧ mj_u H ≤ mj_u H' ∧ RV d mi as (f res) H H' := by
  obtain ⟨o, H', ⟨hS, r, rfl, rfl, hR⟩, hJ', ho, hu, hr⟩ := LE hmi (nl_L hnl) (nl_D hnl) hJ hX (fun o G h => by
    obtain ⟨hS, r, rfl, -⟩ := h
    exact ⟨cs_k hS (by decide), hf r⟩)
  refine ⟨H', hR, hJ', fun e q => ?_, hu, hr⟩
  rw [q, hfi] at ho
  exact ho
/-- of a call that is told for all heaps -/
theorem C_v {Cl : Nat → mj_G → (Int32 ⊕ Nat → mj_G → Prop) → Prop} {cz : Int32 ⊕ Nat → Nat × Nat} {P : lst → lst → Int32 ⊕ Nat → Prop} (hop : opv Cl cz P) (hmi : mi / 1000 < 13) (hnl : nl as = true) (hf : ∀ r φ, zv_o φ (f r) = f r) (hfi : ∀ e, f (.inr e) = .inr e) (hCl : ∀ G K, Cl d G K → mj_X d mi 0 (some (.inr (.inr 3)) :: as) [] G (fun o G1 => cs_S G1 ∧ ∃ r, f r = o ∧ K r G1)) (hd : 1200 ≤ d) (hc : ∀ r, (cz r).1 ≤ c ∧ (cz r).2 ≤ 12 * c) (hP : ∀ s' res, P s s' res → LXq s → LXq s') (hs : OB k s H) : CR d mi as f (k + c) H (fun s' res => P s s' res) := by
  obtain ⟨q1, q2, ⟨ρ, q3⟩, q4, q5⟩ := hs
  obtain ⟨s', res, a1, a2, a3⟩ := hop s q1
  have hX := hCl H (fun r G' => r = res ∧ (∃ ρ', LC s' ρ' G') ∧ yR (cz res).1 (cz res).2 H G') (a3 d ρ H _ hd q3 (fun ρ' G' b1 b2 => ⟨rfl, ⟨ρ', b1⟩, b2⟩))
  obtain ⟨H', ⟨b1, b2⟩, b3, b4, -, b5⟩ := C_b hmi hnl hf hfi q4 hX
  exact ⟨s', res, H', ⟨a1, hP _ _ a2 q2, b1, b3, bR_m (bR_y q5 (yR_m b2 (hc res).1 (hc res).2) (Nat.le_refl _)) (Nat.le_refl _)⟩, a2, b4, b5⟩
theorem hc1 : ∀ r : Int32 ⊕ Nat, ((match r with | .inl _ => ((0, 0) : Nat × Nat) | .inr _ => (1, 6)).1 ≤ 1 ∧ (match r with | .inl _ => ((0, 0) : Nat × Nat) | .inr _ => (1, 6)).2 ≤ 12 * 1) := fun r => by
  cases r
  · exact ⟨Nat.zero_le _, Nat.zero_le _⟩
  · exact ⟨Nat.le_refl 1, Nat.le_of_ble_eq_true rfl⟩
theorem hc9 : ∀ _r : Int32 ⊕ Nat, (((999, 11999) : Nat × Nat).1 ≤ 1000 ∧ ((999, 11999) : Nat × Nat).2 ≤ 12 * 1000) := fun _ => ⟨by decide, by decide⟩
theorem LX_zz {n : Nat} {w z : Nat → Nat} (h : LXq s) : LXq (ls_z s n w z) := h
theorem k_type (hc : c < 65536) (hd : 1200 ≤ d) (hs : OB k s H) : CR d 12001 [some (.inl (nI c))] oI (k + 1) H (fun s' res => (s' = s ∧ (∃ k, res = .inr k ∧ (k = 15 ∨ k = 16)) ∧ ¬ (32 ≤ c ∧ c ≤ 126 ∧ ls_n s < 80)) ∨ (32 ≤ c ∧ c ≤ 126 ∧ ls_n s < 80 ∧ s' = ls_z s (ls_n s + 1) (g_u (ls_w s) (ls_n s) c) (ls_k s) ∧ res = .inl (nI (ls_n s + 1)))) := C_v (ov_type hc) (by decide) rfl oI_n (fun _ => rfl) (fun _ _ h => mj_X_mono h fun _ _ q => cxI q) hd hc1 (fun s' res hP hx => by
  rcases hP with ⟨rfl, -⟩ | ⟨-, -, -, rfl, -⟩
  · exact hx
  · exact LX_zz hx) hs
theorem k_wipe (hd : 1200 ≤ d) (hs : OB k s H) : CR d 12002 [none] oI (k + 1) H (fun s' res => s' = ls_z s 0 (fun _ => 0) (ls_k s) ∧ res = .inl (nI (ls_n s))) := C_v ov_wipe (by decide) rfl oI_n (fun _ => rfl) (fun _ _ h => mj_X_mono h fun _ _ q => cx1 q) hd hc1 (fun s' res hP hx => by
  obtain ⟨rfl, -⟩ := hP
  exact LX_zz hx) hs
theorem k_message {x y : Int32} (hd : 1200 ≤ d) (hs : OB k s H) : CR d 12005 [some (.inl x), some (.inl y), none, none] oI (k + 1000) H (fun s' _ => LXq s → LXq s') := C_v ov_message (by decide) rfl oI_n (fun _ => rfl) (fun _ _ h => mj_X_mono h fun _ _ q => cxI q) hd hc9 (fun _ _ h => h) hs
theorem k_number {y : Int32} (hc : c < 65536) (hd : 1200 ≤ d) (hs : OB k s H) : CR d 12006 [some (.inl (nI c)), some (.inl y), none] oV (k + 1000) H (fun s' _ => LXq s → LXq s') := C_v (ov_number hc) (by decide) rfl oV_n (fun _ => rfl) (fun _ _ h => mj_X_mono h fun _ _ q => cxV q) hd hc9 (fun _ _ h => h) hs
theorem k_text (hc : c < 65536) (hd : 1200 ≤ d) (hs : OB k s H) : CR d 12007 [some (.inl (nI c)), none] oI (k + 1000) H (fun s' _ => LXq s → LXq s') := C_v (ov_text hc) (by decide) rfl oI_n (fun _ => rfl) (fun _ _ h => mj_X_mono h fun _ _ q => cxI q) hd hc9 (fun _ _ h => h) hs
theorem k_list (hc : c < 65536) (hd : 1200 ≤ d) (hs : OB k s H) : CR d 12008 [some (.inl (nI c)), none] oV (k + 1000) H (fun s' _ => LXq s → LXq s') := C_v (ov_list hc) (by decide) rfl oV_n (fun _ => rfl) (fun _ _ h => mj_X_mono h fun _ _ q => cxV q) hd hc9 (fun _ _ h => h) hs
theorem k_add {y : Int32} (hc : c < 65536) (hd : 1200 ≤ d) (hs : OB k s H) : CR d 12009 [some (.inl (nI c)), some (.inl y), none] oI (k + 1000) H (fun s' _ => LXq s → LXq s') := C_v (ov_add hc) (by decide) rfl oI_n (fun _ => rfl) (fun _ _ h => mj_X_mono h fun _ _ q => cxI q) hd hc9 (fun _ _ h => h) hs
theorem k_addText (hc : c < 65536) (hd : 1200 ≤ d) (hs : OB k s H) : CR d 12010 [some (.inl (nI c))] oI (k + 1000) H (fun s' _ => LXq s → LXq s') := C_v (ov_addText hc) (by decide) rfl oI_n (fun _ => rfl) (fun _ _ h => mj_X_mono h fun _ _ q => cxI q) hd hc9 (fun _ _ h => h) hs
theorem k_clear (hc : c < 65536) (hd : 1200 ≤ d) (hs : OB k s H) : CR d 12011 [some (.inl (nI c)), none] oI (k + 1000) H (fun s' _ => LXq s → LXq s') := C_v (ov_clear hc) (by decide) rfl oI_n (fun _ => rfl) (fun _ _ h => mj_X_mono h fun _ _ q => cxZ q) hd hc9 (fun _ _ h => h) hs
theorem k_budget {x : Int32} (hd : 1200 ≤ d) (hs : OB k s H) : CR d 12015 [some (.inl x), none] oI (k + 1) H (fun s' res => (LXq s → LXq s') ∧ ∀ b, 1 ≤ b → b ≤ 2000 → x = nI b → s' = ls_e s b ∧ res = .inl (nI (u_bu (ls_u s)))) := C_v ov_budget (by decide) rfl oI_n (fun _ => rfl) (fun _ _ h => mj_X_mono h fun _ _ q => cxI q) hd hc1 (fun _ _ h => h.1) hs
theorem k_shape {x : Int32} (hc : c < 65536) (hd : 1200 ≤ d) (hs : OB k s H) : CR d 12027 [some (.inl (nI c)), some (.inl x), none] oI (k + 1) H (fun s' _ => LXq s → LXq s') := C_v (ov_shape hc) (by decide) rfl oI_n (fun _ => rfl) (fun _ _ h => mj_X_mono h fun _ _ q => cxI q) hd hc1 (fun _ _ h => h) hs
theorem k_spent (hd : 1200 ≤ d) (hs : OB k s H) : CR d 12017 [] oI (k + 1) H (fun s' res => s' = s ∧ res = .inl (nI (ls_t s))) := C_v ov_spent (by decide) rfl oI_n (fun _ => rfl) (fun _ _ h => mj_X_mono h fun _ _ q => cx1 q) hd hc1 (fun _ _ h hx => h.1 ▸ hx) hs
theorem k_hits (hd : 1200 ≤ d) (hs : OB k s H) : CR d 12018 [] oI (k + 1) H (fun s' res => s' = s ∧ res = .inl (nI (ls_h s))) := C_v ov_hits (by decide) rfl oI_n (fun _ => rfl) (fun _ _ h => mj_X_mono h fun _ _ q => cx1 q) hd hc1 (fun _ _ h hx => h.1 ▸ hx) hs
theorem k_kept (hd : 1200 ≤ d) (hs : OB k s H) : CR d 12019 [none, none] oI (k + 1) H (fun s' res => s' = s ∧ res = .inl (nI (kp (ls_F s) 10))) := C_v ov_kept (by decide) rfl oI_n (fun _ => rfl) (fun _ _ h => mj_X_mono h fun _ _ q => cx1 q) hd hc1 (fun _ _ h hx => h.1 ▸ hx) hs
theorem k_out {x : Int32} (hd : 1200 ≤ d) (hs : OB k s H) : CR d 12020 [some (.inl x)] oI (k + 1) H (fun s' res => s' = s ∧ (∀ k, k < o_n (ls_o s) → x = nI k → res = .inl (nI (o_c (ls_o s) k % 128))) ∧ ∀ k, o_n (ls_o s) ≤ k → k < 2 ^ 31 → x = nI k → res = .inr 17) := C_v ov_out (by decide) rfl oI_n (fun _ => rfl) (fun _ _ h => mj_X_mono h fun _ _ q => cxI q) hd hc1 (fun _ _ h hx => h.1 ▸ hx) hs
theorem k_outAnew {x : Int32} (hd : 1200 ≤ d) (hs : OB k s H) : CR d 12021 [some (.inl x), none, none] oI (k + 1) H (fun s' res => s' = s ∧ (∀ k, k < o_n (ls_o s) → x = nI k → res = .inl (nI (o_c (ls_o s) k % 128))) ∧ ∀ k, o_n (ls_o s) ≤ k → k < 2 ^ 31 → x = nI k → res = .inr 17) := C_v ov_outAnew (by decide) rfl oI_n (fun _ => rfl) (fun _ _ h => mj_X_mono h fun _ _ q => cxI q) hd hc1 (fun _ _ h hx => h.1 ▸ hx) hs
theorem k_source {x : Int32} (hd : 1200 ≤ d) (hs : OB k s H) : CR d 12022 [some (.inl x)] oI (k + 1) H (fun s' res => s' = s ∧ (∀ k, k < o_n (ls_o s) → x = nI k → res = .inl (nI (o_c (ls_o s) k / 262144))) ∧ ∀ k, o_n (ls_o s) ≤ k → k < 2 ^ 31 → x = nI k → res = .inr 17) := C_v ov_source (by decide) rfl oI_n (fun _ => rfl) (fun _ _ h => mj_X_mono h fun _ _ q => cxI q) hd hc1 (fun _ _ h hx => h.1 ▸ hx) hs
theorem k_context {x : Int32} (hd : 1200 ≤ d) (hs : OB k s H) : CR d 12023 [some (.inl x)] oI (k + 1) H (fun s' res => s' = s ∧ (∀ k, k ≤ o_n (ls_o s) → x = nI k → res = .inl (nI (o_x (ls_o s) k))) ∧ ∀ k, o_n (ls_o s) < k → k < 2 ^ 31 → x = nI k → res = .inr 17) := C_v ov_context (by decide) rfl oI_n (fun _ => rfl) (fun _ _ h => mj_X_mono h fun _ _ q => cxI q) hd hc1 (fun _ _ h hx => h.1 ▸ hx) hs
theorem k_alike (hd : 1200 ≤ d) (hs : OB k s H) : CR d 12024 [] oI (k + 1) H (fun s' res => s' = s ∧ res = .inl (nI (ak (o_c (ls_o s)) (ls_c s) (mn2 (o_n (ls_o s)) (ls_b s)) (mn2 (o_n (ls_o s)) (ls_b s)) 0))) := C_v ov_alike (by decide) rfl oI_n (fun _ => rfl) (fun _ _ h => mj_X_mono h fun _ _ q => cx1 q) hd hc1 (fun _ _ h hx => h.1 ▸ hx) hs
theorem k_alikeAtEnd (hd : 1200 ≤ d) (hs : OB k s H) : CR d 12025 [] oI (k + 1) H (fun s' res => s' = s ∧ res = .inl (nI (al2 (o_c (ls_o s)) (ls_c s) (o_n (ls_o s)) (ls_b s) (mn2 (o_n (ls_o s)) (ls_b s) - ak (o_c (ls_o s)) (ls_c s) (mn2 (o_n (ls_o s)) (ls_b s)) (mn2 (o_n (ls_o s)) (ls_b s)) 0) 0))) := C_v ov_alikeAtEnd (by decide) rfl oI_n (fun _ => rfl) (fun _ _ h => mj_X_mono h fun _ _ q => cx1 q) hd hc1 (fun _ _ h hx => h.1 ▸ hx) hs
end H02
