/-! WALKS over one object (wip/p28/genh04.py) -/
/-- from here a method comes to an end, and its object to a heap -/
def RX (d mi pc : Nat) (ls : Nat → List (Option mj_V)) (st : Nat → List mj_V) (H : mj_G) (P : mj_O → mj_G → Prop) : Prop := ∃ o H', P o H' ∧ ∀ K H2 a b G Q, TW K H H2 a b G → (∀ G', TW K H' H2 a b G' → Q o G') → rj_X d mi pc (ls a) (st a) G Q
section H04
variable {s : lst} {H H1 H' : mj_G} {d k c mi mt pc pc' : Nat} {ls ls' : Nat → List (Option mj_V)} {st st' : Nat → List mj_V} {as : List (Option mj_V)} {o o1 : mj_O} {P : mj_O → mj_G → Prop}
theorem RX_b (h : ∀ a G Q, mj_k G a = 13 → rj_X d mi pc' (ls' a) (st' a) G Q → rj_X d mi pc (ls a) (st a) G Q) (hr : RX d mi pc' ls' st' H P) : RX d mi pc ls st H P := by
  obtain ⟨o, H', hP, hr⟩ := hr
  exact ⟨o, H', hP, fun K H2 a b G Q hT hQ => h a G Q (TW_k hT) (hr K H2 a b G Q hT hQ)⟩
theorem RX_e (h : ∀ a G (Q : mj_O → mj_G → Prop), Q o G → rj_X d mi pc (ls a) (st a) G Q) (hP : P o H) : RX d mi pc ls st H P := ⟨o, H, hP, fun K H2 a b G Q hT hQ => h a G Q (hQ G hT)⟩
theorem RX_c (hr : RV d mt as o1 H H1) (h : ∀ a G Q (T : mj_G → Prop), mj_k G a = 13 → rj_X d mt 0 (some (.inr (.inr a)) :: as) [] G (fun o G1 => o = o1 ∧ T G1) → (∀ G1, T G1 → rj_X (d + 1) mi pc' (ls' a) (st' a) G1 Q) → rj_X (d + 1) mi pc (ls a) (st a) G Q) (hn : RX (d + 1) mi pc' ls' st' H1 P) : RX (d + 1) mi pc ls st H P := by
  obtain ⟨o, H', hP, hn⟩ := hn
  exact ⟨o, H', hP, fun K H2 a b G Q hT hQ => h a G Q (fun G1 => TW K H1 H2 a b G1) (TW_k hT) (hr K H2 a b G _ hT fun G1 hT1 => ⟨rfl, hT1⟩) fun G1 hT1 => hn K H2 a b G1 Q hT1 hQ⟩
theorem RX_m {P' : mj_O → mj_G → Prop} (h : RX d mi pc ls st H P) (hP : ∀ o G, P o G → P' o G) : RX d mi pc ls st H P' := by
  obtain ⟨o, H', h1, h2⟩ := h
  exact ⟨o, H', hP _ _ h1, h2⟩
theorem RX_v (h : RX d mi 0 (fun a => some (.inr (.inr a)) :: as) (fun _ => []) H P) : ∃ o H', P o H' ∧ RV d mi as o H H' := h
theorem rc_i {mt : Nat} {l : List (Option mj_V)} {G : mj_G} {v : Int32} {T : mj_G → Prop} (h : rj_X d mt 0 l [] G (fun o G1 => o = .inl (some (.inl v)) ∧ T G1)) : rj_X d mt 0 l [] G (fun o G1 => ∃ v', o = .inl (some (.inl v')) ∧ (v = v' ∧ T G1)) := rj_X_mono h fun o G1 q => ⟨v, q.1, rfl, q.2⟩
/-- what the law's wrappers answer -/
def wdv : Int32 ⊕ Nat → Int32
  | .inl v => v
  | .inr _ => (-9999999 : Int32)
theorem i2c_n (x : Int32) : (x.toUInt32 % 65536).toInt32 = nI (x.toUInt32.toNat % 65536) := by
  have h1 : (x.toUInt32 % 65536).toNat = x.toUInt32.toNat % 65536 := UInt32.toNat_mod ..
  apply Int32.toBitVec_inj.mp
  apply BitVec.eq_of_toNat_eq
  show (x.toUInt32 % 65536).toNat = (BitVec.ofNat 32 (x.toUInt32.toNat % 65536)).toNat
  rw [BitVec.toNat_ofNat]
  exact h1.trans (Nat.mod_eq_of_lt (by omega)).symm
/-- a character typed -/
def tyf (c : Nat) (s : lst) : lst := if 32 ≤ c ∧ c ≤ 126 ∧ ls_n s < 80 then ls_z s (ls_n s + 1) (g_u (ls_w s) (ls_n s) c) (ls_k s) else s
def i2n (x : Int32) : Nat := x.toUInt32.toNat % 65536
theorem t_type {x : Int32} (hd : 1200 ≤ d) (hs : OB k s H) : ∃ v H', OB (k + 1) (tyf (i2n x) s) H' ∧ RV (d + 1) 14003 [some (.inl x), none] (.inl (some (.inl v))) H H' := by
  obtain ⟨s', res, H', h1, h2, h3, h4⟩ := k_type (c := i2n x) (Nat.mod_lt _ (by decide)) hd hs
  have e1 : s' = tyf (i2n x) s := by
    unfold tyf
    rcases h2 with ⟨rfl, -, h⟩ | ⟨a1, a2, a3, rfl, -⟩
    · rw [if_neg h]
    · rw [if_pos ⟨a1, a2, a3⟩]
  subst e1
  refine ⟨wdv res, H', h1, fun K H2 a b G Q hT hQ => ?_⟩
  refine rk_14003_0 ?_
  rw [i2c_n]
  refine rj_X_callP (P := fun o G1 => o = oI res ∧ TW K H' H2 a b G1) rfl rfl rfl (Nat.le_of_ble_eq_true rfl) (And.intro (Nat.le_of_ble_eq_true rfl) (TW_k hT)) (h4 K H2 a b G _ hT (fun G' h => ⟨rfl, h⟩)) ?_
  rintro _ G1 ⟨rfl, hT1⟩
  cases res with
  | inl v => exact rk_14003_6 (hQ _ hT1)
  | inr e =>
    have he : e = 15 ∨ e = 16 := by
      rcases h2 with ⟨-, ⟨k, hk, hk2⟩, -⟩ | ⟨-, -, -, -, hk⟩
      · cases hk
        exact hk2
      · cases hk
    rcases he with rfl | rfl
    · exact ⟨rfl, rfl, rj_X_sp (n := 1) (rj_X_ir rfl trivial (hQ _ hT1))⟩
    · exact ⟨rfl, rfl, rj_X_sp (n := 1) (rj_X_ir rfl trivial (hQ _ hT1))⟩
/-! types -/
def tcv (y : Int64) (x : Int32) : Int32 := ((y >>> (x.toInt64 &&& 63)) &&& ((255 : Int64))).toInt32
def tcc (v : Int32) : Int32 := if v ≤ Int32.ofInt (4) then (Int8.ofInt (96)).toInt32 + v else v
/-- the characters of a long -/
def tyl (y : Int64) : List Int32 → List Nat
  | [] => []
  | x :: xs => if tcv y x ≤ (0 : Int32) then tyl y xs else i2n (tcc (tcv y x)) :: tyl y xs
def tyw : List Nat → lst → lst
  | [], s => s
  | c :: cs, s => tyw cs (tyf c s)
def byc (x : Int32) : List Int32 → Prop
  | [] => x < (0 : Int32)
  | y :: ys => x = y ∧ ¬ x < (0 : Int32) ∧ byc (x + Int32.ofInt (-8)) ys
def byl : List Int32 := [nI 56, nI 48, nI 40, nI 32, nI 24, nI 16, nI 8, nI 0]
theorem byc_l : byc (Int8.ofInt (56)).toInt32 byl := ⟨by decide +kernel, by decide +kernel, by decide +kernel, by decide +kernel, by decide +kernel, by decide +kernel, by decide +kernel, by decide +kernel, by decide +kernel, by decide +kernel, by decide +kernel, by decide +kernel, by decide +kernel, by decide +kernel, by decide +kernel, by decide +kernel, by unfold byc; decide +kernel⟩
theorem t_loop (hd : 1200 ≤ d) (y : Int64) : ∀ (l : List Int32) (x : Int32) (k : Nat) (s : lst) (H : mj_G), byc x l → OB k s H → RX (d + 2) 14002 3 (fun a => [some (.inr (.inr a)), some (.inr (.inl y)), none, some (.inl x), none]) (fun _ => []) H (fun o H' => o = .inl none ∧ OB (k + l.length) (tyw (tyl y l) s) H')
  | [], x, k, s, H, hx, hs => by
    refine RX_b (fun a G Q _ h => rk_14002_3 (fun _ => h) (fun q => absurd hx q)) ?_
    exact RX_e (fun a G Q h => rk_14002_49 h) ⟨rfl, hs⟩
  | z :: l, x, k, s, H, ⟨hz, h0, hl⟩, hs => by
    subst hz
    have next : ∀ {k' : Nat} {s' : lst} {H' : mj_G}, k' ≤ k + 1 → OB k' s' H' → RX (d + 2) 14002 43 (fun a => [some (.inr (.inr a)), some (.inr (.inl y)), none, some (.inl x), none]) (fun _ => []) H' (fun o H' => o = .inl none ∧ OB (k + (l.length + 1)) (tyw (tyl y l) s') H') := fun hk hs' => by
      refine RX_b (fun a G Q _ h => rk_14002_43 h) ?_
      refine RX_m (t_loop hd y l _ _ _ _ hl hs') ?_
      rintro o G ⟨h1, h2⟩
      exact ⟨h1, OB_m h2 (by omega)⟩
    refine RX_b (fun a G Q _ h => rk_14002_3 (fun q => absurd q h0) (fun _ => h)) ?_
    by_cases q : tcv y x ≤ (0 : Int32)
    · refine RX_b (fun a G Q _ h => rk_14002_7 rfl (fun _ => h) (fun q' => absurd q q')) ?_
      have e : tyl y (x :: l) = tyl y l := if_pos q
      rw [e]
      exact next (by omega) hs
    · refine RX_b (fun a G Q _ h => rk_14002_7 rfl (fun q' => absurd q' q) (fun _ => h)) ?_
      have e : tyl y (x :: l) = i2n (tcc (tcv y x)) :: tyl y l := if_neg q
      rw [e]
      obtain ⟨v, H', h1, h2⟩ := t_type (x := tcc (tcv y x)) hd hs
      have fin : ∀ z : Int32, z = tcc (tcv y x) → RX (d + 2) 14002 39 (fun a => [some (.inr (.inr a)), some (.inr (.inl y)), none, some (.inl x), none]) (fun a => [.inl z, .inr (.inr a)]) H (fun o H' => o = .inl none ∧ OB (k + (l.length + 1)) (tyw (tyl y l) (tyf (i2n (tcc (tcv y x))) s)) H') := by
        intro z hz
        subst hz
        refine RX_c h2 (fun a G Q T _ h hk => rc_14002_39 (R := fun v' G1 => v = v' ∧ T G1) (rc_i h) (fun v' G1 hR => by
          obtain ⟨rfl, hT⟩ := hR
          exact hk G1 hT)) ?_
        · refine RX_b (fun a G Q _ h => rk_14002_42 h) ?_
          exact next (by omega) h1
      by_cases q4 : tcv y x ≤ Int32.ofInt (4)
      · refine RX_b (fun a G Q _ h => rk_14002_22 (fun _ => h) (fun q' => absurd q4 q')) ?_
        refine RX_b (fun a G Q _ h => rk_14002_34 h) ?_
        have e : tcc (tcv y x) = (Int8.ofInt (96)).toInt32 + tcv y x := if_pos q4
        exact fin _ e.symm
      · refine RX_b (fun a G Q _ h => rk_14002_22 (fun q' => absurd q' q4) (fun _ => h)) ?_
        refine RX_b (fun a G Q _ h => rk_14002_29 h) ?_
        have e : tcc (tcv y x) = tcv y x := if_neg q4
        exact fin _ e.symm
theorem t_types {y : Int64} (hd : 1200 ≤ d) (hs : OB k s H) : ∃ H', OB (k + 8) (tyw (tyl y byl) s) H' ∧ RV (d + 2) 14002 [some (.inr (.inl y)), none, none, none] (.inl none) H H' := by
  have h : RX (d + 2) 14002 0 (fun a => [some (.inr (.inr a)), some (.inr (.inl y)), none, none, none]) (fun _ => []) H (fun o H' => o = .inl none ∧ OB (k + 8) (tyw (tyl y byl) s) H') := by
    refine RX_b (fun a G Q _ h => rk_14002_0 h) ?_
    exact t_loop hd y byl _ k s H byc_l hs
  obtain ⟨o, H', ⟨rfl, h1⟩, h2⟩ := RX_v h
  exact ⟨H', h1, h2⟩
/-! does -/
theorem dw_0 {x1 x2 x3 x4 : Int32} {res : Int32 ⊕ Nat} (hx : x1 = nI 0) (hr : RV d 12004 [some (.inl (x2)), none, none] (oI res) H H') (he : ∀ e, res = .inr e → e = 15 ∨ e = 16 ∨ e = 17) : RV (d + 1) 14004 [some (.inl x1), some (.inl x2), some (.inl x3), some (.inl x4), none] (.inl (some (.inl (wdv res)))) H H' := by
  subst hx
  intro K H2 a b G Q hT hQ
  refine rk_14004_0 (fun q => absurd (by decide +kernel) q) (fun _ => ?_)
  refine rk_14004_4 ?_
  refine rj_X_callP (P := fun o G1 => o = oI res ∧ TW K H' H2 a b G1) rfl rfl rfl (Nat.le_of_ble_eq_true rfl) (And.intro (Nat.le_of_ble_eq_true rfl) (TW_k hT)) (hr K H2 a b G _ hT (fun G' h => ⟨rfl, h⟩)) ?_
  rintro _ G1 ⟨rfl, hT1⟩
  cases res with
  | inl v => exact rk_14004_9 (rk_14004_246 (hQ _ hT1))
  | inr e =>
    rcases he e rfl with rfl | rfl | rfl
    · exact ⟨rfl, rfl, rj_X_sp (n := 1) (rj_X_ir rfl trivial (hQ _ hT1))⟩
    · exact ⟨rfl, rfl, rj_X_sp (n := 1) (rj_X_ir rfl trivial (hQ _ hT1))⟩
    · exact ⟨rfl, rfl, rj_X_sp (n := 1) (rj_X_ir rfl trivial (hQ _ hT1))⟩
theorem dw_1 {x1 x2 x3 x4 : Int32} {res : Int32 ⊕ Nat} (hx : x1 = nI 1) (hr : RV d 12005 [some (.inl (x2)), some (.inl (x3)), none, none] (oI res) H H') (he : ∀ e, res = .inr e → e = 15 ∨ e = 16 ∨ e = 17) : RV (d + 1) 14004 [some (.inl x1), some (.inl x2), some (.inl x3), some (.inl x4), none] (.inl (some (.inl (wdv res)))) H H' := by
  subst hx
  intro K H2 a b G Q hT hQ
  refine rk_14004_0 (fun _ => ?_) (fun q => absurd q (by decide +kernel))
  refine rk_14004_12 (fun q => absurd (by decide +kernel) q) (fun _ => ?_)
  refine rk_14004_17 ?_
  refine rj_X_callP (P := fun o G1 => o = oI res ∧ TW K H' H2 a b G1) rfl rfl rfl (Nat.le_of_ble_eq_true rfl) (And.intro (Nat.le_of_ble_eq_true rfl) (TW_k hT)) (hr K H2 a b G _ hT (fun G' h => ⟨rfl, h⟩)) ?_
  rintro _ G1 ⟨rfl, hT1⟩
  cases res with
  | inl v => exact rk_14004_23 (rk_14004_246 (hQ _ hT1))
  | inr e =>
    rcases he e rfl with rfl | rfl | rfl
    · exact ⟨rfl, rfl, rj_X_sp (n := 1) (rj_X_ir rfl trivial (hQ _ hT1))⟩
    · exact ⟨rfl, rfl, rj_X_sp (n := 1) (rj_X_ir rfl trivial (hQ _ hT1))⟩
    · exact ⟨rfl, rfl, rj_X_sp (n := 1) (rj_X_ir rfl trivial (hQ _ hT1))⟩
theorem dw_2 {x1 x2 x3 x4 : Int32} {res : Int32 ⊕ Nat} (hx : x1 = nI 2) (hr : RV d 12007 [some (.inl (((x4).toUInt32 % 65536).toInt32)), none] (oI res) H H') (he : ∀ e, res = .inr e → e = 15 ∨ e = 16 ∨ e = 17) : RV (d + 1) 14004 [some (.inl x1), some (.inl x2), some (.inl x3), some (.inl x4), none] (.inl (some (.inl (wdv res)))) H H' := by
  subst hx
  intro K H2 a b G Q hT hQ
  refine rk_14004_0 (fun _ => ?_) (fun q => absurd q (by decide +kernel))
  refine rk_14004_12 (fun _ => ?_) (fun q => absurd q (by decide +kernel))
  refine rk_14004_26 (fun q => absurd (by decide +kernel) q) (fun _ => ?_)
  refine rk_14004_31 ?_
  refine rj_X_callP (P := fun o G1 => o = oI res ∧ TW K H' H2 a b G1) rfl rfl rfl (Nat.le_of_ble_eq_true rfl) (And.intro (Nat.le_of_ble_eq_true rfl) (TW_k hT)) (hr K H2 a b G _ hT (fun G' h => ⟨rfl, h⟩)) ?_
  rintro _ G1 ⟨rfl, hT1⟩
  cases res with
  | inl v => exact rk_14004_38 (rk_14004_246 (hQ _ hT1))
  | inr e =>
    rcases he e rfl with rfl | rfl | rfl
    · exact ⟨rfl, rfl, rj_X_sp (n := 1) (rj_X_ir rfl trivial (hQ _ hT1))⟩
    · exact ⟨rfl, rfl, rj_X_sp (n := 1) (rj_X_ir rfl trivial (hQ _ hT1))⟩
    · exact ⟨rfl, rfl, rj_X_sp (n := 1) (rj_X_ir rfl trivial (hQ _ hT1))⟩
theorem dw_3 {x1 x2 x3 x4 : Int32} {res : Int32 ⊕ Nat} (hx : x1 = nI 3) (hr : RV d 12009 [some (.inl (((x4).toUInt32 % 65536).toInt32)), some (.inl (x2)), none] (oI res) H H') (he : ∀ e, res = .inr e → e = 15 ∨ e = 16 ∨ e = 17) : RV (d + 1) 14004 [some (.inl x1), some (.inl x2), some (.inl x3), some (.inl x4), none] (.inl (some (.inl (wdv res)))) H H' := by
  subst hx
  intro K H2 a b G Q hT hQ
  refine rk_14004_0 (fun _ => ?_) (fun q => absurd q (by decide +kernel))
  refine rk_14004_12 (fun _ => ?_) (fun q => absurd q (by decide +kernel))
  refine rk_14004_26 (fun _ => ?_) (fun q => absurd q (by decide +kernel))
  refine rk_14004_41 (fun q => absurd (by decide +kernel) q) (fun _ => ?_)
  refine rk_14004_46 ?_
  refine rj_X_callP (P := fun o G1 => o = oI res ∧ TW K H' H2 a b G1) rfl rfl rfl (Nat.le_of_ble_eq_true rfl) (And.intro (Nat.le_of_ble_eq_true rfl) (TW_k hT)) (hr K H2 a b G _ hT (fun G' h => ⟨rfl, h⟩)) ?_
  rintro _ G1 ⟨rfl, hT1⟩
  cases res with
  | inl v => exact rk_14004_54 (rk_14004_246 (hQ _ hT1))
  | inr e =>
    rcases he e rfl with rfl | rfl | rfl
    · exact ⟨rfl, rfl, rj_X_sp (n := 1) (rj_X_ir rfl trivial (hQ _ hT1))⟩
    · exact ⟨rfl, rfl, rj_X_sp (n := 1) (rj_X_ir rfl trivial (hQ _ hT1))⟩
    · exact ⟨rfl, rfl, rj_X_sp (n := 1) (rj_X_ir rfl trivial (hQ _ hT1))⟩
theorem dw_4 {x1 x2 x3 x4 : Int32} {res : Int32 ⊕ Nat} (hx : x1 = nI 4) (hr : RV d 12010 [some (.inl (((x4).toUInt32 % 65536).toInt32))] (oI res) H H') (he : ∀ e, res = .inr e → e = 15 ∨ e = 16 ∨ e = 17) : RV (d + 1) 14004 [some (.inl x1), some (.inl x2), some (.inl x3), some (.inl x4), none] (.inl (some (.inl (wdv res)))) H H' := by
  subst hx
  intro K H2 a b G Q hT hQ
  refine rk_14004_0 (fun _ => ?_) (fun q => absurd q (by decide +kernel))
  refine rk_14004_12 (fun _ => ?_) (fun q => absurd q (by decide +kernel))
  refine rk_14004_26 (fun _ => ?_) (fun q => absurd q (by decide +kernel))
  refine rk_14004_41 (fun _ => ?_) (fun q => absurd q (by decide +kernel))
  refine rk_14004_57 (fun q => absurd (by decide +kernel) q) (fun _ => ?_)
  refine rk_14004_62 ?_
  refine rj_X_callP (P := fun o G1 => o = oI res ∧ TW K H' H2 a b G1) rfl rfl rfl (Nat.le_of_ble_eq_true rfl) (And.intro (Nat.le_of_ble_eq_true rfl) (TW_k hT)) (hr K H2 a b G _ hT (fun G' h => ⟨rfl, h⟩)) ?_
  rintro _ G1 ⟨rfl, hT1⟩
  cases res with
  | inl v => exact rk_14004_69 (rk_14004_246 (hQ _ hT1))
  | inr e =>
    rcases he e rfl with rfl | rfl | rfl
    · exact ⟨rfl, rfl, rj_X_sp (n := 1) (rj_X_ir rfl trivial (hQ _ hT1))⟩
    · exact ⟨rfl, rfl, rj_X_sp (n := 1) (rj_X_ir rfl trivial (hQ _ hT1))⟩
    · exact ⟨rfl, rfl, rj_X_sp (n := 1) (rj_X_ir rfl trivial (hQ _ hT1))⟩
theorem dw_5 {x1 x2 x3 x4 : Int32} {res : Int32 ⊕ Nat} (hx : x1 = nI 5) (hr : RV d 12015 [some (.inl (x2)), none] (oI res) H H') (he : ∀ e, res = .inr e → e = 15 ∨ e = 16 ∨ e = 17) : RV (d + 1) 14004 [some (.inl x1), some (.inl x2), some (.inl x3), some (.inl x4), none] (.inl (some (.inl (wdv res)))) H H' := by
  subst hx
  intro K H2 a b G Q hT hQ
  refine rk_14004_0 (fun _ => ?_) (fun q => absurd q (by decide +kernel))
  refine rk_14004_12 (fun _ => ?_) (fun q => absurd q (by decide +kernel))
  refine rk_14004_26 (fun _ => ?_) (fun q => absurd q (by decide +kernel))
  refine rk_14004_41 (fun _ => ?_) (fun q => absurd q (by decide +kernel))
  refine rk_14004_57 (fun _ => ?_) (fun q => absurd q (by decide +kernel))
  refine rk_14004_72 (fun q => absurd (by decide +kernel) q) (fun _ => ?_)
  refine rk_14004_77 ?_
  refine rj_X_callP (P := fun o G1 => o = oI res ∧ TW K H' H2 a b G1) rfl rfl rfl (Nat.le_of_ble_eq_true rfl) (And.intro (Nat.le_of_ble_eq_true rfl) (TW_k hT)) (hr K H2 a b G _ hT (fun G' h => ⟨rfl, h⟩)) ?_
  rintro _ G1 ⟨rfl, hT1⟩
  cases res with
  | inl v => exact rk_14004_82 (rk_14004_246 (hQ _ hT1))
  | inr e =>
    rcases he e rfl with rfl | rfl | rfl
    · exact ⟨rfl, rfl, rj_X_sp (n := 1) (rj_X_ir rfl trivial (hQ _ hT1))⟩
    · exact ⟨rfl, rfl, rj_X_sp (n := 1) (rj_X_ir rfl trivial (hQ _ hT1))⟩
    · exact ⟨rfl, rfl, rj_X_sp (n := 1) (rj_X_ir rfl trivial (hQ _ hT1))⟩
theorem dw_6 {x1 x2 x3 x4 : Int32} {res : Int32 ⊕ Nat} (hx : x1 = nI 6) (hr : RV d 12016 [some (.inl (x2))] (oI res) H H') (he : ∀ e, res = .inr e → e = 15 ∨ e = 16 ∨ e = 17) : RV (d + 1) 14004 [some (.inl x1), some (.inl x2), some (.inl x3), some (.inl x4), none] (.inl (some (.inl (wdv res)))) H H' := by
  subst hx
  intro K H2 a b G Q hT hQ
  refine rk_14004_0 (fun _ => ?_) (fun q => absurd q (by decide +kernel))
  refine rk_14004_12 (fun _ => ?_) (fun q => absurd q (by decide +kernel))
  refine rk_14004_26 (fun _ => ?_) (fun q => absurd q (by decide +kernel))
  refine rk_14004_41 (fun _ => ?_) (fun q => absurd q (by decide +kernel))
  refine rk_14004_57 (fun _ => ?_) (fun q => absurd q (by decide +kernel))
  refine rk_14004_72 (fun _ => ?_) (fun q => absurd q (by decide +kernel))
  refine rk_14004_85 (fun q => absurd (by decide +kernel) q) (fun _ => ?_)
  refine rk_14004_91 ?_
  refine rj_X_callP (P := fun o G1 => o = oI res ∧ TW K H' H2 a b G1) rfl rfl rfl (Nat.le_of_ble_eq_true rfl) (And.intro (Nat.le_of_ble_eq_true rfl) (TW_k hT)) (hr K H2 a b G _ hT (fun G' h => ⟨rfl, h⟩)) ?_
  rintro _ G1 ⟨rfl, hT1⟩
  cases res with
  | inl v => exact rk_14004_96 (rk_14004_246 (hQ _ hT1))
  | inr e =>
    rcases he e rfl with rfl | rfl | rfl
    · exact ⟨rfl, rfl, rj_X_sp (n := 1) (rj_X_ir rfl trivial (hQ _ hT1))⟩
    · exact ⟨rfl, rfl, rj_X_sp (n := 1) (rj_X_ir rfl trivial (hQ _ hT1))⟩
    · exact ⟨rfl, rfl, rj_X_sp (n := 1) (rj_X_ir rfl trivial (hQ _ hT1))⟩
theorem dw_7 {x1 x2 x3 x4 : Int32} {res : Int32 ⊕ Nat} (hx : x1 = nI 7) (hr : RV d 12020 [some (.inl (x2))] (oI res) H H') (he : ∀ e, res = .inr e → e = 15 ∨ e = 16 ∨ e = 17) : RV (d + 1) 14004 [some (.inl x1), some (.inl x2), some (.inl x3), some (.inl x4), none] (.inl (some (.inl (wdv res)))) H H' := by
  subst hx
  intro K H2 a b G Q hT hQ
  refine rk_14004_0 (fun _ => ?_) (fun q => absurd q (by decide +kernel))
  refine rk_14004_12 (fun _ => ?_) (fun q => absurd q (by decide +kernel))
  refine rk_14004_26 (fun _ => ?_) (fun q => absurd q (by decide +kernel))
  refine rk_14004_41 (fun _ => ?_) (fun q => absurd q (by decide +kernel))
  refine rk_14004_57 (fun _ => ?_) (fun q => absurd q (by decide +kernel))
  refine rk_14004_72 (fun _ => ?_) (fun q => absurd q (by decide +kernel))
  refine rk_14004_85 (fun _ => ?_) (fun q => absurd q (by decide +kernel))
  refine rk_14004_99 (fun q => absurd (by decide +kernel) q) (fun _ => ?_)
  refine rk_14004_105 ?_
  refine rj_X_callP (P := fun o G1 => o = oI res ∧ TW K H' H2 a b G1) rfl rfl rfl (Nat.le_of_ble_eq_true rfl) (And.intro (Nat.le_of_ble_eq_true rfl) (TW_k hT)) (hr K H2 a b G _ hT (fun G' h => ⟨rfl, h⟩)) ?_
  rintro _ G1 ⟨rfl, hT1⟩
  cases res with
  | inl v => exact rk_14004_110 (rk_14004_246 (hQ _ hT1))
  | inr e =>
    rcases he e rfl with rfl | rfl | rfl
    · exact ⟨rfl, rfl, rj_X_sp (n := 1) (rj_X_ir rfl trivial (hQ _ hT1))⟩
    · exact ⟨rfl, rfl, rj_X_sp (n := 1) (rj_X_ir rfl trivial (hQ _ hT1))⟩
    · exact ⟨rfl, rfl, rj_X_sp (n := 1) (rj_X_ir rfl trivial (hQ _ hT1))⟩
theorem dw_9 {x1 x2 x3 x4 : Int32} {res : Int32 ⊕ Nat} (hx : x1 = nI 9) (hr : RV d 12022 [some (.inl (x2))] (oI res) H H') (he : ∀ e, res = .inr e → e = 15 ∨ e = 16 ∨ e = 17) : RV (d + 1) 14004 [some (.inl x1), some (.inl x2), some (.inl x3), some (.inl x4), none] (.inl (some (.inl (wdv res)))) H H' := by
  subst hx
  intro K H2 a b G Q hT hQ
  refine rk_14004_0 (fun _ => ?_) (fun q => absurd q (by decide +kernel))
  refine rk_14004_12 (fun _ => ?_) (fun q => absurd q (by decide +kernel))
  refine rk_14004_26 (fun _ => ?_) (fun q => absurd q (by decide +kernel))
  refine rk_14004_41 (fun _ => ?_) (fun q => absurd q (by decide +kernel))
  refine rk_14004_57 (fun _ => ?_) (fun q => absurd q (by decide +kernel))
  refine rk_14004_72 (fun _ => ?_) (fun q => absurd q (by decide +kernel))
  refine rk_14004_85 (fun _ => ?_) (fun q => absurd q (by decide +kernel))
  refine rk_14004_99 (fun _ => ?_) (fun q => absurd q (by decide +kernel))
  refine rk_14004_113 (fun _ => ?_) (fun q => absurd q (by decide +kernel))
  refine rk_14004_127 (fun q => absurd (by decide +kernel) q) (fun _ => ?_)
  refine rk_14004_133 ?_
  refine rj_X_callP (P := fun o G1 => o = oI res ∧ TW K H' H2 a b G1) rfl rfl rfl (Nat.le_of_ble_eq_true rfl) (And.intro (Nat.le_of_ble_eq_true rfl) (TW_k hT)) (hr K H2 a b G _ hT (fun G' h => ⟨rfl, h⟩)) ?_
  rintro _ G1 ⟨rfl, hT1⟩
  cases res with
  | inl v => exact rk_14004_138 (rk_14004_246 (hQ _ hT1))
  | inr e =>
    rcases he e rfl with rfl | rfl | rfl
    · exact ⟨rfl, rfl, rj_X_sp (n := 1) (rj_X_ir rfl trivial (hQ _ hT1))⟩
    · exact ⟨rfl, rfl, rj_X_sp (n := 1) (rj_X_ir rfl trivial (hQ _ hT1))⟩
    · exact ⟨rfl, rfl, rj_X_sp (n := 1) (rj_X_ir rfl trivial (hQ _ hT1))⟩
theorem dw_10 {x1 x2 x3 x4 : Int32} {res : Int32 ⊕ Nat} (hx : x1 = nI 10) (hr : RV d 12023 [some (.inl (x2))] (oI res) H H') (he : ∀ e, res = .inr e → e = 15 ∨ e = 16 ∨ e = 17) : RV (d + 1) 14004 [some (.inl x1), some (.inl x2), some (.inl x3), some (.inl x4), none] (.inl (some (.inl (wdv res)))) H H' := by
  subst hx
  intro K H2 a b G Q hT hQ
  refine rk_14004_0 (fun _ => ?_) (fun q => absurd q (by decide +kernel))
  refine rk_14004_12 (fun _ => ?_) (fun q => absurd q (by decide +kernel))
  refine rk_14004_26 (fun _ => ?_) (fun q => absurd q (by decide +kernel))
  refine rk_14004_41 (fun _ => ?_) (fun q => absurd q (by decide +kernel))
  refine rk_14004_57 (fun _ => ?_) (fun q => absurd q (by decide +kernel))
  refine rk_14004_72 (fun _ => ?_) (fun q => absurd q (by decide +kernel))
  refine rk_14004_85 (fun _ => ?_) (fun q => absurd q (by decide +kernel))
  refine rk_14004_99 (fun _ => ?_) (fun q => absurd q (by decide +kernel))
  refine rk_14004_113 (fun _ => ?_) (fun q => absurd q (by decide +kernel))
  refine rk_14004_127 (fun _ => ?_) (fun q => absurd q (by decide +kernel))
  refine rk_14004_141 (fun q => absurd (by decide +kernel) q) (fun _ => ?_)
  refine rk_14004_147 ?_
  refine rj_X_callP (P := fun o G1 => o = oI res ∧ TW K H' H2 a b G1) rfl rfl rfl (Nat.le_of_ble_eq_true rfl) (And.intro (Nat.le_of_ble_eq_true rfl) (TW_k hT)) (hr K H2 a b G _ hT (fun G' h => ⟨rfl, h⟩)) ?_
  rintro _ G1 ⟨rfl, hT1⟩
  cases res with
  | inl v => exact rk_14004_152 (rk_14004_246 (hQ _ hT1))
  | inr e =>
    rcases he e rfl with rfl | rfl | rfl
    · exact ⟨rfl, rfl, rj_X_sp (n := 1) (rj_X_ir rfl trivial (hQ _ hT1))⟩
    · exact ⟨rfl, rfl, rj_X_sp (n := 1) (rj_X_ir rfl trivial (hQ _ hT1))⟩
    · exact ⟨rfl, rfl, rj_X_sp (n := 1) (rj_X_ir rfl trivial (hQ _ hT1))⟩
theorem dw_12 {x1 x2 x3 x4 : Int32} {res : Int32 ⊕ Nat} (hx : x1 = nI 12) (hr : RV d 12027 [some (.inl (((x4).toUInt32 % 65536).toInt32)), some (.inl (x2)), none] (oI res) H H') (he : ∀ e, res = .inr e → e = 15 ∨ e = 16 ∨ e = 17) : RV (d + 1) 14004 [some (.inl x1), some (.inl x2), some (.inl x3), some (.inl x4), none] (.inl (some (.inl (wdv res)))) H H' := by
  subst hx
  intro K H2 a b G Q hT hQ
  refine rk_14004_0 (fun _ => ?_) (fun q => absurd q (by decide +kernel))
  refine rk_14004_12 (fun _ => ?_) (fun q => absurd q (by decide +kernel))
  refine rk_14004_26 (fun _ => ?_) (fun q => absurd q (by decide +kernel))
  refine rk_14004_41 (fun _ => ?_) (fun q => absurd q (by decide +kernel))
  refine rk_14004_57 (fun _ => ?_) (fun q => absurd q (by decide +kernel))
  refine rk_14004_72 (fun _ => ?_) (fun q => absurd q (by decide +kernel))
  refine rk_14004_85 (fun _ => ?_) (fun q => absurd q (by decide +kernel))
  refine rk_14004_99 (fun _ => ?_) (fun q => absurd q (by decide +kernel))
  refine rk_14004_113 (fun _ => ?_) (fun q => absurd q (by decide +kernel))
  refine rk_14004_127 (fun _ => ?_) (fun q => absurd q (by decide +kernel))
  refine rk_14004_141 (fun _ => ?_) (fun q => absurd q (by decide +kernel))
  refine rk_14004_155 (fun _ => ?_) (fun q => absurd q (by decide +kernel))
  refine rk_14004_169 (fun q => absurd (by decide +kernel) q) (fun _ => ?_)
  refine rk_14004_175 ?_
  refine rj_X_callP (P := fun o G1 => o = oI res ∧ TW K H' H2 a b G1) rfl rfl rfl (Nat.le_of_ble_eq_true rfl) (And.intro (Nat.le_of_ble_eq_true rfl) (TW_k hT)) (hr K H2 a b G _ hT (fun G' h => ⟨rfl, h⟩)) ?_
  rintro _ G1 ⟨rfl, hT1⟩
  cases res with
  | inl v => exact rk_14004_183 (rk_14004_246 (hQ _ hT1))
  | inr e =>
    rcases he e rfl with rfl | rfl | rfl
    · exact ⟨rfl, rfl, rj_X_sp (n := 1) (rj_X_ir rfl trivial (hQ _ hT1))⟩
    · exact ⟨rfl, rfl, rj_X_sp (n := 1) (rj_X_ir rfl trivial (hQ _ hT1))⟩
    · exact ⟨rfl, rfl, rj_X_sp (n := 1) (rj_X_ir rfl trivial (hQ _ hT1))⟩
theorem dw_13 {x1 x2 x3 x4 : Int32} {res : Int32 ⊕ Nat} (hx : x1 = nI 13) (hr : RV d 12028 [some (.inl (x2))] (oI res) H H') (he : ∀ e, res = .inr e → e = 15 ∨ e = 16 ∨ e = 17) : RV (d + 1) 14004 [some (.inl x1), some (.inl x2), some (.inl x3), some (.inl x4), none] (.inl (some (.inl (wdv res)))) H H' := by
  subst hx
  intro K H2 a b G Q hT hQ
  refine rk_14004_0 (fun _ => ?_) (fun q => absurd q (by decide +kernel))
  refine rk_14004_12 (fun _ => ?_) (fun q => absurd q (by decide +kernel))
  refine rk_14004_26 (fun _ => ?_) (fun q => absurd q (by decide +kernel))
  refine rk_14004_41 (fun _ => ?_) (fun q => absurd q (by decide +kernel))
  refine rk_14004_57 (fun _ => ?_) (fun q => absurd q (by decide +kernel))
  refine rk_14004_72 (fun _ => ?_) (fun q => absurd q (by decide +kernel))
  refine rk_14004_85 (fun _ => ?_) (fun q => absurd q (by decide +kernel))
  refine rk_14004_99 (fun _ => ?_) (fun q => absurd q (by decide +kernel))
  refine rk_14004_113 (fun _ => ?_) (fun q => absurd q (by decide +kernel))
  refine rk_14004_127 (fun _ => ?_) (fun q => absurd q (by decide +kernel))
  refine rk_14004_141 (fun _ => ?_) (fun q => absurd q (by decide +kernel))
  refine rk_14004_155 (fun _ => ?_) (fun q => absurd q (by decide +kernel))
  refine rk_14004_169 (fun _ => ?_) (fun q => absurd q (by decide +kernel))
  refine rk_14004_186 (fun q => absurd (by decide +kernel) q) (fun _ => ?_)
  refine rk_14004_192 ?_
  refine rj_X_callP (P := fun o G1 => o = oI res ∧ TW K H' H2 a b G1) rfl rfl rfl (Nat.le_of_ble_eq_true rfl) (And.intro (Nat.le_of_ble_eq_true rfl) (TW_k hT)) (hr K H2 a b G _ hT (fun G' h => ⟨rfl, h⟩)) ?_
  rintro _ G1 ⟨rfl, hT1⟩
  cases res with
  | inl v => exact rk_14004_197 (rk_14004_246 (hQ _ hT1))
  | inr e =>
    rcases he e rfl with rfl | rfl | rfl
    · exact ⟨rfl, rfl, rj_X_sp (n := 1) (rj_X_ir rfl trivial (hQ _ hT1))⟩
    · exact ⟨rfl, rfl, rj_X_sp (n := 1) (rj_X_ir rfl trivial (hQ _ hT1))⟩
    · exact ⟨rfl, rfl, rj_X_sp (n := 1) (rj_X_ir rfl trivial (hQ _ hT1))⟩
theorem dw_14 {x1 x2 x3 x4 : Int32} {res : Int32 ⊕ Nat} (hx : x1 = nI 14) (hr : RV d 14005 [some (.inl (x4)), some (.inl (x2))] (oI res) H H') (he : ∀ e, res = .inr e → e = 15 ∨ e = 16 ∨ e = 17) : RV (d + 1) 14004 [some (.inl x1), some (.inl x2), some (.inl x3), some (.inl x4), none] (.inl (some (.inl (wdv res)))) H H' := by
  subst hx
  intro K H2 a b G Q hT hQ
  refine rk_14004_0 (fun _ => ?_) (fun q => absurd q (by decide +kernel))
  refine rk_14004_12 (fun _ => ?_) (fun q => absurd q (by decide +kernel))
  refine rk_14004_26 (fun _ => ?_) (fun q => absurd q (by decide +kernel))
  refine rk_14004_41 (fun _ => ?_) (fun q => absurd q (by decide +kernel))
  refine rk_14004_57 (fun _ => ?_) (fun q => absurd q (by decide +kernel))
  refine rk_14004_72 (fun _ => ?_) (fun q => absurd q (by decide +kernel))
  refine rk_14004_85 (fun _ => ?_) (fun q => absurd q (by decide +kernel))
  refine rk_14004_99 (fun _ => ?_) (fun q => absurd q (by decide +kernel))
  refine rk_14004_113 (fun _ => ?_) (fun q => absurd q (by decide +kernel))
  refine rk_14004_127 (fun _ => ?_) (fun q => absurd q (by decide +kernel))
  refine rk_14004_141 (fun _ => ?_) (fun q => absurd q (by decide +kernel))
  refine rk_14004_155 (fun _ => ?_) (fun q => absurd q (by decide +kernel))
  refine rk_14004_169 (fun _ => ?_) (fun q => absurd q (by decide +kernel))
  refine rk_14004_186 (fun _ => ?_) (fun q => absurd q (by decide +kernel))
  refine rk_14004_200 (fun q => absurd (by decide +kernel) q) (fun _ => ?_)
  refine rk_14004_206 ?_
  refine rj_X_callP (P := fun o G1 => o = oI res ∧ TW K H' H2 a b G1) rfl rfl rfl (Nat.le_of_ble_eq_true rfl) (And.intro (Nat.le_of_ble_eq_true rfl) trivial) (hr K H2 a b G _ hT (fun G' h => ⟨rfl, h⟩)) ?_
  rintro _ G1 ⟨rfl, hT1⟩
  cases res with
  | inl v => exact rk_14004_213 (rk_14004_246 (hQ _ hT1))
  | inr e =>
    rcases he e rfl with rfl | rfl | rfl
    · exact ⟨rfl, rfl, rj_X_sp (n := 1) (rj_X_ir rfl trivial (hQ _ hT1))⟩
    · exact ⟨rfl, rfl, rj_X_sp (n := 1) (rj_X_ir rfl trivial (hQ _ hT1))⟩
    · exact ⟨rfl, rfl, rj_X_sp (n := 1) (rj_X_ir rfl trivial (hQ _ hT1))⟩
theorem dw_15 {x1 x2 x3 x4 : Int32} {res : Int32 ⊕ Nat} (hx : x1 = nI 15) (hr : RV d 14006 [some (.inl (x4))] (oI res) H H') (he : ∀ e, res = .inr e → e = 15 ∨ e = 16 ∨ e = 17) : RV (d + 1) 14004 [some (.inl x1), some (.inl x2), some (.inl x3), some (.inl x4), none] (.inl (some (.inl (wdv res)))) H H' := by
  subst hx
  intro K H2 a b G Q hT hQ
  refine rk_14004_0 (fun _ => ?_) (fun q => absurd q (by decide +kernel))
  refine rk_14004_12 (fun _ => ?_) (fun q => absurd q (by decide +kernel))
  refine rk_14004_26 (fun _ => ?_) (fun q => absurd q (by decide +kernel))
  refine rk_14004_41 (fun _ => ?_) (fun q => absurd q (by decide +kernel))
  refine rk_14004_57 (fun _ => ?_) (fun q => absurd q (by decide +kernel))
  refine rk_14004_72 (fun _ => ?_) (fun q => absurd q (by decide +kernel))
  refine rk_14004_85 (fun _ => ?_) (fun q => absurd q (by decide +kernel))
  refine rk_14004_99 (fun _ => ?_) (fun q => absurd q (by decide +kernel))
  refine rk_14004_113 (fun _ => ?_) (fun q => absurd q (by decide +kernel))
  refine rk_14004_127 (fun _ => ?_) (fun q => absurd q (by decide +kernel))
  refine rk_14004_141 (fun _ => ?_) (fun q => absurd q (by decide +kernel))
  refine rk_14004_155 (fun _ => ?_) (fun q => absurd q (by decide +kernel))
  refine rk_14004_169 (fun _ => ?_) (fun q => absurd q (by decide +kernel))
  refine rk_14004_186 (fun _ => ?_) (fun q => absurd q (by decide +kernel))
  refine rk_14004_200 (fun _ => ?_) (fun q => absurd q (by decide +kernel))
  refine rk_14004_216 (fun q => absurd (by decide +kernel) q) (fun _ => ?_)
  refine rk_14004_222 ?_
  refine rj_X_callP (P := fun o G1 => o = oI res ∧ TW K H' H2 a b G1) rfl rfl rfl (Nat.le_of_ble_eq_true rfl) (And.intro (Nat.le_of_ble_eq_true rfl) trivial) (hr K H2 a b G _ hT (fun G' h => ⟨rfl, h⟩)) ?_
  rintro _ G1 ⟨rfl, hT1⟩
  cases res with
  | inl v => exact rk_14004_228 (rk_14004_246 (hQ _ hT1))
  | inr e =>
    rcases he e rfl with rfl | rfl | rfl
    · exact ⟨rfl, rfl, rj_X_sp (n := 1) (rj_X_ir rfl trivial (hQ _ hT1))⟩
    · exact ⟨rfl, rfl, rj_X_sp (n := 1) (rj_X_ir rfl trivial (hQ _ hT1))⟩
    · exact ⟨rfl, rfl, rj_X_sp (n := 1) (rj_X_ir rfl trivial (hQ _ hT1))⟩
def wdv6 : Int32 ⊕ Nat → Int32
  | .inl v => if v = (0 : Int32) then Int32.ofInt (0) else Int32.ofInt (1)
  | .inr _ => (-9999999 : Int32)
theorem dw_16 {x1 x2 x3 x4 : Int32} {res : Int32 ⊕ Nat} (hx : x1 = nI 16) (hr : RV d 12011 [some (.inl (((x4).toUInt32 % 65536).toInt32)), none] (oI res) H H') (he : ∀ e, res = .inr e → e = 15 ∨ e = 16 ∨ e = 17) : RV (d + 1) 14004 [some (.inl x1), some (.inl x2), some (.inl x3), some (.inl x4), none] (.inl (some (.inl (wdv6 res)))) H H' := by
  subst hx
  intro K H2 a b G Q hT hQ
  refine rk_14004_0 (fun _ => ?_) (fun q => absurd q (by decide +kernel))
  refine rk_14004_12 (fun _ => ?_) (fun q => absurd q (by decide +kernel))
  refine rk_14004_26 (fun _ => ?_) (fun q => absurd q (by decide +kernel))
  refine rk_14004_41 (fun _ => ?_) (fun q => absurd q (by decide +kernel))
  refine rk_14004_57 (fun _ => ?_) (fun q => absurd q (by decide +kernel))
  refine rk_14004_72 (fun _ => ?_) (fun q => absurd q (by decide +kernel))
  refine rk_14004_85 (fun _ => ?_) (fun q => absurd q (by decide +kernel))
  refine rk_14004_99 (fun _ => ?_) (fun q => absurd q (by decide +kernel))
  refine rk_14004_113 (fun _ => ?_) (fun q => absurd q (by decide +kernel))
  refine rk_14004_127 (fun _ => ?_) (fun q => absurd q (by decide +kernel))
  refine rk_14004_141 (fun _ => ?_) (fun q => absurd q (by decide +kernel))
  refine rk_14004_155 (fun _ => ?_) (fun q => absurd q (by decide +kernel))
  refine rk_14004_169 (fun _ => ?_) (fun q => absurd q (by decide +kernel))
  refine rk_14004_186 (fun _ => ?_) (fun q => absurd q (by decide +kernel))
  refine rk_14004_200 (fun _ => ?_) (fun q => absurd q (by decide +kernel))
  refine rk_14004_216 (fun _ => ?_) (fun q => absurd q (by decide +kernel))
  refine rk_14004_231 ?_
  refine rj_X_callP (P := fun o G1 => o = oI res ∧ TW K H' H2 a b G1) rfl rfl rfl (Nat.le_of_ble_eq_true rfl) (And.intro (Nat.le_of_ble_eq_true rfl) (TW_k hT)) (hr K H2 a b G _ hT (fun G' h => ⟨rfl, h⟩)) ?_
  rintro _ G1 ⟨rfl, hT1⟩
  cases res with
  | inl v =>
    have hq := hQ _ hT1
    unfold wdv6 at hq
    dsimp only at hq
    refine rk_14004_238 (fun q => rk_14004_245 (rk_14004_246 ?_)) (fun q => rk_14004_241 (rk_14004_246 ?_))
    · rw [if_pos q] at hq
      exact hq
    · rw [if_neg q] at hq
      exact hq
  | inr e =>
    rcases he e rfl with rfl | rfl | rfl
    · exact ⟨rfl, rfl, rj_X_sp (n := 1) (rj_X_ir rfl trivial (hQ _ hT1))⟩
    · exact ⟨rfl, rfl, rj_X_sp (n := 1) (rj_X_ir rfl trivial (hQ _ hT1))⟩
    · exact ⟨rfl, rfl, rj_X_sp (n := 1) (rj_X_ir rfl trivial (hQ _ hT1))⟩
def wrN : Int32 ⊕ Nat → Int32 ⊕ Nat
  | .inl _ => .inl (Int32.ofInt (0))
  | .inr k => .inr k
theorem wrN_e {res : Int32 ⊕ Nat} (he : ∀ e, res = .inr e → e = 15 ∨ e = 16 ∨ e = 17) : ∀ e, wrN res = .inr e → e = 15 ∨ e = 16 ∨ e = 17 := fun e h => by
  cases res with
  | inl v => cases h
  | inr k => exact he e h
theorem nw_14005 {x1 x2 : Int32} {res : Int32 ⊕ Nat} (hr : RV d 12006 [some (.inl (((x1).toUInt32 % 65536).toInt32)), some (.inl (x2)), none] (oV res) H H') (he : ∀ e, res = .inr e → e = 15 ∨ e = 16 ∨ e = 17) : RV (d + 1) 14005 [some (.inl (x1)), some (.inl (x2))] (oI (wrN res)) H H' := by
  intro K H2 a b G Q hT hQ
  refine rk_14005_0 ?_
  refine rj_X_callP (P := fun o G1 => o = oV res ∧ TW K H' H2 a b G1) rfl rfl rfl (Nat.le_of_ble_eq_true rfl) (And.intro (Nat.le_of_ble_eq_true rfl) (TW_k hT)) (hr K H2 a b G _ hT (fun G' h => ⟨rfl, h⟩)) ?_
  rintro _ G1 ⟨rfl, hT1⟩
  cases res with
  | inl v => exact rk_14005_7 (hQ _ hT1)
  | inr e =>
    rcases he e rfl with rfl | rfl | rfl
    · exact ⟨rfl, rfl, hQ _ hT1⟩
    · exact ⟨rfl, rfl, hQ _ hT1⟩
    · exact ⟨rfl, rfl, hQ _ hT1⟩
theorem nw_14006 {x1 x2 : Int32} {res : Int32 ⊕ Nat} (hr : RV d 12008 [some (.inl (((x1).toUInt32 % 65536).toInt32)), none] (oV res) H H') (he : ∀ e, res = .inr e → e = 15 ∨ e = 16 ∨ e = 17) : RV (d + 1) 14006 [some (.inl (x1))] (oI (wrN res)) H H' := by
  intro K H2 a b G Q hT hQ
  refine rk_14006_0 ?_
  refine rj_X_callP (P := fun o G1 => o = oV res ∧ TW K H' H2 a b G1) rfl rfl rfl (Nat.le_of_ble_eq_true rfl) (And.intro (Nat.le_of_ble_eq_true rfl) (TW_k hT)) (hr K H2 a b G _ hT (fun G' h => ⟨rfl, h⟩)) ?_
  rintro _ G1 ⟨rfl, hT1⟩
  cases res with
  | inl v => exact rk_14006_6 (hQ _ hT1)
  | inr e =>
    rcases he e rfl with rfl | rfl | rfl
    · exact ⟨rfl, rfl, hQ _ hT1⟩
    · exact ⟨rfl, rfl, hQ _ hT1⟩
    · exact ⟨rfl, rfl, hQ _ hT1⟩
end H04
