/-! THE FIRST TAG THAT MAY FAIL: tags -/
theorem fk_k {lv p : Nat} {x : Bool} {f f' : mm_F} (h : fk_F lv f f') : fk_F lv f (kf f' p x) := ⟨fun a k h1 h2 h3 => (kf_n h1).trans (h.1 a k h1 h2 h3), fun k h1 h2 h3 => (kf_m h2 h3).trans (h.2.1 k h1 h2 h3), fun k hk => (kf_n (by decide)).trans (h.2.2.1 k hk), fun k hk => (kf_n (by decide)).trans (h.2.2.2 k hk)⟩
theorem fk_75 {lv : Nat} {x : Int32} {f : mm_F} : fk_F lv f (mj_u2 f 1714 75 x) := ⟨fun a k h _ _ => z_u2n h, fun k _ _ h => z_u2m h, fun k _ => z_u2n (by decide), fun k _ => z_u2n (by decide)⟩
section CT
variable {G Gm : mj_G} {w : Nat → Nat} {n t : Nat} {A : Nat → Prop} {hm : Int32}
/-- the expression of a tag, with the kinds that are right for it -/
theorem ct_E {now : Nat → Nat} {l r s e mk R : Nat} (hM : mm_S Gm) (hW : tx_W w n) (hnow : ∀ i, now i < 16) (hE : tx_E l A G r w s e false) (he : w e = 125) (hmk : (mk = 25 ∧ R = 6) ∨ (mk = 16 ∧ R = 15) ∨ (mk = 23 ∧ R = 8) ∨ (mk = 29 ∧ R = 2)) : ∃ (bad : Bool) (v : Nat), v < 16 ∧
    (∀ H row, kq_C A G H row now → ∀ d (K : Bool → mj_G → Prop), 100 ≤ d → K bad H → Fo_kindsOf d r row (nI 0) H (fun v3 G2 => mm_br ((v3 &&& (nI mk)) = (nI 0)) (K false G2) (K true G2))) ∧
    (bad = false → ∀ H row, kq_C A G H row now → ∀ d K, 100 ≤ d → K (nI v) H → Fo_kindsOf d r row (nI 0) H K) ∧
    (∀ f lv, kn_C now f t w n → ∀ d (X : Int32 → mm_F → Prop), 300 ≤ d → (∀ f', (∀ (K : mm_F → Prop), (∀ f7, fk_F lv f f7 → (∀ k, f7 1764 k = f 1764 k) → f7 1714 75 = bI bad → K f7) → m_only Gm d (nI v) (nI R) f' (fun _ f7 => K f7)) → X (nI v) f') → m_kindsAt Gm d (nI t) (nI s) (mj_u2 f 1714 75 (nI 0)) X) := by
  have hn := hW.1
  have hen := tx_in hW (k := e) (by omega)
  obtain ⟨kc, km, b, c1, c2, c3, c4, c5⟩ := ck_E (Gm := Gm) (t := t) hM hW hnow hE (Nat.le_of_lt hen) (by omega)
  have eb : (b || kb kc R) = (b || kb km R) := by
    cases b with
    | true => rfl
    | false => rw [c3 rfl]
  refine ⟨b || kb km R, km, c2, fun H row hH d K hd hK => c4 H row hH d _ (by omega) ?_, fun hb H row hH d K hd hK => c4 H row hH d K (by omega) ?_, fun f lv hk d X hd hX => ?_⟩
  · rw [kmask c1 hmk, eb]
    cases hc : (b || kb km R) with
    | true =>
      rw [hc] at hK
      exact z_bf (by decide) hK
    | false =>
      rw [hc] at hK
      exact z_bt rfl hK
  · obtain ⟨h1, -⟩ := Bool.or_eq_false_iff.mp hb
    rw [h1, c3 h1]
    exact hK
  · have hk0 : kn_C now (mj_u2 f 1714 75 (nI 0)) t w n := kn_fk (lv := lv) hk fk_75 (fun k => z_u2n (by decide))
    refine c5 _ false lv hk0 z_u2s d X (by omega) (fun f' f1 f2 f3 f4 f5 => hX f' (fun K hK => ?_))
    have hR : R < 16 := by omega
    have h := c_only (Gm := Gm) (d := d) (f := f') (i := km) (g := R) (p := e) (x := false || b) (K := fun _ f7 => K f7) hM c2 hR (hK _ (fk_k (fk_trans fk_75 f1)) (fun k => (kf_n (by decide)).trans ((f3 k).trans (z_u2n (by decide)))) (by rw [kf_75, Bool.false_or]))
    rw [← f2] at h
    exact h
/-- a tag: whether it may fail -/
theorem ct_tag {now : Nat → Nat} {k r p m : Nat} {b : Int32} {L1 : List (Nat × Nat)} (hM : mm_S Gm) (hW : tx_W w n) (hnow : ∀ i, now i < 16) (hA : A r) (ht : tb_t k A G hm b r w p m L1) : ∃ (bad : Bool) (v : Nat), v < 16 ∧
    (w (p + 1) ≠ 36 → ∀ H row, kq_C A G H row now → ∀ d (K : Bool → mj_G → Prop), 420 ≤ d → K bad H → Fo_mayFail d r row H K) ∧
    (w (p + 1) = 37 → bad = false → ∀ H row, kq_C A G H row now → ∀ d K, 100 ≤ d → K (nI v) H → Fo_kindsOf d (mj_r G r 6) row (nI 0) H K) ∧
    (∀ f lv, kn_C now f t w n → ∀ d K, 520 ≤ d → (∀ f' x4, fk_F lv f f' → (∀ k, f' 1764 k = f 1764 k) → f' 1714 75 = bI bad → (w (p + 1) = 37 → x4 = nI v) → m_checksTag_143 Gm (d + 1) (nI t) (nI p) (nI (w (p + 1))) x4 f' K) → m_checksTag Gm (d + 1) (nI t) (nI p) f K) ∧ (w (p + 1) = 36 → bad = false) := by
  obtain ⟨h1, h2, h3, h4, h5, h6, h7, e, h8, h9, h10, -⟩ := ht
  have hn := hW.1
  have hw := tx_le hW (p + 1)
  have hp1 : p + 1 < n := tx_in hW (by unfold tx_T at h6; omega)
  have hen := tx_in hW (k := e) (by omega)
  -- the class up to its cases
  have cls : ∀ H row, kq_C A G H row now → ∀ d (K : Bool → mj_G → Prop),
      (w (p + 1) = 37 ∨ w (p + 1) = 63 → Fo_kindsOf d (mj_r G r 6) row (nI 0) H (fun v3 G2 => mm_br ((v3 &&& (nI 16)) = (nI 0)) (K false G2) (K true G2))) → (w (p + 1) = 42 → Fo_kindsOf d (mj_r G r 6) row (nI 0) H (fun v3 G2 => mm_br ((v3 &&& (nI 23)) = (nI 0)) (K false G2) (K true G2))) →
      (w (p + 1) = 61 → Fo_kindsOf d (mj_r G r 6) row (nI 0) H (fun v3 G2 => mm_br ((v3 &&& (nI 25)) = (nI 0)) (K false G2) (K true G2))) → (w (p + 1) = 116 → Fo_kindsOf d (mj_r G r 6) row (nI 0) H (fun v3 G2 => mm_br ((v3 &&& (nI 29)) = (nI 0)) (K false G2) (K true G2))) →
      (¬ (w (p + 1) = 37 ∨ w (p + 1) = 63 ∨ w (p + 1) = 42 ∨ w (p + 1) = 61 ∨ w (p + 1) = 116) → Fo_mayFailInArguments d r row H (fun v13 G12 => K v13 G12)) → Fo_mayFail (d + 1) r row H K := fun H row hH d K k1 k2 k3 k4 k5 => by
    obtain ⟨e1, -, e3, e4⟩ := hH.2.1 r hA
    refine w_Fo_mayFail hH.1 ⟨e1.trans h2, ?_⟩
    have q : ∀ {x : Nat}, x ≤ 126 → (mj_i H r 0 = nI x) = (w (p + 1) = x) := fun hx => by rw [e4 0, h7, z_eq (by omega) (by omega)]
    rw [q (by decide), q (by decide), q (by decide), q (by decide), q (by decide), e3 6]
    exact z_br (fun q => k1 (Or.inl q)) (fun _ => z_br k2 (fun _ => z_br k3 (fun _ => z_br (fun q => k1 (Or.inr q)) (fun _ => z_br k4 (fun _ => k5 (by omega))))))
  -- the model up to its cases
  have mod : ∀ (f : mm_F) (lv : Nat), kn_C now f t w n → ∀ d K, 520 ≤ d → (w (p + 1) = 61 → m_kindsAt Gm d (nI t) (nI (p + 2)) (mj_u2 f 1714 75 (nI 0)) (fun v4 f3 => m_only Gm d v4 (nI 6) f3 (fun _ f7 => m_checksTag_143 Gm (d + 1) (nI t) (nI p) (nI (w (p + 1))) v4 f7 K))) →
      (w (p + 1) = 63 → m_kindsAt Gm d (nI t) (nI (p + 2)) (mj_u2 f 1714 75 (nI 0)) (fun v4 f3 => m_only Gm d v4 (nI 15) f3 (fun _ f7 => m_checksTag_143 Gm (d + 1) (nI t) (nI p) (nI (w (p + 1))) v4 f7 K))) →
      (w (p + 1) = 42 → m_kindsAt Gm d (nI t) (nI (p + 3)) (mj_u2 f 1714 75 (nI 0)) (fun v4 f3 => m_only Gm d v4 (nI 8) f3 (fun _ f7 => m_checksTag_143 Gm (d + 1) (nI t) (nI p) (nI (w (p + 1))) v4 f7 K))) →
      (w (p + 1) = 116 → m_kindsAt Gm d (nI t) (nI (p + 3)) (mj_u2 f 1714 75 (nI 0)) (fun v4 f3 => m_only Gm d v4 (nI 2) f3 (fun _ f7 => m_checksTag_143 Gm (d + 1) (nI t) (nI p) (nI (w (p + 1))) v4 f7 K))) →
      (w (p + 1) = 37 → m_kindsAt Gm d (nI t) (nI (p + 3)) (mj_u2 f 1714 75 (nI 0)) (fun v4 f3 => m_only Gm d v4 (nI 15) f3 (fun _ f7 => m_checksTag_143 Gm (d + 1) (nI t) (nI p) (nI (w (p + 1))) v4 f7 K))) →
      (w (p + 1) = 33 ∨ w (p + 1) = 38 → m_checksArguments Gm d (nI t) (nI (p + 3)) (mj_u2 f 1714 75 (nI 0)) (fun f7 => m_checksTag_143 Gm (d + 1) (nI t) (nI p) (nI (w (p + 1))) (nI 0) f7 K)) →
      (¬ (w (p + 1) = 37 ∨ w (p + 1) = 63 ∨ w (p + 1) = 42 ∨ w (p + 1) = 61 ∨ w (p + 1) = 116 ∨ w (p + 1) = 33 ∨ w (p + 1) = 38) → m_checksTag_143 Gm (d + 1) (nI t) (nI p) (nI (w (p + 1))) (nI 0) (mj_u2 f 1714 75 (nI 0)) K) → m_checksTag Gm (d + 1) (nI t) (nI p) f K := fun f lv hk d K hd k1 k2 k3 k4 k5 k6 k7 => by
    refine w_m_checksTag hM ?_
    rw [z_add, z_add, z_add]
    refine c_letter hM hk.1 (by omega) ?_
    rw [tx_nxi hp1]
    have q : ∀ {x : Nat}, x ≤ 126 → (nI (w (p + 1)) = nI x) = (w (p + 1) = x) := fun hx => by rw [z_eq (by omega) (by omega)]
    have e80 : ∀ R, (w (p + 1) = 42 ∧ R = 8) ∨ (w (p + 1) = 116 ∧ R = 2) ∨ (w (p + 1) = 37 ∧ R = 15) → m_kindsAt Gm d (nI t) (nI (p + 3)) (mj_u2 f 1714 75 (nI 0)) (fun v4 f3 => m_only Gm d v4 (nI R) f3 (fun _ f7 => m_checksTag_143 Gm (d + 1) (nI t) (nI p) (nI (w (p + 1))) v4 f7 K)) → m_checksTag_80 Gm (d + 1) (nI t) (nI p) (nI (w (p + 1))) (mj_u2 f 1714 75 (nI 0)) K := fun R hR h => by
      refine w_m_checksTag_80 hM ?_
      rw [z_add]
      refine mj_X_mono h (fun o G1 ⟨v, o1, f1, o2, o3⟩ => ⟨v, o1, f1, o2, ?_⟩)
      rw [q (by decide), q (by decide)]
      rcases hR with ⟨g, rfl⟩ | ⟨g, rfl⟩ | ⟨g, rfl⟩
      · exact z_bt g o3
      · exact z_bf (by omega) (z_bt g o3)
      · exact z_bf (by omega) (z_bf (by omega) o3)
    rw [q (by decide), q (by decide), q (by decide), q (by decide), q (by decide), q (by decide), q (by decide)]
    refine z_br (fun c => ?_) (fun _ => z_br (fun c => ?_) (fun _ => z_br (fun c => e80 8 (Or.inl ⟨c, rfl⟩) (k3 c)) (fun _ => z_br (fun c => e80 15 (Or.inr (Or.inr ⟨c, rfl⟩)) (k5 c)) (fun _ => z_br (fun c => e80 2 (Or.inr (Or.inl ⟨c, rfl⟩)) (k4 c)) (fun _ => z_br (fun c => k6 (Or.inl c)) (fun _ => z_br (fun c => k6 (Or.inr c)) (fun _ => k7 (by omega))))))))
    · refine mj_X_mono (k1 c) (fun o G1 ⟨v, o1, f1, o2, o3⟩ => ⟨v, o1, f1, o2, ?_⟩)
      exact z_bt c o3
    · refine mj_X_mono (k2 c) (fun o G1 ⟨v, o1, f1, o2, o3⟩ => ⟨v, o1, f1, o2, ?_⟩)
      exact z_bf (by omega) o3
  -- a tag with an expression at s
  have exp : ∀ s mk R, (∃ l, tx_E l A G (mj_r G r 6) w s e false) → ((mk = 25 ∧ R = 6) ∨ (mk = 16 ∧ R = 15) ∨ (mk = 23 ∧ R = 8) ∨ (mk = 29 ∧ R = 2)) → ∃ (bad : Bool) (v : Nat), v < 16 ∧
      (∀ H row, kq_C A G H row now → ∀ d (K : Bool → mj_G → Prop), 100 ≤ d → K bad H → Fo_kindsOf d (mj_r G r 6) row (nI 0) H (fun v3 G2 => mm_br ((v3 &&& (nI mk)) = (nI 0)) (K false G2) (K true G2))) ∧
      (bad = false → ∀ H row, kq_C A G H row now → ∀ d K, 100 ≤ d → K (nI v) H → Fo_kindsOf d (mj_r G r 6) row (nI 0) H K) ∧
      (∀ f lv, kn_C now f t w n → ∀ d K, 520 ≤ d → (∀ f' x4, fk_F lv f f' → (∀ k, f' 1764 k = f 1764 k) → f' 1714 75 = bI bad → (w (p + 1) = 37 → x4 = nI v) → m_checksTag_143 Gm (d + 1) (nI t) (nI p) (nI (w (p + 1))) x4 f' K) → m_kindsAt Gm d (nI t) (nI s) (mj_u2 f 1714 75 (nI 0)) (fun v4 f3 => m_only Gm d v4 (nI R) f3 (fun _ f7 => m_checksTag_143 Gm (d + 1) (nI t) (nI p) (nI (w (p + 1))) v4 f7 K))) := fun s mk R ⟨l, hE⟩ hmk => by
    obtain ⟨bad, v, v1, v2, v3, v4⟩ := ct_E (Gm := Gm) (t := t) hM hW hnow hE h10 hmk
    exact ⟨bad, v, v1, v2, v3, fun f lv hk d K hd hK => v4 f lv hk d _ (by omega) (fun f' ho => ho _ (fun f7 g1 g2 g3 => hK f7 _ g1 g2 g3 (fun _ => rfl)))⟩
  have tE2 : (w (p + 1) = 61 ∨ w (p + 1) = 63) → ∃ l, tx_E l A G (mj_r G r 6) w (p + 2) e false := fun c => by
    rcases h9 with ⟨a, c, -⟩ | ⟨a, -⟩ | ⟨a, -⟩ | ⟨a, -⟩ | ⟨a, -⟩ | ⟨a, -⟩ | ⟨a, -⟩ | ⟨a, -⟩
    · exact c
    all_goals omega
  have tE3 : (w (p + 1) = 42 ∨ w (p + 1) = 37 ∨ w (p + 1) = 116) → ∃ l, tx_E l A G (mj_r G r 6) w (p + 3) e false := fun c => by
    rcases h9 with ⟨a, -⟩ | ⟨a, -, c, -⟩ | ⟨a, -, c, -⟩ | ⟨a, -⟩ | ⟨a, -⟩ | ⟨a, -⟩ | ⟨a, -⟩ | ⟨a, -⟩
    · omega
    · exact c
    · exact c
    all_goals omega
  by_cases d1 : w (p + 1) = 61
  · obtain ⟨bad, v, v1, v2, v3, v4⟩ := exp (p + 2) 25 6 (tE2 (Or.inl d1)) (Or.inl ⟨rfl, rfl⟩)
    refine ⟨bad, v, v1, fun _ H row hH d K hd hK => ?_, fun q => absurd q (by omega), fun f lv hk d K hd hK => mod f lv hk d K hd (fun _ => v4 f lv hk d K hd hK) (fun q => absurd q (by omega)) (fun q => absurd q (by omega)) (fun q => absurd q (by omega)) (fun q => absurd q (by omega)) (fun q => absurd q (by omega)) (fun q => absurd (by omega) q), fun q => absurd q (by omega)⟩
    obtain ⟨d, rfl⟩ : ∃ e, d = e + 1 := ⟨d - 1, by omega⟩
    exact cls H row hH d K (fun q => absurd q (by omega)) (fun q => absurd q (by omega)) (fun _ => v2 H row hH d K (by omega) hK) (fun q => absurd q (by omega)) (fun q => absurd (by omega) q)
  by_cases d2 : w (p + 1) = 63
  · obtain ⟨bad, v, v1, v2, v3, v4⟩ := exp (p + 2) 16 15 (tE2 (Or.inr d2)) (Or.inr (Or.inl ⟨rfl, rfl⟩))
    refine ⟨bad, v, v1, fun _ H row hH d K hd hK => ?_, fun q => absurd q (by omega), fun f lv hk d K hd hK => mod f lv hk d K hd (fun q => absurd q (by omega)) (fun _ => v4 f lv hk d K hd hK) (fun q => absurd q (by omega)) (fun q => absurd q (by omega)) (fun q => absurd q (by omega)) (fun q => absurd q (by omega)) (fun q => absurd (by omega) q), fun q => absurd q (by omega)⟩
    obtain ⟨d, rfl⟩ : ∃ e, d = e + 1 := ⟨d - 1, by omega⟩
    exact cls H row hH d K (fun _ => v2 H row hH d K (by omega) hK) (fun q => absurd q (by omega)) (fun q => absurd q (by omega)) (fun q => absurd q (by omega)) (fun q => absurd (by omega) q)
  by_cases d3 : w (p + 1) = 42
  · obtain ⟨bad, v, v1, v2, v3, v4⟩ := exp (p + 3) 23 8 (tE3 (Or.inl d3)) (Or.inr (Or.inr (Or.inl ⟨rfl, rfl⟩)))
    refine ⟨bad, v, v1, fun _ H row hH d K hd hK => ?_, fun q => absurd q (by omega), fun f lv hk d K hd hK => mod f lv hk d K hd (fun q => absurd q (by omega)) (fun q => absurd q (by omega)) (fun _ => v4 f lv hk d K hd hK) (fun q => absurd q (by omega)) (fun q => absurd q (by omega)) (fun q => absurd q (by omega)) (fun q => absurd (by omega) q), fun q => absurd q (by omega)⟩
    obtain ⟨d, rfl⟩ : ∃ e, d = e + 1 := ⟨d - 1, by omega⟩
    exact cls H row hH d K (fun q => absurd q (by omega)) (fun _ => v2 H row hH d K (by omega) hK) (fun q => absurd q (by omega)) (fun q => absurd q (by omega)) (fun q => absurd (by omega) q)
  by_cases d4 : w (p + 1) = 116
  · obtain ⟨bad, v, v1, v2, v3, v4⟩ := exp (p + 3) 29 2 (tE3 (Or.inr (Or.inr d4))) (Or.inr (Or.inr (Or.inr ⟨rfl, rfl⟩)))
    refine ⟨bad, v, v1, fun _ H row hH d K hd hK => ?_, fun q => absurd q (by omega), fun f lv hk d K hd hK => mod f lv hk d K hd (fun q => absurd q (by omega)) (fun q => absurd q (by omega)) (fun q => absurd q (by omega)) (fun _ => v4 f lv hk d K hd hK) (fun q => absurd q (by omega)) (fun q => absurd q (by omega)) (fun q => absurd (by omega) q), fun q => absurd q (by omega)⟩
    obtain ⟨d, rfl⟩ : ∃ e, d = e + 1 := ⟨d - 1, by omega⟩
    exact cls H row hH d K (fun q => absurd q (by omega)) (fun q => absurd q (by omega)) (fun q => absurd q (by omega)) (fun _ => v2 H row hH d K (by omega) hK) (fun q => absurd (by omega) q)
  by_cases d5 : w (p + 1) = 37
  · obtain ⟨bad, v, v1, v2, v3, v4⟩ := exp (p + 3) 16 15 (tE3 (Or.inr (Or.inl d5))) (Or.inr (Or.inl ⟨rfl, rfl⟩))
    refine ⟨bad, v, v1, fun _ H row hH d K hd hK => ?_, fun _ => v3, fun f lv hk d K hd hK => mod f lv hk d K hd (fun q => absurd q (by omega)) (fun q => absurd q (by omega)) (fun q => absurd q (by omega)) (fun q => absurd q (by omega)) (fun _ => v4 f lv hk d K hd hK) (fun q => absurd q (by omega)) (fun q => absurd (by omega) q), fun q => absurd q (by omega)⟩
    obtain ⟨d, rfl⟩ : ∃ e, d = e + 1 := ⟨d - 1, by omega⟩
    exact cls H row hH d K (fun _ => v2 H row hH d K (by omega) hK) (fun q => absurd q (by omega)) (fun q => absurd q (by omega)) (fun q => absurd q (by omega)) (fun q => absurd (by omega) q)
  have nof : ¬ (w (p + 1) = 37 ∨ w (p + 1) = 63 ∨ w (p + 1) = 42 ∨ w (p + 1) = 61 ∨ w (p + 1) = 116) := by omega
  by_cases d6 : (w (p + 1) = 33 ∨ w (p + 1) = 38) ∧ mj_r G r 7 ≠ 0
  · -- a call with arguments
    obtain ⟨i, hAr⟩ : ∃ i, tx_A i A G (mj_r G r 7) w (p + 3) e := by
      rcases h9 with ⟨a, -⟩ | ⟨a, -⟩ | ⟨a, -⟩ | ⟨a, -⟩ | ⟨a, -⟩ | ⟨a, -⟩ | ⟨a, -⟩ | ⟨a, -, c, -⟩
      all_goals try omega
      rcases c with ⟨-, c⟩ | ⟨-, c⟩
      · exact absurd c d6.2
      · exact ⟨3, c⟩
    obtain ⟨bad, v1, v2⟩ := ck_A (Gm := Gm) (t := t) hM hW hnow h10 hAr
    refine ⟨bad, 0, by decide, fun _ H row hH d K hd hK => ?_, fun q => absurd q d5, fun f lv hk d K hd hK => mod f lv hk d K hd (fun q => absurd q d1) (fun q => absurd q d2) (fun q => absurd q d3) (fun q => absurd q d4) (fun q => absurd q d5) (fun _ => ?_) (fun q => absurd (by omega) q), fun q => absurd q (by omega)⟩
    · obtain ⟨d, rfl⟩ : ∃ e, d = e + 2 := ⟨d - 2, by omega⟩
      refine cls H row hH (d + 1) K (fun q => absurd q (by omega)) (fun q => absurd q (by omega)) (fun q => absurd q (by omega)) (fun q => absurd q (by omega)) (fun _ => ?_)
      obtain ⟨e1, -, e3, e4⟩ := hH.2.1 r hA
      refine w_Fo_mayFailInArguments hH.1 ⟨e1.trans h2, ?_⟩
      rw [e3 7]
      exact v1 H row hH d _ (by omega) hK
    · obtain ⟨d, rfl⟩ : ∃ e, d = e + 1 := ⟨d - 1, by omega⟩
      refine w_m_checksArguments hM (v2 _ false lv (kn_fk (lv := lv) hk fk_75 (fun k => z_u2n (by decide))) z_u2s d _ (by omega) (fun f' g1 g2 g3 => hK f' _ (fk_trans fk_75 g1) (fun k => (g2 k).trans (z_u2n (by decide))) (by rw [Bool.false_or] at g3; exact g3) (fun q => absurd q d5)))
  · -- nothing that may fail
    have no7 : w (p + 1) ≠ 36 → mj_r G r 7 = 0 := fun h36 => by
      rcases h9 with ⟨a, -⟩ | ⟨a, -⟩ | ⟨a, -⟩ | ⟨a, -, -, -, -, -, c⟩ | ⟨a, -, -, -, -, c⟩ | ⟨a, -, -, -, -, c⟩ | ⟨a, -⟩ | ⟨a, -, -⟩
      · omega
      · omega
      · omega
      · exact c
      · exact c
      · exact c
      · exact absurd a h36
      · exact Decidable.byContradiction (fun q => d6 ⟨a, q⟩)
    refine ⟨false, 0, by decide, fun h36 H row hH d K hd hK => ?_, fun q => absurd q d5, fun f lv hk d K hd hK => mod f lv hk d K hd (fun q => absurd q d1) (fun q => absurd q d2) (fun q => absurd q d3) (fun q => absurd q d4) (fun q => absurd q d5) (fun c => ?_) (fun _ => hK _ _ fk_75 (fun k => z_u2n (by decide)) z_u2s (fun q => absurd q d5)), fun _ => rfl⟩
    · obtain ⟨d, rfl⟩ : ∃ e, d = e + 2 := ⟨d - 2, by omega⟩
      refine cls H row hH (d + 1) K (fun q => absurd q (by omega)) (fun q => absurd q (by omega)) (fun q => absurd q (by omega)) (fun q => absurd q (by omega)) (fun _ => ?_)
      obtain ⟨e1, -, e3, e4⟩ := hH.2.1 r hA
      refine w_Fo_mayFailInArguments hH.1 ⟨e1.trans h2, ?_⟩
      rw [e3 7, no7 h36]
      exact w_Fo_mayFailInArguments_5 hH.1 (z_bt rfl hK)
    · -- a call without arguments
      have hp3 : e = p + 3 := by
        rcases h9 with ⟨a, -⟩ | ⟨a, -⟩ | ⟨a, -⟩ | ⟨a, -⟩ | ⟨a, -⟩ | ⟨a, -⟩ | ⟨a, -⟩ | ⟨a, -, q, -⟩
        all_goals try omega
        rcases q with ⟨q, -⟩ | ⟨-, q⟩
        · exact q
        · have := no7 (by omega)
          rw [this] at q
          exact absurd rfl q.2.1
      obtain ⟨d, rfl⟩ : ∃ e, d = e + 1 := ⟨d - 1, by omega⟩
      refine w_m_checksArguments hM (w_m_checksArguments_2 hM (by omega) (c_letter hM (kn_fk (lv := lv) hk fk_75 (fun k => z_u2n (by decide))).1 (by omega) ?_))
      rw [tx_nxe hW (by decide)]
      exact z_bt (by rw [← hp3]; exact h10) (hK _ _ fk_75 (fun k => z_u2n (by decide)) z_u2s (fun q => absurd q d5))
end CT
