/-! THE FIRST TAG THAT MAY FAIL, by both sides alike: tags -/
/-- cells but one's ints are as they were -/
def fc_F (row : Nat) (G G' : mj_G) : Prop := mj_n G ≤ mj_n G' ∧ ∀ a, a < mj_n G → mj_k G' a = mj_k G a ∧ mj_l G' a = mj_l G a ∧ (∀ j, mj_r G' a j = mj_r G a j) ∧ (a ≠ row → ∀ j, mj_i G' a j = mj_i G a j)
theorem fc_rfl {row : Nat} {G : mj_G} : fc_F row G G := ⟨Nat.le_refl _, fun _ _ => ⟨rfl, rfl, fun _ => rfl, fun _ _ => rfl⟩⟩
theorem fc_of {row : Nat} {G G' : mj_G} (h : fn_F G G') : fc_F row G G' := ⟨h.1, fun a ha => ⟨(h.2 a ha).1, (h.2 a ha).2.1, (h.2 a ha).2.2.1, fun _ => (h.2 a ha).2.2.2⟩⟩
theorem fc_trans {row : Nat} {G G1 G2 : mj_G} (h1 : fc_F row G G1) (h2 : fc_F row G1 G2) : fc_F row G G2 := by
  refine ⟨Nat.le_trans h1.1 h2.1, fun a ha => ?_⟩
  obtain ⟨a1, a2, a3, a4⟩ := h1.2 a ha
  obtain ⟨b1, b2, b3, b4⟩ := h2.2 a (Nat.lt_of_lt_of_le ha h1.1)
  exact ⟨b1.trans a1, b2.trans a2, fun j => (b3 j).trans (a3 j), fun h j => (b4 h j).trans (a4 h j)⟩
theorem fc_pI {row k : Nat} {x : Int32} {G : mj_G} : fc_F row G (mj_pI G row k x) := ⟨Nat.le_refl _, fun a _ => ⟨rfl, rfl, fun _ => rfl, fun h _ => z_iIn h⟩⟩
theorem fc_new {row : Nat} {G G1 G' : mj_G} (h : fn_F G G1) (h2 : fc_F row G1 G') (hr : mj_n G ≤ row) : fn_F G G' := by
  refine ⟨Nat.le_trans h.1 h2.1, fun a ha => ?_⟩
  obtain ⟨a1, a2, a3, a4⟩ := h.2 a ha
  obtain ⟨b1, b2, b3, b4⟩ := h2.2 a (Nat.lt_of_lt_of_le ha h.1)
  exact ⟨b1.trans a1, b2.trans a2, fun j => (b3 j).trans (a3 j), fun j => (b4 (by omega) j).trans (a4 j)⟩
/-- the model's state while it checks: templates as they were, what was put by at lower levels too -/
def fk_F (lv : Nat) (f f' : mm_F) : Prop := (∀ a k, a ≠ 1714 → a ≠ 1764 → a ≠ 1765 → f' a k = f a k) ∧ (∀ k, k ≠ 22 → k ≠ 23 → k ≠ 75 → f' 1714 k = f 1714 k) ∧ (∀ k, k < 26 * lv → f' 1765 k = f 1765 k) ∧ ∀ k, 26 ≤ k → f' 1764 k = f 1764 k
theorem fk_rfl {lv : Nat} {f : mm_F} : fk_F lv f f := ⟨fun _ _ _ _ _ => rfl, fun _ _ _ _ => rfl, fun _ _ => rfl, fun _ _ => rfl⟩
theorem fk_trans {lv : Nat} {f f1 f2 : mm_F} (h1 : fk_F lv f f1) (h2 : fk_F lv f1 f2) : fk_F lv f f2 := ⟨fun a k x y z => (h2.1 a k x y z).trans (h1.1 a k x y z), fun k x y z => (h2.2.1 k x y z).trans (h1.2.1 k x y z), fun k hk => (h2.2.2.1 k hk).trans (h1.2.2.1 k hk), fun k hk => (h2.2.2.2 k hk).trans (h1.2.2.2 k hk)⟩
theorem fk_kf {lv p t : Nat} {x : Bool} {f : mm_F} : fk_F lv f (kf (mj_u2 f 1714 22 (nI t)) p x) := ⟨fun a k h _ _ => (kf_n h).trans (z_u2n h), fun k h1 h2 h3 => (kf_m h2 h3).trans (z_u2m h1), fun k _ => (kf_n (by decide)).trans (z_u2n (by decide)), fun k _ => (kf_n (by decide)).trans (z_u2n (by decide))⟩
theorem fk_mt {lv t : Nat} {f f' : mm_F} {w : Nat → Nat} {n : Nat} (hT : mt_T f t w n) (h : fk_F lv f f') : mt_T f' t w n := mt_o hT (fun k => h.1 _ k (by decide) (by decide) (by decide)) (fun k => h.1 _ k (by decide) (by decide) (by decide))
theorem kmask_all : ((List.range 16).all fun k => [true, false].all fun b => [(25, 6), (16, 15), (23, 8), (29, 2)].all fun p => decide (kv k b &&& nI p.1 = nI 0) == !(b || kb k p.2)) = true := by decide +kernel
theorem kmask {k m g : Nat} {b : Bool} (hk : k < 16) (hm : (m = 25 ∧ g = 6) ∨ (m = 16 ∧ g = 15) ∨ (m = 23 ∧ g = 8) ∨ (m = 29 ∧ g = 2)) : (kv k b &&& nI m = nI 0) = ((b || kb k g) = false) := by
  have h := List.all_eq_true.mp (List.all_eq_true.mp (List.all_eq_true.mp kmask_all k (List.mem_range.mpr hk)) b (by cases b <;> simp)) (m, g) (by rcases hm with ⟨rfl, rfl⟩ | ⟨rfl, rfl⟩ | ⟨rfl, rfl⟩ | ⟨rfl, rfl⟩ <;> simp)
  have h1 := eq_of_beq h
  cases hb : (b || kb k g) with
  | true =>
    rw [hb] at h1
    exact propext ⟨(fun q => by rw [decide_eq_true q] at h1; cases h1), (fun q => by cases q)⟩
  | false =>
    rw [hb] at h1
    exact propext ⟨fun _ => rfl, fun _ => of_decide_eq_true h1⟩
theorem kb_15 {k : Nat} : kb k 15 = false := by
  unfold kb
  rw [show Nat.land k (15 - 15) = 0 from Nat.and_zero k]
  rfl
section CK
variable {G Gm : mj_G} {w : Nat → Nat} {n t : Nat} {A : Nat → Prop}
/-- the model's kinds -/
def kn_C (now : Nat → Nat) (f : mm_F) (t : Nat) (w : Nat → Nat) (n : Nat) : Prop := mt_T f t w n ∧ ∀ i, i < 26 → f 1764 i = nI (now i)
theorem kn_fk {now : Nat → Nat} {lv : Nat} {f f' : mm_F} (h : kn_C now f t w n) (hf : fk_F lv f f') (h64 : ∀ k, f' 1764 k = f 1764 k) : kn_C now f' t w n := ⟨fk_mt h.1 hf, fun i hi => (h64 i).trans (h.2 i hi)⟩
/-- an expression of a tag: what both sides find of it -/
theorem ck_E {now : Nat → Nat} {l r p q : Nat} (hM : mm_S Gm) (hW : tx_W w n) (hnow : ∀ i, now i < 16) (hE : tx_E l A G r w p q false) (hq : q ≤ n) (h124 : ¬ w q = 124) : ∃ (kc km : Nat) (b : Bool), kc < 16 ∧ km < 16 ∧ (b = false → kc = km) ∧
    (∀ H row, kq_C A G H row now → ∀ d K, q - p + 20 ≤ d → K (kv kc b) H → Fo_kindsOf d r row (nI 0) H K) ∧
    (∀ f (x : Bool) lv, kn_C now f t w n → f 1714 75 = bI x → ∀ d K, 3 * (q - p) + 33 ≤ d → (∀ f', fk_F lv f f' → f' = kf f' q (x || b) → (∀ k, f' 1764 k = f 1764 k) → f' 1714 23 = nI q → f' 1714 75 = bI (x || b) → K (nI km) f') → m_kindsAt Gm d (nI t) (nI p) f K) := by
  have hn := hW.1
  obtain ⟨kc, km, b, g1, g2, g3, g4, g5, -⟩ := kd_all (Gm := Gm) (t := t) (dep := 0) hM hW hnow hE hq (by omega)
  refine ⟨kc, km, b, g1, g2, g3, g4, fun f x lv hk hx d K hd hK => ?_⟩
  obtain ⟨d, rfl⟩ : ∃ e, d = e + 2 := ⟨d - 2, by omega⟩
  have hT2 : mr_T (mj_u2 f 1714 22 (nI t)) t w n := ⟨mt_o hk.1 (fun k => z_u2n (by decide)) (fun k => z_u2n (by decide)), z_u2s⟩
  have hk2 : km_C now (mj_u2 f 1714 22 (nI t)) t w n := ⟨hT2, fun i hi => (z_u2n (by decide)).trans (hk.2 i hi)⟩
  have e0 : mj_u2 (mj_u2 f 1714 22 (nI t)) 1714 23 (nI p) = kf (mj_u2 f 1714 22 (nI t)) p x := by
    have e75 : sp_a (mj_u2 f 1714 22 (nI t)) p 1714 75 = bI x := by rw [sp_m (by decide), z_u2m (by decide), hx]
    unfold kf
    rw [← e75, z_u2i]
    rfl
  have idem : kf (kf (mj_u2 f 1714 22 (nI t)) q (x || b)) q (x || b) = kf (mj_u2 f 1714 22 (nI t)) q (x || b) := by
    show mj_u2 (sp_a (kf (mj_u2 f 1714 22 (nI t)) q (x || b)) q) 1714 75 (bI (x || b)) = _
    rw [kf_s, kf_x]
  refine w_m_kindsAt hM ?_
  rw [e0]
  refine g5 _ hk2 d x _ (by omega) (w_m_kindsHere_5 hM (c_hereK hM hT2 (by omega) (by omega) ?_))
  rw [tx_nxe hW (by decide)]
  exact z_bf h124 (hK _ fk_kf idem.symm (fun k => (kf_n (by decide)).trans (z_u2n (by decide))) kf_23 kf_75)
/-- the arguments of a call -/
theorem ck_A {now : Nat → Nat} {e : Nat} (hM : mm_S Gm) (hW : tx_W w n) (hnow : ∀ i, now i < 16) (he : w e = 125) : ∀ {i r p}, tx_A i A G r w p e → ∃ bad : Bool, (∀ H row, kq_C A G H row now → ∀ d K, 200 ≤ d → K bad H → Fo_mayFailInArguments_5 (d + 1) row r H K) ∧
    (∀ f (x : Bool) lv, kn_C now f t w n → f 1714 75 = bI x → ∀ d K, 400 ≤ d → (∀ f', fk_F lv f f' → (∀ k, f' 1764 k = f 1764 k) → f' 1714 75 = bI (x || bad) → K f') → m_checksArguments_2 Gm (d + 1) (nI t) (nI p) f K)
  | 0, _, _, h => h.elim
  | i + 1, r, p, h => by
    have hA := h
    have hn := hW.1
    obtain ⟨g1, g2, g3, s, m, g4, ⟨l, g5⟩, g6⟩ := h
    obtain ⟨hlt, hch⟩ := tx_A_ch hA
    obtain ⟨hsm, -⟩ := tx_E_ch g5
    have hen := tx_in hW (k := e) (by omega)
    have h124 : ¬ w m = 124 := by
      rcases g6 with ⟨-, q, -⟩ | ⟨-, q, -⟩
      · omega
      · rw [q]; omega
    have hps : p ≤ s := by rcases g4 with ⟨-, -, q, -⟩ | ⟨-, q, -⟩ <;> omega
    have hmn : m < n := by
      rcases g6 with ⟨-, q, -⟩ | ⟨-, q, -⟩
      · exact tx_in hW (by omega)
      · omega
    -- what follows it
    have nxt : ∃ bad : Bool, (∀ H row, kq_C A G H row now → ∀ d K, 200 ≤ d → K bad H → Fo_mayFailInArguments_5 (d + 1) row (mj_r G r 10) H K) ∧
        (∀ f (x : Bool) lv, kn_C now f t w n → f 1714 75 = bI x → ∀ d K, 400 ≤ d → (∀ f', fk_F lv f f' → (∀ k, f' 1764 k = f 1764 k) → f' 1714 75 = bI (x || bad) → K f') → m_checksArguments_2 Gm (d + 1) (nI t) (nI (if w m = 44 then m + 1 else m)) f K) := by
      rcases g6 with ⟨-, q, g7⟩ | ⟨-, q, g7⟩
      · rw [if_pos q]
        exact ck_A hM hW hnow he g7
      · rw [if_neg (by rw [q]; omega), g7]
        refine ⟨false, fun H row hH d K hd hK => w_Fo_mayFailInArguments_5 hH.1 (z_bt rfl hK), fun f x lv hk h75 d K hd hK => ?_⟩
        refine w_m_checksArguments_2 hM (by omega) (c_letter hM hk.1 (by omega) ?_)
        rw [tx_nxe hW (by decide)]
        rw [Bool.or_false] at hK
        exact z_bt (by rw [q]; exact he) (hK f fk_rfl (fun _ => rfl) h75)
    obtain ⟨bad, n1, n2⟩ := nxt
    obtain ⟨kc, km, b, c1, c2, c3, c4, c5⟩ := ck_E (Gm := Gm) (t := t) hM hW hnow g5 (Nat.le_of_lt hmn) h124
    refine ⟨b || bad, fun H row hH d K hd hK => ?_, fun f x lv hk h75 d K hd hK => ?_⟩
    · obtain ⟨e1, -, e3, -⟩ := hH.2.1 r g1
      refine w_Fo_mayFailInArguments_5 hH.1 (z_bf g2 ⟨e1.trans g3, ?_⟩)
      rw [e3 6]
      refine c4 H row hH d _ (by omega) ?_
      rw [kmask (m := 16) (g := 15) c1 (Or.inr (Or.inl ⟨rfl, rfl⟩)), kb_15, Bool.or_false]
      cases b with
      | true => exact z_bf (by decide) hK
      | false =>
        refine z_bt rfl ⟨e1.trans g3, ?_⟩
        rw [e3 10]
        exact n1 H row hH d K hd hK
    · -- from the expression on
      have tail : ∀ s', s' = s → m_kindsAt Gm d (nI t) (nI s') f (fun v11 f10 => m_letter Gm d (nI t) (f10 1714 23) f10 (fun v13 f12 => mm_br (v13 = (nI 44)) (m_checksArguments_2 Gm (d + 1) (nI t) ((f10 1714 23) + (nI 1)) f12 K) (m_checksArguments_2 Gm (d + 1) (nI t) ((f10 1714 23) + (nI 0)) f12 K))) := fun s' hs => by
        rw [hs]
        refine c5 f x lv hk h75 d _ (by omega) (fun f' f1 f2 f3 f4 f5 => ?_)
        have hk' := kn_fk hk f1 f3
        rw [f4]
        refine c_letter hM hk'.1 (by omega) ?_
        rw [tx_nxe hW (by decide), z_add, z_add]
        have n2' := n2 f' (x || b) lv hk' f5 d K hd (fun f'' e1 e2 e3 => hK f'' (fk_trans f1 e1) (fun k => (e2 k).trans (f3 k)) (by rw [← Bool.or_assoc]; exact e3))
        refine z_br (fun q => ?_) (fun q => ?_)
        · rw [if_pos q] at n2'
          exact n2'
        · rw [if_neg q] at n2'
          exact n2'
      have hp125 := (hch p (Nat.le_refl _) hlt).2.1
      have hpn : p < n := by omega
      refine w_m_checksArguments_2 hM (by omega) (c_letter hM hk.1 (by omega) ?_)
      rw [tx_nxe hW (by decide)]
      refine z_bf hp125 (c_letter hM hk.1 (by omega) ?_)
      rw [tx_nxL hW, z_add]
      have no : ¬ (tx_L (w p) ∧ w (p + 1) = 58) → m_checksArguments_43 Gm (d + 1) (nI t) (nI p) (nI 0) f K := fun q => by
        refine w_m_checksArguments_43 hM (z_bt rfl ?_)
        refine tail p ?_
        rcases g4 with ⟨q1, q2, -⟩ | ⟨-, q1, -⟩
        · exact absurd ⟨q1, q2⟩ q
        · exact q1.symm
      refine z_br (fun hL => c_letter hM hk.1 (by omega) ?_) (fun hL => no (fun q => hL q.1))
      rw [tx_nxe hW (by decide)]
      refine z_br (fun h58 => ?_) (fun h58 => no (fun q => h58 q.2))
      refine w_m_checksArguments_43 hM (z_bf (by decide) ?_)
      rw [z_add]
      refine tail (p + 2) ?_
      rcases g4 with ⟨-, -, q1, -⟩ | ⟨q1, -⟩
      · exact q1.symm
      · exact absurd ⟨hL, h58⟩ q1
end CK
