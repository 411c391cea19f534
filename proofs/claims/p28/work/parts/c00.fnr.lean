/-! VALUES FOUND, told by rules -/
/-- the value of an expression, and what open fragments are told; the first number is how deep it is looked into -/
def FN (D : Nat → rv) (I : Nat → Nat → rv) (B : Nat → Nat) (V : Nat → Nat → Option rv) (M : Nat) (S : Nat → Nat) (x : Nat) (G0 : mj_G) : Nat → Nat → (Nat → Int32) → (Nat → Int32) → Int32 → rv → (Nat → Int32) → (Nat → Int32) → Prop
  | 0, _, _, _, _, _, _, _ => False
  | n + 1, r, ra, rd, e, v, ra', rd' =>
    (mj_i G0 r 0 = nI 1 ∧ e = nI 0 ∧ v = rv_N (mj_i G0 r 1) ∧ ra' = ra ∧ rd' = rd) ∨
    (mj_i G0 r 0 = nI 2 ∧ e = nI 0 ∧ v = rv_T (mj_l G0 (mj_r G0 r 3)) (fun j => (mj_i G0 (mj_r G0 r 3) j).toNatClampNeg) true ∧ ra' = ra ∧ rd' = rd) ∨
    (mj_i G0 r 0 = nI 3 ∧ ∃ l, mj_i G0 r 1 = nI l ∧ l < 26 ∧ e = nI 0 ∧ v = e_vl D B V l x ∧ ra' = e_na B M S l x (e_fd B V l x x) ra ∧ rd' = e_nd B M S l x (e_fd B V l x x) rd) ∨
    (mj_i G0 r 0 = nI 4 ∧ ∃ l k, mj_i G0 r 1 = nI l ∧ mj_i G0 r 2 = nI k ∧ l < 26 ∧ k < 10 ∧ e = (rv_it I (e_vl D B V l x) k).1 ∧ v = (rv_it I (e_vl D B V l x) k).2 ∧ ra' = e_na B M S l x (e_fd B V l x x) ra ∧ rd' = e_nd B M S l x (e_fd B V l x x) rd) ∨
    (mj_i G0 r 0 = nI 33 ∧ ∃ v1, FN D I B V M S x G0 n (mj_r G0 r 4) ra rd e v1 ra' rd' ∧ v = rv_N (bI (rv_B (¬ rv_tr v1)))) ∨
    (∃ c e1 v1, mj_i G0 r 0 = nI c ∧ (c = 117 ∨ c = 108 ∨ c = 114 ∨ c = 106 ∨ c = 110) ∧ FN D I B V M S x G0 n (mj_r G0 r 4) ra rd e1 v1 ra' rd' ∧ ((e1 = nI 0 ∧ e = (rv_fi I c v1).1 ∧ v = (rv_fi I c v1).2) ∨ (¬ e1 = nI 0 ∧ e = e1 ∧ v = rv_0))) ∨
    (mj_i G0 r 0 = nI 100 ∧ ∃ e1 v1 ra1 rd1, FN D I B V M S x G0 n (mj_r G0 r 4) ra rd e1 v1 ra1 rd1 ∧ ((e1 = nI 0 ∧ rv_t v1 = 0 ∧ FN D I B V M S x G0 n (mj_r G0 r 5) ra1 rd1 e v ra' rd') ∨ (e1 = nI 0 ∧ ¬ rv_t v1 = 0 ∧ e = nI 0 ∧ v = v1 ∧ ra' = ra1 ∧ rd' = rd1) ∨ (¬ e1 = nI 0 ∧ e = e1 ∧ v = rv_0 ∧ ra' = ra1 ∧ rd' = rd1))) ∨
    (∃ c e1 v1 ra1 rd1, mj_i G0 r 0 = nI c ∧ tx_O c ∧ FN D I B V M S x G0 n (mj_r G0 r 4) ra rd e1 v1 ra1 rd1 ∧ ((¬ e1 = nI 0 ∧ e = e1 ∧ v = rv_0 ∧ ra' = ra1 ∧ rd' = rd1) ∨ (e1 = nI 0 ∧ ((c = 38 ∧ ¬ rv_tr v1) ∨ (c = 63 ∧ rv_tr v1)) ∧ e = nI 0 ∧ v = (if c = 38 then rv_N (nI 0) else v1) ∧ ra' = ra1 ∧ rd' = rd1) ∨ (e1 = nI 0 ∧ ¬ ((c = 38 ∧ ¬ rv_tr v1) ∨ (c = 63 ∧ rv_tr v1)) ∧ ∃ e2 v2, FN D I B V M S x G0 n (mj_r G0 r 5) ra1 rd1 e2 v2 ra' rd' ∧ ((¬ e2 = nI 0 ∧ e = e2 ∧ v = rv_0) ∨ (e2 = nI 0 ∧ e = (if c = 63 then nI 0 else (rv_op I c v1 v2).1) ∧ v = (if c = 63 then v2 else (rv_op I c v1 v2).2))))))
section C00b
variable {G0 : mj_G} {n N M x : Nat} {w : Nat → Nat} {D : Nat → rv} {I : Nat → Nat → rv} {B S : Nat → Nat} {V : Nat → Nat → Option rv} {A : Nat → Prop}
theorem FN.num {m r : Nat} {ra rd : Nat → Int32} (h : mj_i G0 r 0 = nI 1) : FN D I B V M S x G0 (m + 1) r ra rd (nI 0) (rv_N (mj_i G0 r 1)) ra rd := Or.inl ⟨h, rfl, rfl, rfl, rfl⟩
theorem FN.quo {m r : Nat} {ra rd : Nat → Int32} (h : mj_i G0 r 0 = nI 2) : FN D I B V M S x G0 (m + 1) r ra rd (nI 0) (rv_T (mj_l G0 (mj_r G0 r 3)) (fun j => (mj_i G0 (mj_r G0 r 3) j).toNatClampNeg) true) ra rd := Or.inr (Or.inl ⟨h, rfl, rfl, rfl, rfl⟩)
theorem FN.var {m r l : Nat} {ra rd : Nat → Int32} (h : mj_i G0 r 0 = nI 3) (h1 : mj_i G0 r 1 = nI l) (hl : l < 26) : FN D I B V M S x G0 (m + 1) r ra rd (nI 0) (e_vl D B V l x) (e_na B M S l x (e_fd B V l x x) ra) (e_nd B M S l x (e_fd B V l x x) rd) := Or.inr (Or.inr (Or.inl ⟨h, l, h1, hl, rfl, rfl, rfl, rfl⟩))
theorem FN.itm {m r l k : Nat} {ra rd : Nat → Int32} (h : mj_i G0 r 0 = nI 4) (h1 : mj_i G0 r 1 = nI l) (h2 : mj_i G0 r 2 = nI k) (hl : l < 26) (hk : k < 10) : FN D I B V M S x G0 (m + 1) r ra rd (rv_it I (e_vl D B V l x) k).1 (rv_it I (e_vl D B V l x) k).2 (e_na B M S l x (e_fd B V l x x) ra) (e_nd B M S l x (e_fd B V l x x) rd) := Or.inr (Or.inr (Or.inr (Or.inl ⟨h, l, k, h1, h2, hl, hk, rfl, rfl, rfl, rfl⟩)))
theorem FN.not {m r : Nat} {ra rd : Nat → Int32} {e1 : Int32} {v1 : rv} {ra1 rd1 : Nat → Int32} (h : mj_i G0 r 0 = nI 33) (h1 : FN D I B V M S x G0 m (mj_r G0 r 4) ra rd e1 v1 ra1 rd1) : FN D I B V M S x G0 (m + 1) r ra rd e1 (rv_N (bI (rv_B (¬ rv_tr v1)))) ra1 rd1 := Or.inr (Or.inr (Or.inr (Or.inr (Or.inl ⟨h, v1, h1, rfl⟩))))
theorem FN.fil {m r c : Nat} {ra rd : Nat → Int32} {v1 : rv} {ra1 rd1 : Nat → Int32} (h : mj_i G0 r 0 = nI c) (hc : c = 117 ∨ c = 108 ∨ c = 114 ∨ c = 106 ∨ c = 110) (h1 : FN D I B V M S x G0 m (mj_r G0 r 4) ra rd (nI 0) v1 ra1 rd1) : FN D I B V M S x G0 (m + 1) r ra rd (rv_fi I c v1).1 (rv_fi I c v1).2 ra1 rd1 := Or.inr (Or.inr (Or.inr (Or.inr (Or.inr (Or.inl ⟨c, nI 0, v1, h, hc, h1, Or.inl ⟨rfl, rfl, rfl⟩⟩)))))
theorem FN.filx {m r c : Nat} {ra rd : Nat → Int32} {e1 : Int32} {v1 : rv} {ra1 rd1 : Nat → Int32} (h : mj_i G0 r 0 = nI c) (hc : c = 117 ∨ c = 108 ∨ c = 114 ∨ c = 106 ∨ c = 110) (he : ¬ e1 = nI 0) (h1 : FN D I B V M S x G0 m (mj_r G0 r 4) ra rd e1 v1 ra1 rd1) : FN D I B V M S x G0 (m + 1) r ra rd e1 rv_0 ra1 rd1 := Or.inr (Or.inr (Or.inr (Or.inr (Or.inr (Or.inl ⟨c, e1, v1, h, hc, h1, Or.inr ⟨he, rfl, rfl⟩⟩)))))
theorem FN.els0 {m r : Nat} {ra rd : Nat → Int32} {e2 : Int32} {v1 v2 : rv} {ra1 rd1 ra2 rd2 : Nat → Int32} (h : mj_i G0 r 0 = nI 100) (h0 : rv_t v1 = 0) (h1 : FN D I B V M S x G0 m (mj_r G0 r 4) ra rd (nI 0) v1 ra1 rd1) (h2 : FN D I B V M S x G0 m (mj_r G0 r 5) ra1 rd1 e2 v2 ra2 rd2) : FN D I B V M S x G0 (m + 1) r ra rd e2 v2 ra2 rd2 := Or.inr (Or.inr (Or.inr (Or.inr (Or.inr (Or.inr (Or.inl ⟨h, nI 0, v1, ra1, rd1, h1, Or.inl ⟨rfl, h0, h2⟩⟩))))))
theorem FN.els1 {m r : Nat} {ra rd : Nat → Int32} {v1 : rv} {ra1 rd1 : Nat → Int32} (h : mj_i G0 r 0 = nI 100) (h0 : ¬ rv_t v1 = 0) (h1 : FN D I B V M S x G0 m (mj_r G0 r 4) ra rd (nI 0) v1 ra1 rd1) : FN D I B V M S x G0 (m + 1) r ra rd (nI 0) v1 ra1 rd1 := Or.inr (Or.inr (Or.inr (Or.inr (Or.inr (Or.inr (Or.inl ⟨h, nI 0, v1, ra1, rd1, h1, Or.inr (Or.inl ⟨rfl, h0, rfl, rfl, rfl, rfl⟩)⟩))))))
theorem FN.elsx {m r : Nat} {ra rd : Nat → Int32} {e1 : Int32} {v1 : rv} {ra1 rd1 : Nat → Int32} (h : mj_i G0 r 0 = nI 100) (he : ¬ e1 = nI 0) (h1 : FN D I B V M S x G0 m (mj_r G0 r 4) ra rd e1 v1 ra1 rd1) : FN D I B V M S x G0 (m + 1) r ra rd e1 rv_0 ra1 rd1 := Or.inr (Or.inr (Or.inr (Or.inr (Or.inr (Or.inr (Or.inl ⟨h, e1, v1, ra1, rd1, h1, Or.inr (Or.inr ⟨he, rfl, rfl, rfl, rfl⟩)⟩))))))
theorem FN.opx {m r c : Nat} {ra rd : Nat → Int32} {e1 : Int32} {v1 : rv} {ra1 rd1 : Nat → Int32} (h : mj_i G0 r 0 = nI c) (hc : tx_O c) (he : ¬ e1 = nI 0) (h1 : FN D I B V M S x G0 m (mj_r G0 r 4) ra rd e1 v1 ra1 rd1) : FN D I B V M S x G0 (m + 1) r ra rd e1 rv_0 ra1 rd1 := Or.inr (Or.inr (Or.inr (Or.inr (Or.inr (Or.inr (Or.inr ⟨c, e1, v1, ra1, rd1, h, hc, h1, Or.inl ⟨he, rfl, rfl, rfl, rfl⟩⟩))))))
theorem FN.ops {m r c : Nat} {ra rd : Nat → Int32} {v1 : rv} {ra1 rd1 : Nat → Int32} (h : mj_i G0 r 0 = nI c) (hc : tx_O c) (hn : (c = 38 ∧ ¬ rv_tr v1) ∨ (c = 63 ∧ rv_tr v1)) (h1 : FN D I B V M S x G0 m (mj_r G0 r 4) ra rd (nI 0) v1 ra1 rd1) : FN D I B V M S x G0 (m + 1) r ra rd (nI 0) (if c = 38 then rv_N (nI 0) else v1) ra1 rd1 := Or.inr (Or.inr (Or.inr (Or.inr (Or.inr (Or.inr (Or.inr ⟨c, nI 0, v1, ra1, rd1, h, hc, h1, Or.inr (Or.inl ⟨rfl, hn, rfl, rfl, rfl, rfl⟩)⟩))))))
theorem FN.opy {m r c : Nat} {ra rd : Nat → Int32} {e2 : Int32} {v1 v2 : rv} {ra1 rd1 ra2 rd2 : Nat → Int32} (h : mj_i G0 r 0 = nI c) (hc : tx_O c) (hn : ¬ ((c = 38 ∧ ¬ rv_tr v1) ∨ (c = 63 ∧ rv_tr v1))) (h1 : FN D I B V M S x G0 m (mj_r G0 r 4) ra rd (nI 0) v1 ra1 rd1) (he : ¬ e2 = nI 0) (h2 : FN D I B V M S x G0 m (mj_r G0 r 5) ra1 rd1 e2 v2 ra2 rd2) : FN D I B V M S x G0 (m + 1) r ra rd e2 rv_0 ra2 rd2 := Or.inr (Or.inr (Or.inr (Or.inr (Or.inr (Or.inr (Or.inr ⟨c, nI 0, v1, ra1, rd1, h, hc, h1, Or.inr (Or.inr ⟨rfl, hn, e2, v2, h2, Or.inl ⟨he, rfl, rfl⟩⟩)⟩))))))
theorem FN.opm {m r c : Nat} {ra rd : Nat → Int32} {v1 v2 : rv} {ra1 rd1 ra2 rd2 : Nat → Int32} (h : mj_i G0 r 0 = nI c) (hc : tx_O c) (hn : ¬ ((c = 38 ∧ ¬ rv_tr v1) ∨ (c = 63 ∧ rv_tr v1))) (h1 : FN D I B V M S x G0 m (mj_r G0 r 4) ra rd (nI 0) v1 ra1 rd1) (h2 : FN D I B V M S x G0 m (mj_r G0 r 5) ra1 rd1 (nI 0) v2 ra2 rd2) : FN D I B V M S x G0 (m + 1) r ra rd (if c = 63 then nI 0 else (rv_op I c v1 v2).1) (if c = 63 then v2 else (rv_op I c v1 v2).2) ra2 rd2 := Or.inr (Or.inr (Or.inr (Or.inr (Or.inr (Or.inr (Or.inr ⟨c, nI 0, v1, ra1, rd1, h, hc, h1, Or.inr (Or.inr ⟨rfl, hn, nI 0, v2, h2, Or.inr ⟨rfl, rfl, rfl⟩⟩)⟩))))))
/-- an operator's result, by its rules -/
theorem fs_op {m r c : Nat} {ra rd : Nat → Int32} {e1 e2 : Int32} {v1 v2 : rv} {ra1 rd1 ra2 rd2 : Nat → Int32} (h : mj_i G0 r 0 = nI c) (hc : tx_O c) (h1 : FN D I B V M S x G0 m (mj_r G0 r 4) ra rd e1 v1 ra1 rd1) (h2 : FN D I B V M S x G0 m (mj_r G0 r 5) ra1 rd1 e2 v2 ra2 rd2) : ∃ (e : Int32) (v : rv) (ra' rd' : Nat → Int32), FN D I B V M S x G0 (m + 1) r ra rd e v ra' rd' ∧ (¬ e1 = nI 0 → e = e1 ∧ (ra', rd') = (ra1, rd1)) ∧ (e1 = nI 0 → ((c = 38 ∧ ¬ rv_tr v1) ∨ (c = 63 ∧ rv_tr v1)) → e = nI 0 ∧ (ra', rd') = (ra1, rd1) ∧ v = (if c = 38 then rv_N (nI 0) else v1)) ∧ (e1 = nI 0 → ¬ ((c = 38 ∧ ¬ rv_tr v1) ∨ (c = 63 ∧ rv_tr v1)) → ¬ e2 = nI 0 → e = e2 ∧ (ra', rd') = (ra2, rd2)) ∧ (e1 = nI 0 → ¬ ((c = 38 ∧ ¬ rv_tr v1) ∨ (c = 63 ∧ rv_tr v1)) → e2 = nI 0 → (ra', rd') = (ra2, rd2) ∧ (c = 63 → e = nI 0 ∧ v = v2) ∧ (c ≠ 63 → (e, v) = rv_op I c v1 v2)) := by
  by_cases q1 : e1 = nI 0
  · subst q1
    by_cases q2 : (c = 38 ∧ ¬ rv_tr v1) ∨ (c = 63 ∧ rv_tr v1)
    · exact ⟨nI 0, _, ra1, rd1, FN.ops h hc q2 h1, fun q => absurd rfl q, fun _ _ => ⟨rfl, rfl, rfl⟩, fun _ q => absurd q2 q, fun _ q => absurd q2 q⟩
    · by_cases q3 : e2 = nI 0
      · subst q3
        refine ⟨_, _, ra2, rd2, FN.opm h hc q2 h1 h2, fun q => absurd rfl q, fun _ q => absurd q q2, fun _ _ q => absurd rfl q, fun _ _ _ => ⟨rfl, fun q => ?_, fun q => ?_⟩⟩
        · rw [if_pos q, if_pos q]
          exact ⟨rfl, rfl⟩
        · rw [if_neg q, if_neg q]
      · exact ⟨e2, rv_0, ra2, rd2, FN.opy h hc q2 h1 q3 h2, fun q => absurd rfl q, fun _ q => absurd q q2, fun _ _ _ => ⟨rfl, rfl⟩, fun _ _ q => absurd q q3⟩
  · exact ⟨e1, rv_0, ra1, rd1, FN.opx h hc q1 h1, fun _ => ⟨rfl, rfl⟩, fun q => absurd q q1, fun q => absurd q q1, fun q => absurd q q1⟩
theorem xs_all (hW : tx_W w n) (hB : ∀ s, B s ≤ s) (hD : da D I) (hV : ∀ s l v, V s l = some v → rv_in D v) (hx : x ≤ N) : ∀ {l r p q pr dep sl}, tx_E l A G0 r w p q pr → q ≤ n → dep + (q - p) ≤ 80 → 2 * sl + (q - p) ≤ 80 → ∀ ra rd : Nat → Int32, ∃ (e : Int32) (v : rv) (ra' rd' : Nat → Int32), (e = nI 0 → rv_in D v) ∧ fnC D I N B V M S x A G0 r p q dep sl ra rd e v ra' rd' ∧ FN D I B V M S x G0 l r ra rd e v ra' rd'
  | 0, _, _, _, _, _, _, h, _, _, _, _, _ => h.elim
  | l + 1, r, p, q, pr, dep, sl, h, hq, hdep, hsl, ra, rd => by
    have hE := h
    have hn := hW.1
    obtain ⟨hlt, -⟩ := tx_E_ch h
    obtain ⟨hA, hr0, hk, h⟩ := h
    have hw := tx_le hW p
    have hpn : p < n := by omega
    have hs40 : sl < 40 := by omega
    -- the tree in a heap of the class
    have fG : ∀ {fr b cn top ρ G ra rd}, cE D I N B V M S fr b cn top ra rd A G0 ρ G → mj_k G r = 1 ∧ (∀ j, mj_r G r j = mj_r G0 r j) ∧ ∀ j, mj_i G r j = mj_i G0 r j := fun {fr b cn top ρ G ra rd} HC => by
      obtain ⟨-, -, -, a1, a2, a3, a4⟩ := HC.2.2.2 r hA
      exact ⟨a1.trans hk, a3, a4⟩
    -- the class up to its cases
    have cls : ∀ {fr b cn top ρ G}, cE D I N B V M S fr b cn top ra rd A G0 ρ G → ∀ c d K, mj_i G0 r 0 = nI c → 1 ≤ c → c ≤ 126 → (c = 1 → Va_setNumber d (1509 + 2 * sl) (mj_i G0 r 1) G (fun G4 => K (nI 0) G4)) → (c = 2 → (20 ≤ mj_k G (mj_r G0 r 3)) ∧ Va_setText d (1509 + 2 * sl) (mj_r G0 r 3) (nI (mj_l G (mj_r G0 r 3))) (nI 1) G (fun G6 => K (nI 0) G6)) →
        (c = 3 → St_read d (sf fr x) (mj_i G0 r 1) G (fun v8 G7 => (mj_k G7 (1509 + 2 * sl) = 12) ∧ Va_refer d (1509 + 2 * sl) v8 G7 (fun G10 => K (nI 0) G10))) → (c = 4 → St_read d (sf fr x) (mj_i G0 r 1) G (fun v12 G11 => (mj_k G11 r = 1) ∧ Fi_findItem d (1509 + 2 * sl) v12 (mj_i G11 r 2) G11 (fun v15 G14 => K v15 G14))) → (5 ≤ c → Fi_findFromParts d r (sf fr x) (nI sl) (nI dep) G K) → Fi_find (d + 1) r (sf fr x) (nI sl) (nI dep) G K := fun {fr b cn top ρ G} HC c d K h0 hc1 hc h1 h2 h3 h4 h5 => by
      obtain ⟨f1, f2, f3⟩ := fG HC
      refine w_Fi_find HC.1.1 (z_bf hr0 (z_bf (by rw [z_le (by decide) (by omega)]; omega) (z_bt (by rw [z_lt (by omega) (by decide)]; omega) (z_ixi hs40 (by decide) ⟨f1, ?_⟩))))
      rw [f3 0, f3 1, f2 3, h0, z_eq (by omega) (by decide), z_eq (by omega) (by decide), z_eq (by omega) (by decide), z_eq (by omega) (by decide)]
      exact z_br h1 (fun _ => z_br h2 (fun _ => z_br h3 (fun _ => z_br h4 (fun _ => h5 (by omega)))))
    -- the class behind its left part
    have cls5 : ∀ {fr b cn top ρ G}, cE D I N B V M S fr b cn top ra rd A G0 ρ G → ∀ c d K, mj_i G0 r 0 = nI c → 5 ≤ c → c ≤ 126 → ∀ p1 q1 e1 v1 ra1 rd1, fnC D I N B V M S x A G0 (mj_r G0 r 4) p1 q1 (dep + 1) sl ra rd e1 v1 ra1 rd1 → 2 * (q1 - p1) + 22 ≤ d + 1 → (e1 = nI 0 → rv_in D v1) →
        (¬ e1 = nI 0 → ∀ ρ1 G1, hh ρ1 D I G1 → ro_e ρ ρ1 G → fv ρ sl G G1 → ck G1 N M S fr top ra1 rd1 → K e1 G1) →
        (e1 = nI 0 → ∀ ρ1 G1, cE D I N B V M S fr b cn top ra1 rd1 A G0 ρ1 G1 → ro_e ρ ρ1 G → fv ρ sl G G1 → cv (sv ρ1 sl) G1 (1509 + 2 * sl) v1 → (c = 38 → ¬ rv_tr v1 → ∀ G2, hh ρ1 D I G2 → fw ρ1 (fW sl) G1 G2 → cv (sv ρ1 sl) G2 (1509 + 2 * sl) (rv_N (nI 0)) → K (nI 0) G2) ∧ ((c = 63 ∧ rv_tr v1) ∨ (c = 100 ∧ rv_t v1 ≠ 0) → K (nI 0) G1) ∧ ((c = 38 → rv_tr v1) → (c = 63 → ¬ rv_tr v1) → (c = 100 → rv_t v1 = 0) → fR (d + 1) r (sf fr x) sl (nI (dep + 1)) G1 K)) → Fi_find (d + 3) r (sf fr x) (nI sl) (nI dep) G K := fun {fr b cn top ρ G} HC c d K h0 hc5 hc p1 q1 e1 v1 ra1 rd1 hL hd hv1 hbad hgood => by
      refine cls HC c (d + 2) K h0 (by omega) hc (fun q => absurd q (by omega)) (fun q => absurd q (by omega)) (fun q => absurd q (by omega)) (fun q => absurd q (by omega)) (fun _ => ?_)
      obtain ⟨f1, f2, f3⟩ := fG HC
      refine w_Fi_findFromParts HC.1.1 ⟨f1, ?_⟩
      rw [f2 4, z_add]
      refine hL fr b cn top ρ G HC (d + 1) _ (by omega) (fun ρ1 G1 h1 e1' F1 k1 c1 => z_ixi hs40 (by decide) (z_br (fun q => ?_) (fun q => hbad q ρ1 G1 h1 e1' F1 k1)))
      have HC1 := cE_f HC F1 e1' h1 k1
      obtain ⟨g1, g2, g3⟩ := fG HC1
      obtain ⟨r1, r2, r3⟩ := hgood q ρ1 G1 HC1 e1' F1 (c1 q)
      refine ⟨g1, ?_⟩
      rw [g3 0, h0, q]
      exact c_isEnough hs40 h1 (hv1 q) (c1 q) hc (fun a1 a2 G2 h2 F2 c2 => z_bt rfl (r1 a1 a2 G2 h2 F2 c2)) (fun a => z_bt rfl (r2 a)) (fun a1 a2 a3 => z_bf (by decide) (r3 a1 a2 a3))
    have prim : ∀ e v ra' rd', (e = nI 0 → rv_in D v) → fnC D I N B V M S x A G0 r p q dep sl ra rd e v ra' rd' → FN D I B V M S x G0 (l + 1) r ra rd e v ra' rd' → ∃ (e : Int32) (v : rv) (ra' rd' : Nat → Int32), (e = nI 0 → rv_in D v) ∧ fnC D I N B V M S x A G0 r p q dep sl ra rd e v ra' rd' ∧ FN D I B V M S x G0 (l + 1) r ra rd e v ra' rd' := fun e v ra' rd' a1 a2 a3 => ⟨e, v, ra', rd', a1, a2, a3⟩
    rcases h with ⟨m, a1, a2, a3, a4, a5, a6, a7⟩ | ⟨a1, a2, a3, a4, a5⟩ | ⟨a1, a2, a3, a4, a5, a6, a7⟩ | ⟨a1, a2, a3, a4, a5, a6, a7, a8, a9⟩ | ⟨a1, a2, a3, a4, a5⟩ | ⟨a1, m, a2, a3, a4, a5, a6, a7, a8⟩ | ⟨hpr, m, a1, a2, a3, a4, a5, a6, a7⟩ | ⟨hpr, m, a1, a2, a3, a4, a5, a6, a7⟩
    · -- a number
      have h0 := a4 p (Nat.le_refl _) hlt
      subst a3
      refine prim (nI 0) (rv_N (nI (tx_num w p m))) ra rd (fun _ => rv_inN) (fun fr b cn top ρ G HC d K hd hK => ?_) (by rw [← a7]; exact FN.num a6)
      · obtain ⟨d, rfl⟩ : ∃ e, d = e + 1 := ⟨d - 1, by omega⟩
        refine cls HC 1 d K a6 (by decide) (by decide) (fun _ => ?_) (fun q => absurd q (by decide)) (fun q => absurd q (by decide)) (fun q => absurd q (by decide)) (fun q => absurd q (by decide))
        rw [a7]
        exact c_setNumber (P := sv ρ sl) HC.1 (sv_vm HC.1 hs40) (fun G2 h2 F2 _ c2 => hK ρ G2 h2 ro_r (fv_s (fw_m F2 (fun o ho => sv_fW hs40 ho))) (cE_s HC (fw_m F2 (fun o ho => sv_fW hs40 ho))) (fun _ => c2))
    · -- a variable
      have hL := a1
      unfold tx_L at hL
      subst a2
      have vin := e_vl_in (B := B) (x := x) hD hV (show w p - 97 < 26 by omega)
      refine prim (nI 0) (e_vl D B V (w p - 97) x) (e_na B M S (w p - 97) x (e_fd B V (w p - 97) x x) ra) (e_nd B M S (w p - 97) x (e_fd B V (w p - 97) x x) rd) (fun _ => vin) (fun fr b cn top ρ G HC d K hd hK => ?_) (FN.var a4 a5 (by omega))
      · obtain ⟨d, rfl⟩ : ∃ e, d = e + 2 := ⟨d - 2, by omega⟩
        refine cls HC 3 (d + 1) K a4 (by decide) (by decide) (fun q => absurd q (by decide)) (fun q => absurd q (by decide)) (fun _ => ?_) (fun q => absurd q (by decide)) (fun q => absurd q (by decide))
        rw [a5]
        refine c_read HC.1 HC.2.1 HC.2.2.1 hB (by omega) hx (fun a G1 h1 n1 F1 k1 at1 => ⟨cs_g1507 h1.1 hs40, ?_⟩)
        have HC1 := cE_f HC (fv_n (sl := sl) n1 F1) ro_r h1 k1
        exact c_slotR hs40 h1 at1 (fun G2 h2 F2 c2 => hK ρ G2 h2 ro_r (fv_t (fv_n n1 F1) ro_r (fv_s F2)) (cE_s HC1 F2) (fun _ => c2))
    · -- an item
      have hL := a1
      unfold tx_L at hL
      have hDg := a3
      unfold tx_D at hDg
      subst a4
      have vin := e_vl_in (B := B) (x := x) hD hV (show w p - 97 < 26 by omega)
      refine prim (rv_it I (e_vl D B V (w p - 97) x) (w (p + 2) - 48)).1 (rv_it I (e_vl D B V (w p - 97) x) (w (p + 2) - 48)).2 (e_na B M S (w p - 97) x (e_fd B V (w p - 97) x x) ra) (e_nd B M S (w p - 97) x (e_fd B V (w p - 97) x x) rd) (rv_it_in hD vin) (fun fr b cn top ρ G HC d K hd hK => ?_) (FN.itm a5 a6 a7 (by omega) (by omega))
      · obtain ⟨d, rfl⟩ : ∃ e, d = e + 2 := ⟨d - 2, by omega⟩
        refine cls HC 4 (d + 1) K a5 (by decide) (by decide) (fun q => absurd q (by decide)) (fun q => absurd q (by decide)) (fun q => absurd q (by decide)) (fun _ => ?_) (fun q => absurd q (by decide))
        rw [a6]
        refine c_read HC.1 HC.2.1 HC.2.2.1 hB (by omega) hx (fun a G1 h1 n1 F1 k1 at1 => ?_)
        have HC1 := cE_f HC (fv_n (sl := sl) n1 F1) ro_r h1 k1
        obtain ⟨g1, g2, g3⟩ := fG HC1
        refine ⟨g1, ?_⟩
        rw [g3 2, a7]
        exact c_findItem hs40 h1 vin at1.2.2.1 (by omega) (fun G2 h2 F2 c2 => hK ρ G2 h2 ro_r (fv_t (fv_n n1 F1) ro_r (fv_s F2)) (cE_s HC1 F2) (fun q => (c2 q).1))
    · -- a text
      have hch : ∀ j, j < q - p - 2 → (mj_i G0 (mj_r G0 r 3) j).toNatClampNeg = w (p + 1 + j) := fun j hj => by
        have := hW.2.1 (p + 1 + j) (by omega)
        rw [a9 j hj, nI_clamp (by omega)]
      refine prim (nI 0) (rv_T (q - p - 2) (fun j => (mj_i G0 (mj_r G0 r 3) j).toNatClampNeg) true) ra rd (fun _ => rv_inT (by omega) (fun j hj => by rw [hch j hj]; exact hW.2.1 _ (by omega))) (fun fr b cn top ρ G HC d K hd hK => ?_) (by rw [← a8]; exact FN.quo a5)
      · obtain ⟨d, rfl⟩ : ∃ e, d = e + 1 := ⟨d - 1, by omega⟩
        obtain ⟨g0, g1, g2, g3, g4, g5, g6⟩ := HC.2.2.2 _ a6
        refine cls HC 2 d K a5 (by decide) (by decide) (fun q => absurd q (by decide)) (fun _ => ⟨by rw [g3, a7]; decide, ?_⟩) (fun q => absurd q (by decide)) (fun q => absurd q (by decide)) (fun q => absurd q (by decide))
        rw [g4, a8]
        exact c_setText (P := sv ρ sl) (s := true) HC.1 (sv_vm HC.1 hs40) (Or.inl g2) (by omega) g1 (g3.trans a7) (by rw [g4, a8]; exact Nat.le_refl _) (by rw [g4, a8]; omega) (ch := fun j => (mj_i G0 (mj_r G0 r 3) j).toNatClampNeg) (fun j hj => by rw [hch j hj]; exact (g6 j).trans (a9 j hj)) (fun G2 h2 F2 _ _ c2 => hK ρ G2 h2 ro_r (fv_s (fw_m F2 (fun o ho => sv_fW hs40 ho))) (cE_s HC (fw_m F2 (fun o ho => sv_fW hs40 ho))) (fun _ => c2))
    · -- not
      obtain ⟨b1, -⟩ := tx_E_ch a5
      obtain ⟨e1, v1, ra1, rd1, i1, i2, i3⟩ := xs_all (dep := dep + 1) (sl := sl) hW hB hD hV hx a5 hq (by omega) (by omega) ra rd
      refine prim e1 (rv_N (bI (rv_B (¬ rv_tr v1)))) ra1 rd1 (fun _ => rv_inN) (fun fr b cn top ρ G HC d K hd hK => ?_) (FN.not a3 i3)
      · obtain ⟨d, rfl⟩ : ∃ e, d = e + 3 := ⟨d - 3, by omega⟩
        refine cls5 HC 33 d K a3 (by decide) (by decide) (p + 1) q e1 v1 ra1 rd1 i2 (by omega) i1 (fun h0 ρ1 G1 h1 e1' F1 k1 => hK ρ1 G1 h1 e1' F1 k1 (fun q => absurd q h0)) (fun h0 ρ1 G1 HC1 e1' F1 c1 => ⟨fun q => absurd q (by decide), fun q => by omega, fun _ _ _ => ?_⟩)
        obtain ⟨g1, g2, g3⟩ := fG HC1
        refine ⟨g1, ?_⟩
        rw [g3 0, a3]
        have fin : ∀ b, rv_B (¬ rv_tr v1) = b → ∀ d, Va_setNumber d (1509 + 2 * sl) (bI b) G1 (fun G16 => K (nI 0) G16) := fun b hb d => c_setNumber (P := sv ρ1 sl) HC1.1 (sv_vm HC1.1 hs40) (fun G2 h2 F2 _ c2 => by
          have r := hK ρ1 G2 h2 e1' (fv_t F1 e1' (fv_s (fw_m F2 (fun o ho => sv_fW hs40 ho)))) (cE_s HC1 (fw_m F2 (fun o ho => sv_fW hs40 ho))) (fun _ => by rw [hb]; exact c2)
          rw [h0] at r
          exact r)
        exact z_bt rfl ⟨cs_g1507 HC1.1.1 hs40, c_isTrue HC1.1 (i1 h0) c1 (fun g => z_bt rfl ⟨cs_g1507 HC1.1.1 hs40, fin false (rv_Bf (fun r => r g)) _⟩) (fun g => z_bf (by decide) ⟨cs_g1507 HC1.1.1 hs40, fin true (rv_Bt g) _⟩)⟩
    · -- an operator
      obtain ⟨b1, -⟩ := tx_E_ch a7
      obtain ⟨b2, -⟩ := tx_E_ch a8
      have hm126 := tx_le hW m
      have hO := a4
      unfold tx_O at hO
      obtain ⟨e1, v1, ra1, rd1, i1, i2, i3⟩ := xs_all (dep := dep + 1) (sl := sl) hW hB hD hV hx a7 (by omega) (by omega) (by omega) ra rd
      obtain ⟨e2, v2, ra2, rd2, j1, j2, j3⟩ := xs_all (dep := dep + 1) (sl := if w m = 63 then sl else sl + 1) hW hB hD hV hx a8 (by omega) (by omega) (by by_cases q63 : w m = 63; rw [if_pos q63]; omega; rw [if_neg q63]; omega) ra1 rd1
      obtain ⟨e, v, ra', rd', s0, s1, s2, s3, s4⟩ : ∃ (e : Int32) (v : rv) (ra' rd' : Nat → Int32), FN D I B V M S x G0 (l + 1) r ra rd e v ra' rd' ∧ (¬ e1 = nI 0 → e = e1 ∧ (ra', rd') = (ra1, rd1)) ∧ (e1 = nI 0 → ((w m = 38 ∧ ¬ rv_tr v1) ∨ (w m = 63 ∧ rv_tr v1)) → e = nI 0 ∧ (ra', rd') = (ra1, rd1) ∧ v = (if w m = 38 then rv_N (nI 0) else v1)) ∧ (e1 = nI 0 → ¬ ((w m = 38 ∧ ¬ rv_tr v1) ∨ (w m = 63 ∧ rv_tr v1)) → ¬ e2 = nI 0 → e = e2 ∧ (ra', rd') = (ra2, rd2)) ∧ (e1 = nI 0 → ¬ ((w m = 38 ∧ ¬ rv_tr v1) ∨ (w m = 63 ∧ rv_tr v1)) → e2 = nI 0 → (ra', rd') = (ra2, rd2) ∧ (w m = 63 → e = nI 0 ∧ v = v2) ∧ (w m ≠ 63 → (e, v) = rv_op I (w m) v1 v2)) := fs_op a6 hO i3 j3
      refine prim e v ra' rd' (fun he => ?_) (fun fr b cn top ρ G HC d K hd hK => ?_) s0
      · by_cases h1 : e1 = nI 0
        · by_cases h2 : (w m = 38 ∧ ¬ rv_tr v1) ∨ (w m = 63 ∧ rv_tr v1)
          · obtain ⟨-, -, r3⟩ := s2 h1 h2
            rw [r3]
            by_cases q : w m = 38
            · rw [if_pos q]; exact rv_inN
            · rw [if_neg q]; exact i1 h1
          · by_cases h4 : e2 = nI 0
            · obtain ⟨-, r2, r3⟩ := s4 h1 h2 h4
              by_cases q : w m = 63
              · rw [(r2 q).2]; exact j1 h4
              · have r4 := r3 q
                have r5 : e = (rv_op I (w m) v1 v2).1 := by rw [← r4]
                have r6 : v = (rv_op I (w m) v1 v2).2 := by rw [← r4]
                rw [r6]
                exact rv_op_in (i1 h1) (j1 h4) (r5.symm.trans he)
            · exact absurd ((s3 h1 h2 h4).1.symm.trans he) h4
        · exact absurd ((s1 h1).1.symm.trans he) h1
      · obtain ⟨d, rfl⟩ : ∃ e, d = e + 4 := ⟨d - 4, by omega⟩
        refine cls5 HC (w m) (d + 1) K a6 (by omega) hm126 (p + 1) m e1 v1 ra1 rd1 i2 (by omega) i1 (fun h0 ρ1 G1 h1 e1' F1 k1 => ?_) (fun h0 ρ1 G1 HC1 e1' F1 c1 => ⟨fun q g G2 h2 F2 c2 => ?_, fun q => ?_, fun q38 q63 _ => ?_⟩)
        · obtain ⟨r1, r2⟩ := s1 h0
          obtain ⟨rfl, rfl⟩ := Prod.mk.inj r2
          have r := hK ρ1 G1 h1 e1' F1 k1 (fun q => absurd (r1.symm.trans q) h0)
          rw [r1] at r
          exact r
        · obtain ⟨r1, r2, r3⟩ := s2 h0 (Or.inl ⟨q, g⟩)
          obtain ⟨rfl, rfl⟩ := Prod.mk.inj r2
          have r := hK ρ1 G2 h2 e1' (fv_t F1 e1' (fv_s F2)) (cE_s HC1 F2) (fun _ => by rw [r3, if_pos q]; exact c2)
          rw [r1] at r
          exact r
        · have q' : w m = 63 ∧ rv_tr v1 := by
            rcases q with q | q
            · exact q
            · omega
          obtain ⟨r1, r2, r3⟩ := s2 h0 (Or.inr q')
          obtain ⟨rfl, rfl⟩ := Prod.mk.inj r2
          have r := hK ρ1 G1 HC1.1 e1' F1 HC1.2.2.1 (fun _ => by rw [r3, if_neg (by omega)]; exact c1)
          rw [r1] at r
          exact r
        · have ndn : ¬ ((w m = 38 ∧ ¬ rv_tr v1) ∨ (w m = 63 ∧ rv_tr v1)) := fun q => by
            rcases q with q | q
            · exact q.2 (q38 q.1)
            · exact q63 q.1 q.2
          obtain ⟨g1, g2, g3⟩ := fG HC1
          refine ⟨g1, ?_⟩
          rw [g3 0, a6, g2 5, z_eq (by omega) (by decide), z_eq (by omega) (by decide), z_eq (by omega) (by decide), z_eq (by omega) (by decide), z_eq (by omega) (by decide), z_eq (by omega) (by decide), z_eq (by omega) (by decide), z_eq (by omega) (by decide)]
          refine z_bf (by omega) (z_br (fun q => ?_) (fun q => z_bf (by omega) (z_bf (by omega) (z_bf (by omega) (z_bf (by omega) (z_bf (by omega) (z_bf (by omega) ?_)))))))
          · rw [if_pos q] at j2
            refine j2 fr b cn top ρ1 G1 HC1 (d + 2) K (by omega) (fun ρ2 G2 h2 e2' F2 k2 c2 => ?_)
            by_cases h4 : e2 = nI 0
            · obtain ⟨r1, r2, -⟩ := s4 h0 ndn h4
              obtain ⟨rfl, rfl⟩ := Prod.mk.inj r1
              have r := hK ρ2 G2 h2 (ro_t e1' F1.1.1 e2') (fv_t F1 e1' F2) k2 (fun _ => by rw [(r2 q).2]; exact c2 h4)
              rw [(r2 q).1] at r
              rw [h4]
              exact r
            · obtain ⟨r1, r2⟩ := s3 h0 ndn h4
              obtain ⟨rfl, rfl⟩ := Prod.mk.inj r2
              have r := hK ρ2 G2 h2 (ro_t e1' F1.1.1 e2') (fv_t F1 e1' F2) k2 (fun q => absurd (r1.symm.trans q) h4)
              rw [r1] at r
              exact r
          · rw [if_neg q] at j2
            rw [z_add]
            refine j2 fr b cn top ρ1 G1 HC1 (d + 2) _ (by omega) (fun ρ2 G2 h2 e2' F2 k2 c2 => ?_)
            have FF := fv_t F1 e1' (fv_m F2 (Nat.le_succ sl))
            have ee := ro_t e1' F1.1.1 e2'
            refine z_br (fun h4 => ?_) (fun h4 => ?_)
            · obtain ⟨r1, -, r3⟩ := s4 h0 ndn h4
              obtain ⟨rfl, rfl⟩ := Prod.mk.inj r1
              have r4 := r3 q
              have r5 : e = (rv_op I (w m) v1 v2).1 := by rw [← r4]
              have r6 : v = (rv_op I (w m) v1 v2).2 := by rw [← r4]
              have HC2 := cE_f HC1 F2 e2' h2 k2
              obtain ⟨x1, x2, x3⟩ := fG HC2
              refine ⟨x1, z_ixi (by omega) (by decide) ?_⟩
              rw [x3 0, a6]
              refine c_operate (by omega) h2 (i1 h0) (j1 h4) (sv_lo HC1.1 (i1 h0).1 (Nat.lt_succ_self sl) (by omega) c1 F2 e2') (c2 h4) (by omega) (fun ρ3 G3 h3 e3' F3 c3 => ?_)
              have r := hK ρ3 G3 h3 (ro_t ee FF.1.1 e3') (fv_t FF ee (fv_s F3)) (cE_s HC2 F3) (fun q => by rw [r6]; exact c3 (r5.symm.trans q))
              rw [r5] at r
              exact r
            · obtain ⟨r1, r2⟩ := s3 h0 ndn h4
              obtain ⟨rfl, rfl⟩ := Prod.mk.inj r2
              have r := hK ρ2 G2 h2 ee FF k2 (fun q => absurd (r1.symm.trans q) h4)
              rw [r1] at r
              exact r
    · -- a plain filter
      obtain ⟨b1, -⟩ := tx_E_ch a7
      have hm126 := tx_le hW (m + 1)
      subst a2
      obtain ⟨e1, v1, ra1, rd1, i1, i2, i3⟩ := xs_all (dep := dep + 1) (sl := sl) hW hB hD hV hx a7 (by omega) (by omega) (by omega) ra rd
      obtain ⟨e, v, s0, s1, s2⟩ : ∃ (e : Int32) (v : rv), FN D I B V M S x G0 (l + 1) r ra rd e v ra1 rd1 ∧ (¬ e1 = nI 0 → e = e1) ∧ (e1 = nI 0 → (e, v) = rv_fi I (w (m + 1)) v1) := by
        by_cases h1 : e1 = nI 0
        · subst h1
          exact ⟨_, _, FN.fil a5 a4 i3, fun q => absurd rfl q, fun _ => rfl⟩
        · exact ⟨e1, rv_0, FN.filx a5 a4 h1 i3, fun _ => rfl, fun q => absurd q h1⟩
      have s3 : e1 = nI 0 → e = (rv_fi I (w (m + 1)) v1).1 ∧ v = (rv_fi I (w (m + 1)) v1).2 := fun q => by rw [← s2 q]; exact ⟨rfl, rfl⟩
      refine ⟨e, v, ra1, rd1, fun he => ?_, fun fr b cn top ρ G HC d K hd hK => ?_, s0⟩
      · by_cases h1 : e1 = nI 0
        · obtain ⟨r1, r2⟩ := s3 h1
          rw [r2]
          exact rv_fi_in hD (i1 h1) (r1.symm.trans he)
        · exact absurd ((s1 h1).symm.trans he) h1
      · obtain ⟨d, rfl⟩ : ∃ e, d = e + 4 := ⟨d - 4, by omega⟩
        refine cls5 HC (w (m + 1)) (d + 1) K a5 (by omega) hm126 p m e1 v1 ra1 rd1 i2 (by omega) i1 (fun h0 ρ1 G1 h1 e1' F1 k1 => ?_) (fun h0 ρ1 G1 HC1 e1' F1 c1 => ⟨fun q => by omega, fun q => by omega, fun _ _ _ => ?_⟩)
        · have r := hK ρ1 G1 h1 e1' F1 k1 (fun q => absurd ((s1 h0).symm.trans q) h0)
          rw [s1 h0] at r
          exact r
        · obtain ⟨r1, r2⟩ := s3 h0
          have go : ∀ ρ2 G2, hh ρ2 D I G2 → ro_e ρ1 ρ2 G1 → fw ρ1 (fW sl) G1 G2 → ((rv_fi I (w (m + 1)) v1).1 = nI 0 → cv (sv ρ2 sl) G2 (1509 + 2 * sl) (rv_fi I (w (m + 1)) v1).2) → K (rv_fi I (w (m + 1)) v1).1 G2 := fun ρ2 G2 h2 e2' F2 c2 => by
            have r := hK ρ2 G2 h2 (ro_t e1' F1.1.1 e2') (fv_t F1 e1' (fv_s F2)) (cE_s HC1 F2) (fun q => by rw [r2]; exact c2 (r1.symm.trans q))
            rw [r1] at r
            exact r
          obtain ⟨g1, g2, g3⟩ := fG HC1
          refine ⟨g1, ?_⟩
          rw [g3 0, a5, z_eq (by omega) (by decide), z_eq (by omega) (by decide), z_eq (by omega) (by decide), z_eq (by omega) (by decide), z_eq (by omega) (by decide), z_eq (by omega) (by decide), z_eq (by omega) (by decide), z_eq (by omega) (by decide)]
          have fil : w (m + 1) = 117 ∨ w (m + 1) = 108 ∨ w (m + 1) = 114 ∨ w (m + 1) = 110 → Fi_filter (d + 2) (nI (w (m + 1))) (1509 + 2 * sl) G1 (fun v24 G23 => K v24 G23) := fun hc => c_filter hs40 HC1.1 (i1 h0) c1 (by omega) hc go
          refine z_bf (by omega) (z_bf (by omega) (z_bf (by omega) (z_br (fun q => ?_) (fun q => z_br (fun q1 => fil (by omega)) (fun q1 => z_br (fun q2 => fil (by omega)) (fun q2 => z_br (fun q3 => fil (by omega)) (fun q3 => z_br (fun q4 => fil (by omega)) (fun q4 => absurd a4 (by omega)))))))))
          rw [q] at go
          exact c_joinItems hs40 HC1.1 (i1 h0) c1 go
    · -- otherwise
      obtain ⟨b1, -⟩ := tx_E_ch a6
      obtain ⟨b2, -⟩ := tx_E_ch a7
      obtain ⟨e1, v1, ra1, rd1, i1, i2, i3⟩ := xs_all (dep := dep + 1) (sl := sl) hW hB hD hV hx a6 (by omega) (by omega) (by omega) ra rd
      obtain ⟨e2, v2, ra2, rd2, j1, j2, j3⟩ := xs_all (dep := dep + 1) (sl := sl) hW hB hD hV hx a7 hq (by omega) (by omega) ra1 rd1
      obtain ⟨e, v, ra', rd', s0, s1, s2, s3⟩ : ∃ (e : Int32) (v : rv) (ra' rd' : Nat → Int32), FN D I B V M S x G0 (l + 1) r ra rd e v ra' rd' ∧ (¬ e1 = nI 0 → e = e1 ∧ ra' = ra1 ∧ rd' = rd1) ∧ (e1 = nI 0 → rv_t v1 ≠ 0 → e = nI 0 ∧ v = v1 ∧ ra' = ra1 ∧ rd' = rd1) ∧ (e1 = nI 0 → rv_t v1 = 0 → e = e2 ∧ v = v2 ∧ ra' = ra2 ∧ rd' = rd2) := by
        by_cases h1 : e1 = nI 0
        · by_cases h2 : rv_t v1 = 0
          · subst h1
            exact ⟨e2, v2, ra2, rd2, FN.els0 a5 h2 i3 j3, fun q => absurd rfl q, fun _ q => absurd h2 q, fun _ _ => ⟨rfl, rfl, rfl, rfl⟩⟩
          · subst h1
            exact ⟨nI 0, v1, ra1, rd1, FN.els1 a5 h2 i3, fun q => absurd rfl q, fun _ _ => ⟨rfl, rfl, rfl, rfl⟩, fun _ q => absurd q h2⟩
        · exact ⟨e1, rv_0, ra1, rd1, FN.elsx a5 h1 i3, fun _ => ⟨rfl, rfl, rfl⟩, fun q => absurd q h1, fun q => absurd q h1⟩
      refine ⟨e, v, ra', rd', fun he => ?_, fun fr b cn top ρ G HC d K hd hK => ?_, s0⟩
      · by_cases h1 : e1 = nI 0
        · by_cases h2 : rv_t v1 = 0
          · obtain ⟨r1, r2, -⟩ := s3 h1 h2
            rw [r2]
            exact j1 (r1.symm.trans he)
          · rw [(s2 h1 h2).2.1]
            exact i1 h1
        · exact absurd ((s1 h1).1.symm.trans he) h1
      · obtain ⟨d, rfl⟩ : ∃ e, d = e + 3 := ⟨d - 3, by omega⟩
        refine cls5 HC 100 d K a5 (by decide) (by decide) p m e1 v1 ra1 rd1 i2 (by omega) i1 (fun h0 ρ1 G1 h1 e1' F1 k1 => ?_) (fun h0 ρ1 G1 HC1 e1' F1 c1 => ⟨fun q => absurd q (by decide), fun q => ?_, fun _ _ q => ?_⟩)
        · obtain ⟨r1, rfl, rfl⟩ := s1 h0
          have r := hK ρ1 G1 h1 e1' F1 k1 (fun q => absurd (r1.symm.trans q) h0)
          rw [r1] at r
          exact r
        · have q' : rv_t v1 ≠ 0 := by
            rcases q with q | q
            · exact absurd q.1 (by decide)
            · exact q.2
          obtain ⟨r1, r2, rfl, rfl⟩ := s2 h0 q'
          have r := hK ρ1 G1 HC1.1 e1' F1 HC1.2.2.1 (fun _ => by rw [r2]; exact c1)
          rw [r1] at r
          exact r
        · obtain ⟨r1, r2, rfl, rfl⟩ := s3 h0 (q rfl)
          subst r1
          subst r2
          obtain ⟨g1, g2, g3⟩ := fG HC1
          refine ⟨g1, ?_⟩
          rw [g3 0, a5, g2 5]
          refine z_bf (by decide) (z_bf (by decide) (z_bt rfl ?_))
          exact j2 fr b cn top ρ1 G1 HC1 (d + 1) K (by omega) (fun ρ2 G2 h2 e2' F2 k2 c2 => hK ρ2 G2 h2 (ro_t e1' F1.1.1 e2') (fv_t F1 e1' F2) k2 c2)
end C00b
