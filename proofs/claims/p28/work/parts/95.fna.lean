/-! RENDERING: any expression found, by both sides alike -/
/-- behind the left part, if the right one is needed -/
def fR (d r : Nat) (x2 : Int32) (sl : Nat) (x4 : Int32) (G7 : mj_G) (K : Int32 → mj_G → Prop) : Prop := (mj_k G7 r = 1) ∧ mm_br ((mj_i G7 r 0) = nI 33) ((mj_k G7 (1509 + 2 * sl) = 12) ∧ Va_isTrue d (1509 + 2 * sl) G7 (fun v12 G11 => mm_br (v12 = true) ((mj_k G11 (1509 + 2 * sl) = 12) ∧ Va_setNumber d (1509 + 2 * sl) (nI 0) G11 (fun G16 => K (nI 0) G16)) ((mj_k G11 (1509 + 2 * sl) = 12) ∧ Va_setNumber d (1509 + 2 * sl) (nI 1) G11 (fun G14 => K (nI 0) G14)))) (mm_br ((mj_i G7 r 0) = nI 63) (Fi_find d (mj_r G7 r 5) x2 (nI sl) x4 G7 (fun v18 G17 => K v18 G17)) (mm_br ((mj_i G7 r 0) = nI 100) (Fi_find d (mj_r G7 r 5) x2 (nI sl) x4 G7 (fun v20 G19 => K v20 G19)) (mm_br ((mj_i G7 r 0) = nI 106) (Fi_joinItems d (1509 + 2 * sl) G7 (fun v22 G21 => K v22 G21)) (mm_br ((mj_i G7 r 0) = nI 108) (Fi_filter d (mj_i G7 r 0) (1509 + 2 * sl) G7 (fun v24 G23 => K v24 G23)) (mm_br ((mj_i G7 r 0) = nI 110) (Fi_filter d (mj_i G7 r 0) (1509 + 2 * sl) G7 (fun v26 G25 => K v26 G25)) (mm_br ((mj_i G7 r 0) = nI 114) (Fi_filter d (mj_i G7 r 0) (1509 + 2 * sl) G7 (fun v28 G27 => K v28 G27)) (mm_br ((mj_i G7 r 0) = nI 117) (Fi_filter d (mj_i G7 r 0) (1509 + 2 * sl) G7 (fun v30 G29 => K v30 G29)) (Fi_find d (mj_r G7 r 5) x2 ((nI sl) + (nI 1)) x4 G7 (fun v32 G31 => mm_br (v32 = (nI 0)) ((mj_k G31 r = 1) ∧ mm_ix ((nI sl) + (nI 1)) 40 (fun n34 => Fi_operate d (mj_i G31 r 0) (1509 + 2 * sl) (1509 + 2 * n34) G31 (fun v37 G36 => K v37 G36))) (K v32 G31))))))))))
def fnC (D : Nat → rv) (I : Nat → Nat → rv) (N : Nat) (B : Nat → Nat) (V : Nat → Nat → Option rv) (M : Nat) (S : Nat → Nat) (x : Nat) (A : Nat → Prop) (G0 : mj_G) (r p q dep sl : Nat) (ra rd : Nat → Int32) (e : Int32) (v : rv) (ra' rd' : Nat → Int32) : Prop := ∀ fr b cn top ρ G, cE D I N B V M S fr b cn top ra rd A G0 ρ G → ∀ d K, 2 * (q - p) + 22 ≤ d → jC D I N M S fr top ρ G sl e v ra' rd' K → Fi_find d r (sf fr x) (nI sl) (nI dep) G K
def fnM (Gm : mj_G) (t : Nat) (w : Nat → Nat) (n : Nat) (D : Nat → rv) (I : Nat → Nat → rv) (N : Nat) (B : Nat → Nat) (V : Nat → Nat → Option rv) (M : Nat) (S : Nat → Nat) (x p q : Nat) (ra rd : Nat → Int32) (e : Int32) (v : rv) (ra' rd' : Nat → Int32) : Prop := ∀ f fr, fm t w n D I N B V M S x ra rd fr p f → 320 ≤ fr → 2 * fr + (q - p) ≤ 758 → ∀ d K, 3 * (q - p) + 50 ≤ d → jM t w n D I N B V M S x fr q e v ra' rd' f (fun y f' => m_finds_5 Gm (d + 1) y f' K) → m_finds Gm (d + 1) f K
def fnP (Gm : mj_G) (t : Nat) (w : Nat → Nat) (n : Nat) (D : Nat → rv) (I : Nat → Nat → rv) (N : Nat) (B : Nat → Nat) (V : Nat → Nat → Option rv) (M : Nat) (S : Nat → Nat) (x p q : Nat) (ra rd : Nat → Int32) (e : Int32) (v : rv) (ra' rd' : Nat → Int32) : Prop := ∀ f fr, fm t w n D I N B V M S x ra rd fr p f → 320 ≤ fr → 2 * fr + (q - p) ≤ 758 → ∀ d K, 3 * (q - p) + 49 ≤ d → jM t w n D I N B V M S x fr q e v ra' rd' f K → m_findsPrimary Gm d f K
section FA
variable {Gm G0 : mj_G} {t n N M x : Nat} {w : Nat → Nat} {D : Nat → rv} {I : Nat → Nat → rv} {B S : Nat → Nat} {V : Nat → Nat → Option rv} {A : Nat → Prop}
theorem e_vl_in {l : Nat} (hD : da D I) (hV : ∀ s l v, V s l = some v → rv_in D v) (hl : l < 26) : rv_in D (e_vl D B V l x) := by
  unfold e_vl
  by_cases q : e_fd B V l x x = 0
  · rw [if_pos q]
    obtain ⟨a1, a2⟩ := hD l hl
    refine ⟨a1, fun r => ?_⟩
    rw [(a2 r).1]
    exact ⟨r, rfl⟩
  · rw [if_neg q]
    cases hv : V (e_fd B V l x x - 1) l with
    | none => exact rv_in0
    | some v => exact hV _ _ _ hv
theorem fin5 {ra rd : Nat → Int32} {f : mm_F} {fr m d : Nat} {y : Int32} {K : Int32 → mm_F → Prop} (hM : mm_S Gm) (hW : tx_W w n) (hf : fm t w n D I N B V M S x ra rd fr m f) (hd : 1 ≤ d) (hm : m ≤ n) (h124 : ¬ w m = 124) (hK : K y f) : m_finds_5 Gm (d + 1) y f K := by
  have hn := hW.1
  refine w_m_finds_5 hM (z_bt hf.2.2.2.2.2.1 (p_here hM hf hd (by omega) ?_))
  rw [tx_nxe hW (by decide)]
  exact z_bf h124 hK
theorem bad5 {f : mm_F} {d : Nat} {y e : Int32} {K : Int32 → mm_F → Prop} (hM : mm_S Gm) (he : f 1714 70 = e) (h0 : ¬ e = nI 0) (hK : K y f) : m_finds_5 Gm (d + 1) y f K := w_m_finds_5 hM (z_bf (by rw [he]; exact h0) hK)
/-- any two results of a part -/
theorem fn_op {c : Nat} {e1 e2 : Int32} {v1 v2 : rv} {n1 n2 : (Nat → Int32) × (Nat → Int32)} (dn : Prop) : ∃ (e : Int32) (v : rv) (ra' rd' : Nat → Int32), (¬ e1 = nI 0 → e = e1 ∧ (ra', rd') = n1) ∧ (e1 = nI 0 → dn → e = nI 0 ∧ (ra', rd') = n1 ∧ v = (if c = 38 then rv_N (nI 0) else v1)) ∧ (e1 = nI 0 → ¬ dn → ¬ e2 = nI 0 → e = e2 ∧ (ra', rd') = n2) ∧ (e1 = nI 0 → ¬ dn → e2 = nI 0 → (ra', rd') = n2 ∧ (c = 63 → e = nI 0 ∧ v = v2) ∧ (c ≠ 63 → (e, v) = rv_op I c v1 v2)) := by
  by_cases h1 : e1 = nI 0
  · by_cases h2 : dn
    · exact ⟨nI 0, _, n1.1, n1.2, fun q => absurd h1 q, fun _ _ => ⟨rfl, rfl, rfl⟩, fun _ q => absurd h2 q, fun _ q => absurd h2 q⟩
    · by_cases h3 : e2 = nI 0
      · by_cases h4 : c = 63
        · exact ⟨nI 0, v2, n2.1, n2.2, fun q => absurd h1 q, fun _ q => absurd q h2, fun _ _ q => absurd h3 q, fun _ _ _ => ⟨rfl, fun _ => ⟨rfl, rfl⟩, fun q => absurd h4 q⟩⟩
        · exact ⟨(rv_op I c v1 v2).1, (rv_op I c v1 v2).2, n2.1, n2.2, fun q => absurd h1 q, fun _ q => absurd q h2, fun _ _ q => absurd h3 q, fun _ _ _ => ⟨rfl, fun q => absurd q h4, fun _ => rfl⟩⟩
      · exact ⟨e2, rv_0, n2.1, n2.2, fun q => absurd h1 q, fun _ q => absurd q h2, fun _ _ _ => ⟨rfl, rfl⟩, fun _ _ q => absurd q h3⟩
  · exact ⟨e1, rv_0, n1.1, n1.2, fun _ => ⟨rfl, rfl⟩, fun q => absurd q h1, fun q => absurd q h1, fun q => absurd q h1⟩
theorem fn_all (hM : mm_S Gm) (hW : tx_W w n) (hB : ∀ s, B s ≤ s) (hD : da D I) (hV : ∀ s l v, V s l = some v → rv_in D v) (hx : x ≤ N) : ∀ {l r p q pr dep sl}, tx_E l A G0 r w p q pr → q ≤ n → dep + (q - p) ≤ 80 → 2 * sl + (q - p) ≤ 80 → ∀ ra rd : Nat → Int32, ∃ (e : Int32) (v : rv) (ra' rd' : Nat → Int32), (e = nI 0 → rv_in D v) ∧ fnC D I N B V M S x A G0 r p q dep sl ra rd e v ra' rd' ∧ fnM Gm t w n D I N B V M S x p q ra rd e v ra' rd' ∧ (pr = true → fnP Gm t w n D I N B V M S x p q ra rd e v ra' rd')
  | 0, _, _, _, _, _, _, h, _, _, _, _, _ => h.elim
  | l + 1, r, p, q, pr, dep, sl, h, hq, hdep, hsl, ra, rd => by
    have hE := h
    have hn := hW.1
    obtain ⟨hlt, -⟩ := tx_E_ch h
    obtain ⟨hA, hr0, hk, h⟩ := h
    have hw := tx_le hW p
    have hpn : p < n := by omega
    have hs40 : sl < 40 := by omega
    -- the tree in a heap of the class
    have fG : ∀ {fr b cn top ρ G ra rd}, cE D I N B V M S fr b cn top ra rd A G0 ρ G → mj_k G r = 1 ∧ (∀ j, mj_r G r j = mj_r G0 r j) ∧ ∀ j, mj_i G r j = mj_i G0 r j := fun {fr b cn top ρ G ra rd} HC => by
      obtain ⟨-, -, -, a1, a2, a3, a4⟩ := HC.2.2.2 r hA
      exact ⟨a1.trans hk, a3, a4⟩
    -- the class up to its cases
    have cls : ∀ {fr b cn top ρ G}, cE D I N B V M S fr b cn top ra rd A G0 ρ G → ∀ c d K, mj_i G0 r 0 = nI c → 1 ≤ c → c ≤ 126 → (c = 1 → Va_setNumber d (1509 + 2 * sl) (mj_i G0 r 1) G (fun G4 => K (nI 0) G4)) → (c = 2 → (20 ≤ mj_k G (mj_r G0 r 3)) ∧ Va_setText d (1509 + 2 * sl) (mj_r G0 r 3) (nI (mj_l G (mj_r G0 r 3))) (nI 1) G (fun G6 => K (nI 0) G6)) →
        (c = 3 → St_read d (sf fr x) (mj_i G0 r 1) G (fun v8 G7 => (mj_k G7 (1509 + 2 * sl) = 12) ∧ Va_refer d (1509 + 2 * sl) v8 G7 (fun G10 => K (nI 0) G10))) → (c = 4 → St_read d (sf fr x) (mj_i G0 r 1) G (fun v12 G11 => (mj_k G11 r = 1) ∧ Fi_findItem d (1509 + 2 * sl) v12 (mj_i G11 r 2) G11 (fun v15 G14 => K v15 G14))) → (5 ≤ c → Fi_findFromParts d r (sf fr x) (nI sl) (nI dep) G K) → Fi_find (d + 1) r (sf fr x) (nI sl) (nI dep) G K := fun {fr b cn top ρ G} HC c d K h0 hc1 hc h1 h2 h3 h4 h5 => by
      obtain ⟨f1, f2, f3⟩ := fG HC
      refine w_Fi_find HC.1.1 (z_bf hr0 (z_bf (by rw [z_le (by decide) (by omega)]; omega) (z_bt (by rw [z_lt (by omega) (by decide)]; omega) (z_ixi hs40 (by decide) ⟨f1, ?_⟩))))
      rw [f3 0, f3 1, f2 3, h0, z_eq (by omega) (by decide), z_eq (by omega) (by decide), z_eq (by omega) (by decide), z_eq (by omega) (by decide)]
      exact z_br h1 (fun _ => z_br h2 (fun _ => z_br h3 (fun _ => z_br h4 (fun _ => h5 (by omega)))))
    -- the class behind its left part
    have cls5 : ∀ {fr b cn top ρ G}, cE D I N B V M S fr b cn top ra rd A G0 ρ G → ∀ c d K, mj_i G0 r 0 = nI c → 5 ≤ c → c ≤ 126 → ∀ p1 q1 e1 v1 ra1 rd1, fnC D I N B V M S x A G0 (mj_r G0 r 4) p1 q1 (dep + 1) sl ra rd e1 v1 ra1 rd1 → 2 * (q1 - p1) + 22 ≤ d + 1 → (e1 = nI 0 → rv_in D v1) →
        (¬ e1 = nI 0 → ∀ ρ1 G1, hh ρ1 D I G1 → ro_e ρ ρ1 G → fv ρ sl G G1 → ck G1 N M S fr top ra1 rd1 → K e1 G1) →
        (e1 = nI 0 → ∀ ρ1 G1, cE D I N B V M S fr b cn top ra1 rd1 A G0 ρ1 G1 → ro_e ρ ρ1 G → fv ρ sl G G1 → cv (sv ρ1 sl) G1 (1509 + 2 * sl) v1 → (c = 38 → ¬ rv_tr v1 → ∀ G2, hh ρ1 D I G2 → fw ρ1 (fW sl) G1 G2 → cv (sv ρ1 sl) G2 (1509 + 2 * sl) (rv_N (nI 0)) → K (nI 0) G2) ∧ ((c = 63 ∧ rv_tr v1) ∨ (c = 100 ∧ rv_t v1 ≠ 0) → K (nI 0) G1) ∧ ((c = 38 → rv_tr v1) → (c = 63 → ¬ rv_tr v1) → (c = 100 → rv_t v1 = 0) → fR (d + 1) r (sf fr x) sl (nI (dep + 1)) G1 K)) → Fi_find (d + 3) r (sf fr x) (nI sl) (nI dep) G K := fun {fr b cn top ρ G} HC c d K h0 hc5 hc p1 q1 e1 v1 ra1 rd1 hL hd hv1 hbad hgood => by
      refine cls HC c (d + 2) K h0 (by omega) hc (fun q => absurd q (by omega)) (fun q => absurd q (by omega)) (fun q => absurd q (by omega)) (fun q => absurd q (by omega)) (fun _ => ?_)
      obtain ⟨f1, f2, f3⟩ := fG HC
      refine w_Fi_findFromParts HC.1.1 ⟨f1, ?_⟩
      rw [f2 4, z_add]
      refine hL fr b cn top ρ G HC (d + 1) _ (by omega) (fun ρ1 G1 h1 e1' F1 k1 c1 => z_ixi hs40 (by decide) (z_br (fun q => ?_) (fun q => hbad q ρ1 G1 h1 e1' F1 k1)))
      have HC1 := cE_f HC F1 e1' h1 k1
      obtain ⟨g1, g2, g3⟩ := fG HC1
      obtain ⟨r1, r2, r3⟩ := hgood q ρ1 G1 HC1 e1' F1 (c1 q)
      refine ⟨g1, ?_⟩
      rw [g3 0, h0, q]
      exact c_isEnough hs40 h1 (hv1 q) (c1 q) hc (fun a1 a2 G2 h2 F2 c2 => z_bt rfl (r1 a1 a2 G2 h2 F2 c2)) (fun a => z_bt rfl (r2 a)) (fun a1 a2 a3 => z_bf (by decide) (r3 a1 a2 a3))
    -- the model up to its cases
    have way : ∀ f fr, fm t w n D I N B V M S x ra rd fr p f → ∀ d K, 18 ≤ d → (tx_D (w p) → m_findsNumber Gm d f K) → (w p = 39 → m_findsText Gm d f K) → (w p = 40 → m_findsBoth Gm d f K) → (w p = 33 → m_finds Gm d (mj_u2 f 1714 23 (nI (p + 1))) (fun v4 f3 => mm_br ((f3 1714 70) = (nI 0)) (m_isTrue Gm d v4 f3 (fun v6 f5 => mm_br (v6 = true) (m_becomes Gm d v4 (nI 0) f5 (fun f7 => K v4 f7)) (m_becomes Gm d v4 (nI 1) f5 (fun f8 => K v4 f8)))) (K v4 f3))) →
        (¬ tx_D (w p) → w p ≠ 39 → w p ≠ 40 → w p ≠ 33 → m_findsVariable Gm d f K) → m_findsPrimary Gm (d + 1) f K := fun f fr hf d K hd h1 h2 h3 h4 h5 => by
      refine w_m_findsPrimary hM (by omega) (p_here hM hf (by omega) (by omega) ?_)
      rw [tx_nxD hW, tx_nxe hW (by decide), tx_nxe hW (by decide), tx_nxe hW (by decide), hf.2.2.2.2.2.2.2, z_add]
      exact z_br h1 (fun c1 => z_br h2 (fun c2 => z_br h3 (fun c3 => z_br h4 (fun c4 => h5 c1 c2 c3 c4))))
    -- a primary one
    have prim : ∀ e v ra' rd', (e = nI 0 → rv_in D v) → fnC D I N B V M S x A G0 r p q dep sl ra rd e v ra' rd' → fnP Gm t w n D I N B V M S x p q ra rd e v ra' rd' → ∃ (e : Int32) (v : rv) (ra' rd' : Nat → Int32), (e = nI 0 → rv_in D v) ∧ fnC D I N B V M S x A G0 r p q dep sl ra rd e v ra' rd' ∧ fnM Gm t w n D I N B V M S x p q ra rd e v ra' rd' ∧ (pr = true → fnP Gm t w n D I N B V M S x p q ra rd e v ra' rd') := fun e v ra' rd' a1 a2 a3 => ⟨e, v, ra', rd', a1, a2, fun f fr hf h3 h7 d K hd hK => w_m_finds hM (a3 f fr hf h3 h7 d _ (by omega) hK), fun _ => a3⟩
    rcases h with ⟨m, a1, a2, a3, a4, a5, a6, a7⟩ | ⟨a1, a2, a3, a4, a5⟩ | ⟨a1, a2, a3, a4, a5, a6, a7⟩ | ⟨a1, a2, a3, a4, a5, a6, a7, a8, a9⟩ | ⟨a1, a2, a3, a4, a5⟩ | ⟨a1, m, a2, a3, a4, a5, a6, a7, a8⟩ | ⟨hpr, m, a1, a2, a3, a4, a5, a6, a7⟩ | ⟨hpr, m, a1, a2, a3, a4, a5, a6, a7⟩
    · -- a number
      have h0 := a4 p (Nat.le_refl _) hlt
      subst a3
      refine prim (nI 0) (rv_N (nI (tx_num w p m))) ra rd (fun _ => rv_inN) (fun fr b cn top ρ G HC d K hd hK => ?_) (fun f fr hf h3 h7 d K hd hK => ?_)
      · obtain ⟨d, rfl⟩ : ∃ e, d = e + 1 := ⟨d - 1, by omega⟩
        refine cls HC 1 d K a6 (by decide) (by decide) (fun _ => ?_) (fun q => absurd q (by decide)) (fun q => absurd q (by decide)) (fun q => absurd q (by decide)) (fun q => absurd q (by decide))
        rw [a7]
        exact c_setNumber (P := sv ρ sl) HC.1 (sv_vm HC.1 hs40) (fun G2 h2 F2 _ c2 => hK ρ G2 h2 ro_r (fv_s (fw_m F2 (fun o ho => sv_fW hs40 ho))) (cE_s HC (fw_m F2 (fun o ho => sv_fW hs40 ho))) (fun _ => c2))
      · obtain ⟨d, rfl⟩ : ∃ e, d = e + 2 := ⟨d - 2, by omega⟩
        refine way f fr hf (d + 1) K (by omega) (fun _ => p_findsNumber hM hW hf (by omega) (by omega) h3 hq a2 a4 a5 (fun f1 F1 g1 v1 => hK.1 rfl f1 F1 g1 v1)) (fun q => ?_) (fun q => ?_) (fun q => ?_) (fun q => absurd h0 q)
        all_goals (unfold tx_D at h0; omega)
    · -- a variable
      have hL := a1
      unfold tx_L at hL
      subst a2
      have vin := e_vl_in (B := B) (x := x) hD hV (show w p - 97 < 26 by omega)
      refine prim (nI 0) (e_vl D B V (w p - 97) x) (e_na B M S (w p - 97) x (e_fd B V (w p - 97) x x) ra) (e_nd B M S (w p - 97) x (e_fd B V (w p - 97) x x) rd) (fun _ => vin) (fun fr b cn top ρ G HC d K hd hK => ?_) (fun f fr hf h3 h7 d K hd hK => ?_)
      · obtain ⟨d, rfl⟩ : ∃ e, d = e + 2 := ⟨d - 2, by omega⟩
        refine cls HC 3 (d + 1) K a4 (by decide) (by decide) (fun q => absurd q (by decide)) (fun q => absurd q (by decide)) (fun _ => ?_) (fun q => absurd q (by decide)) (fun q => absurd q (by decide))
        rw [a5]
        refine c_read HC.1 HC.2.1 HC.2.2.1 hB (by omega) hx (fun a G1 h1 n1 F1 k1 at1 => ⟨cs_g1507 h1.1 hs40, ?_⟩)
        have HC1 := cE_f HC (fv_n (sl := sl) n1 F1) ro_r h1 k1
        exact c_slotR hs40 h1 at1 (fun G2 h2 F2 c2 => hK ρ G2 h2 ro_r (fv_t (fv_n n1 F1) ro_r (fv_s F2)) (cE_s HC1 F2) (fun _ => c2))
      · obtain ⟨d, rfl⟩ : ∃ e, d = e + 2 := ⟨d - 2, by omega⟩
        refine way f fr hf (d + 1) K (by omega) (fun q => ?_) (fun q => ?_) (fun q => ?_) (fun q => ?_) (fun _ _ _ _ => p_findsVar (l := w p - 97) hM hW hf hB hx (by omega) (by omega) h3 hpn a1 rfl (fun f1 F1 g1 v1 _ => z_bf a3 (hK.1 rfl f1 F1 g1 v1)) (fun q => absurd q a3))
        · unfold tx_D at q; omega
        all_goals omega
    · -- an item
      have hL := a1
      unfold tx_L at hL
      have hDg := a3
      unfold tx_D at hDg
      subst a4
      have vin := e_vl_in (B := B) (x := x) hD hV (show w p - 97 < 26 by omega)
      refine prim (rv_it I (e_vl D B V (w p - 97) x) (w (p + 2) - 48)).1 (rv_it I (e_vl D B V (w p - 97) x) (w (p + 2) - 48)).2 (e_na B M S (w p - 97) x (e_fd B V (w p - 97) x x) ra) (e_nd B M S (w p - 97) x (e_fd B V (w p - 97) x x) rd) (rv_it_in hD vin) (fun fr b cn top ρ G HC d K hd hK => ?_) (fun f fr hf h3 h7 d K hd hK => ?_)
      · obtain ⟨d, rfl⟩ : ∃ e, d = e + 2 := ⟨d - 2, by omega⟩
        refine cls HC 4 (d + 1) K a5 (by decide) (by decide) (fun q => absurd q (by decide)) (fun q => absurd q (by decide)) (fun q => absurd q (by decide)) (fun _ => ?_) (fun q => absurd q (by decide))
        rw [a6]
        refine c_read HC.1 HC.2.1 HC.2.2.1 hB (by omega) hx (fun a G1 h1 n1 F1 k1 at1 => ?_)
        have HC1 := cE_f HC (fv_n (sl := sl) n1 F1) ro_r h1 k1
        obtain ⟨g1, g2, g3⟩ := fG HC1
        refine ⟨g1, ?_⟩
        rw [g3 2, a7]
        exact c_findItem hs40 h1 vin at1.2.2.1 (by omega) (fun G2 h2 F2 c2 => hK ρ G2 h2 ro_r (fv_t (fv_n n1 F1) ro_r (fv_s F2)) (cE_s HC1 F2) (fun q => (c2 q).1))
      · obtain ⟨d, rfl⟩ : ∃ e, d = e + 2 := ⟨d - 2, by omega⟩
        refine way f fr hf (d + 1) K (by omega) (fun q => ?_) (fun q => ?_) (fun q => ?_) (fun q => ?_) (fun _ _ _ _ => p_findsVar (l := w p - 97) hM hW hf hB hx (by omega) (by omega) h3 hpn a1 rfl (fun f1 F1 g1 v1 _ => z_bt a2 (fun k hk hk9 => ⟨?_, a3⟩)) (fun _ => a3))
        · unfold tx_D at q; omega
        · omega
        · omega
        · omega
        · rw [show k = w (p + 2) - 48 by omega]
          exact hK
    · -- a text
      refine prim (nI 0) (rv_T (q - p - 2) (fun j => w (p + 1 + j)) true) ra rd (fun _ => rv_inT (by omega) (fun j hj => hW.2.1 _ (by omega))) (fun fr b cn top ρ G HC d K hd hK => ?_) (fun f fr hf h3 h7 d K hd hK => ?_)
      · obtain ⟨d, rfl⟩ : ∃ e, d = e + 1 := ⟨d - 1, by omega⟩
        obtain ⟨g0, g1, g2, g3, g4, g5, g6⟩ := HC.2.2.2 _ a6
        refine cls HC 2 d K a5 (by decide) (by decide) (fun q => absurd q (by decide)) (fun _ => ⟨by rw [g3, a7]; decide, ?_⟩) (fun q => absurd q (by decide)) (fun q => absurd q (by decide)) (fun q => absurd q (by decide))
        rw [g4, a8]
        exact c_setText (P := sv ρ sl) (s := true) HC.1 (sv_vm HC.1 hs40) (Or.inl g2) (by omega) g1 (g3.trans a7) (by rw [g4, a8]; exact Nat.le_refl _) (by rw [g4, a8]; omega) (ch := fun j => w (p + 1 + j)) (fun j hj => (g6 j).trans (a9 j hj)) (fun G2 h2 F2 _ _ c2 => hK ρ G2 h2 ro_r (fv_s (fw_m F2 (fun o ho => sv_fW hs40 ho))) (cE_s HC (fw_m F2 (fun o ho => sv_fW hs40 ho))) (fun _ => c2))
      · obtain ⟨d, rfl⟩ : ∃ e, d = e + 2 := ⟨d - 2, by omega⟩
        refine way f fr hf (d + 1) K (by omega) (fun q => ?_) (fun _ => p_findsText hM hW hf (by omega) (by omega) h3 hq a2 a3 a4 (fun f1 F1 g1 v1 => hK.1 rfl f1 F1 g1 v1)) (fun q => ?_) (fun q => ?_) (fun _ q => absurd a1 q)
        · unfold tx_D at q; omega
        all_goals omega
    · -- not
      obtain ⟨b1, -⟩ := tx_E_ch a5
      obtain ⟨e1, v1, ra1, rd1, i1, i2, i3, -⟩ := fn_all (dep := dep + 1) (sl := sl) hM hW hB hD hV hx a5 hq (by omega) (by omega) ra rd
      refine prim e1 (rv_N (bI (rv_B (¬ rv_tr v1)))) ra1 rd1 (fun _ => rv_inN) (fun fr b cn top ρ G HC d K hd hK => ?_) (fun f fr hf h3 h7 d K hd hK => ?_)
      · obtain ⟨d, rfl⟩ : ∃ e, d = e + 3 := ⟨d - 3, by omega⟩
        refine cls5 HC 33 d K a3 (by decide) (by decide) (p + 1) q e1 v1 ra1 rd1 i2 (by omega) i1 (fun h0 ρ1 G1 h1 e1' F1 k1 => hK ρ1 G1 h1 e1' F1 k1 (fun q => absurd q h0)) (fun h0 ρ1 G1 HC1 e1' F1 c1 => ⟨fun q => absurd q (by decide), fun q => by omega, fun _ _ _ => ?_⟩)
        obtain ⟨g1, g2, g3⟩ := fG HC1
        refine ⟨g1, ?_⟩
        rw [g3 0, a3]
        have fin : ∀ b, rv_B (¬ rv_tr v1) = b → ∀ d, Va_setNumber d (1509 + 2 * sl) (bI b) G1 (fun G16 => K (nI 0) G16) := fun b hb d => c_setNumber (P := sv ρ1 sl) HC1.1 (sv_vm HC1.1 hs40) (fun G2 h2 F2 _ c2 => by
          have r := hK ρ1 G2 h2 e1' (fv_t F1 e1' (fv_s (fw_m F2 (fun o ho => sv_fW hs40 ho)))) (cE_s HC1 (fw_m F2 (fun o ho => sv_fW hs40 ho))) (fun _ => by rw [hb]; exact c2)
          rw [h0] at r
          exact r)
        exact z_bt rfl ⟨cs_g1507 HC1.1.1 hs40, c_isTrue HC1.1 (i1 h0) c1 (fun g => z_bt rfl ⟨cs_g1507 HC1.1.1 hs40, fin false (rv_Bf (fun r => r g)) _⟩) (fun g => z_bf (by decide) ⟨cs_g1507 HC1.1.1 hs40, fin true (rv_Bt g) _⟩)⟩
      · obtain ⟨d, rfl⟩ : ∃ e, d = e + 3 := ⟨d - 3, by omega⟩
        refine way f fr hf (d + 2) K (by omega) (fun q => ?_) (fun q => ?_) (fun q => ?_) (fun _ => ?_) (fun _ _ _ q => absurd a1 q)
        · unfold tx_D at q; omega
        · omega
        · omega
        · have F0 : mz fr f (mj_u2 f 1714 23 (nI (p + 1))) := mz_S (Or.inr (Or.inl rfl))
          refine i3 _ fr (fm_p hf) h3 (by omega) (d + 1) _ (by omega) ⟨fun h0 f1 F1 g1 w1 => ?_, fun h0 f1 k m pp F1 z1 z2 z3 z4 z5 z6 z7 z8 z9 => ?_⟩
          · refine fin5 hM hW g1 (by omega) hq a2 (z_bt g1.2.2.2.2.2.1 ?_)
            have fin : ∀ b, rv_B (¬ rv_tr v1) = b → ∀ d, m_becomes Gm d (nI fr) (bI b) f1 (fun f7 => K (nI fr) f7) := fun b hb d => p_becomes hM (by omega) (fun f2 F2 w2 => hK.1 h0 f2 (mz_t F0 (mz_t F1 (mz_k F2 (Nat.le_refl _)))) (fm_k g1 F2 h3) (by rw [hb]; exact w2))
            exact p_isTrue hM (by omega) w1 (i1 h0).1 (fun g => z_bt rfl (fin false (rv_Bf (fun r => r g)) _)) (fun g => z_bf (by decide) (fin true (rv_Bt g) _))
          · exact bad5 hM z9 h0 (z_bf (by rw [z9]; exact h0) (hK.2 h0 f1 k m pp (mz_t F0 F1) z1 z2 z3 z4 z5 z6 z7 z8 z9))
    · -- an operator
      obtain ⟨b1, -⟩ := tx_E_ch a7
      obtain ⟨b2, -⟩ := tx_E_ch a8
      have hm126 := tx_le hW m
      have hO := a4
      unfold tx_O at hO
      obtain ⟨e1, v1, ra1, rd1, i1, i2, i3, -⟩ := fn_all (dep := dep + 1) (sl := sl) hM hW hB hD hV hx a7 (by omega) (by omega) (by omega) ra rd
      obtain ⟨e2, v2, ra2, rd2, j1, j2, j3, -⟩ := fn_all (dep := dep + 1) (sl := if w m = 63 then sl else sl + 1) hM hW hB hD hV hx a8 (by omega) (by omega) (by by_cases q63 : w m = 63; rw [if_pos q63]; omega; rw [if_neg q63]; omega) ra1 rd1
      obtain ⟨e, v, ra', rd', s1, s2, s3, s4⟩ := fn_op (c := w m) (I := I) (e1 := e1) (e2 := e2) (v1 := v1) (v2 := v2) (n1 := (ra1, rd1)) (n2 := (ra2, rd2)) ((w m = 38 ∧ ¬ rv_tr v1) ∨ (w m = 63 ∧ rv_tr v1))
      refine prim e v ra' rd' (fun he => ?_) (fun fr b cn top ρ G HC d K hd hK => ?_) (fun f fr hf h3 h7 d K hd hK => ?_)
      · by_cases h1 : e1 = nI 0
        · by_cases h2 : (w m = 38 ∧ ¬ rv_tr v1) ∨ (w m = 63 ∧ rv_tr v1)
          · obtain ⟨-, -, r3⟩ := s2 h1 h2
            rw [r3]
            by_cases q : w m = 38
            · rw [if_pos q]; exact rv_inN
            · rw [if_neg q]; exact i1 h1
          · by_cases h4 : e2 = nI 0
            · obtain ⟨-, r2, r3⟩ := s4 h1 h2 h4
              by_cases q : w m = 63
              · rw [(r2 q).2]; exact j1 h4
              · have r4 := r3 q
                have r5 : e = (rv_op I (w m) v1 v2).1 := by rw [← r4]
                have r6 : v = (rv_op I (w m) v1 v2).2 := by rw [← r4]
                rw [r6]
                exact rv_op_in (i1 h1) (j1 h4) (r5.symm.trans he)
            · exact absurd ((s3 h1 h2 h4).1.symm.trans he) h4
        · exact absurd ((s1 h1).1.symm.trans he) h1
      · obtain ⟨d, rfl⟩ : ∃ e, d = e + 4 := ⟨d - 4, by omega⟩
        refine cls5 HC (w m) (d + 1) K a6 (by omega) hm126 (p + 1) m e1 v1 ra1 rd1 i2 (by omega) i1 (fun h0 ρ1 G1 h1 e1' F1 k1 => ?_) (fun h0 ρ1 G1 HC1 e1' F1 c1 => ⟨fun q g G2 h2 F2 c2 => ?_, fun q => ?_, fun q38 q63 _ => ?_⟩)
        · obtain ⟨r1, r2⟩ := s1 h0
          obtain ⟨rfl, rfl⟩ := Prod.mk.inj r2
          have r := hK ρ1 G1 h1 e1' F1 k1 (fun q => absurd (r1.symm.trans q) h0)
          rw [r1] at r
          exact r
        · obtain ⟨r1, r2, r3⟩ := s2 h0 (Or.inl ⟨q, g⟩)
          obtain ⟨rfl, rfl⟩ := Prod.mk.inj r2
          have r := hK ρ1 G2 h2 e1' (fv_t F1 e1' (fv_s F2)) (cE_s HC1 F2) (fun _ => by rw [r3, if_pos q]; exact c2)
          rw [r1] at r
          exact r
        · have q' : w m = 63 ∧ rv_tr v1 := by
            rcases q with q | q
            · exact q
            · omega
          obtain ⟨r1, r2, r3⟩ := s2 h0 (Or.inr q')
          obtain ⟨rfl, rfl⟩ := Prod.mk.inj r2
          have r := hK ρ1 G1 HC1.1 e1' F1 HC1.2.2.1 (fun _ => by rw [r3, if_neg (by omega)]; exact c1)
          rw [r1] at r
          exact r
        · have ndn : ¬ ((w m = 38 ∧ ¬ rv_tr v1) ∨ (w m = 63 ∧ rv_tr v1)) := fun q => by
            rcases q with q | q
            · exact q.2 (q38 q.1)
            · exact q63 q.1 q.2
          obtain ⟨g1, g2, g3⟩ := fG HC1
          refine ⟨g1, ?_⟩
          rw [g3 0, a6, g2 5, z_eq (by omega) (by decide), z_eq (by omega) (by decide), z_eq (by omega) (by decide), z_eq (by omega) (by decide), z_eq (by omega) (by decide), z_eq (by omega) (by decide), z_eq (by omega) (by decide), z_eq (by omega) (by decide)]
          refine z_bf (by omega) (z_br (fun q => ?_) (fun q => z_bf (by omega) (z_bf (by omega) (z_bf (by omega) (z_bf (by omega) (z_bf (by omega) (z_bf (by omega) ?_)))))))
          · rw [if_pos q] at j2
            refine j2 fr b cn top ρ1 G1 HC1 (d + 2) K (by omega) (fun ρ2 G2 h2 e2' F2 k2 c2 => ?_)
            by_cases h4 : e2 = nI 0
            · obtain ⟨r1, r2, -⟩ := s4 h0 ndn h4
              obtain ⟨rfl, rfl⟩ := Prod.mk.inj r1
              have r := hK ρ2 G2 h2 (ro_t e1' F1.1.1 e2') (fv_t F1 e1' F2) k2 (fun _ => by rw [(r2 q).2]; exact c2 h4)
              rw [(r2 q).1] at r
              rw [h4]
              exact r
            · obtain ⟨r1, r2⟩ := s3 h0 ndn h4
              obtain ⟨rfl, rfl⟩ := Prod.mk.inj r2
              have r := hK ρ2 G2 h2 (ro_t e1' F1.1.1 e2') (fv_t F1 e1' F2) k2 (fun q => absurd (r1.symm.trans q) h4)
              rw [r1] at r
              exact r
          · rw [if_neg q] at j2
            rw [z_add]
            refine j2 fr b cn top ρ1 G1 HC1 (d + 2) _ (by omega) (fun ρ2 G2 h2 e2' F2 k2 c2 => ?_)
            have FF := fv_t F1 e1' (fv_m F2 (Nat.le_succ sl))
            have ee := ro_t e1' F1.1.1 e2'
            refine z_br (fun h4 => ?_) (fun h4 => ?_)
            · obtain ⟨r1, -, r3⟩ := s4 h0 ndn h4
              obtain ⟨rfl, rfl⟩ := Prod.mk.inj r1
              have r4 := r3 q
              have r5 : e = (rv_op I (w m) v1 v2).1 := by rw [← r4]
              have r6 : v = (rv_op I (w m) v1 v2).2 := by rw [← r4]
              have HC2 := cE_f HC1 F2 e2' h2 k2
              obtain ⟨x1, x2, x3⟩ := fG HC2
              refine ⟨x1, z_ixi (by omega) (by decide) ?_⟩
              rw [x3 0, a6]
              refine c_operate (by omega) h2 (i1 h0) (j1 h4) (sv_lo HC1.1 (i1 h0).1 (Nat.lt_succ_self sl) (by omega) c1 F2 e2') (c2 h4) (by omega) (fun ρ3 G3 h3 e3' F3 c3 => ?_)
              have r := hK ρ3 G3 h3 (ro_t ee FF.1.1 e3') (fv_t FF ee (fv_s F3)) (cE_s HC2 F3) (fun q => by rw [r6]; exact c3 (r5.symm.trans q))
              rw [r5] at r
              exact r
            · obtain ⟨r1, r2⟩ := s3 h0 ndn h4
              obtain ⟨rfl, rfl⟩ := Prod.mk.inj r2
              have r := hK ρ2 G2 h2 ee FF k2 (fun q => absurd (r1.symm.trans q) h4)
              rw [r1] at r
              exact r
      · obtain ⟨d, rfl⟩ : ∃ e, d = e + 4 := ⟨d - 4, by omega⟩
        refine way f fr hf (d + 3) K (by omega) (fun q => ?_) (fun q => ?_) (fun _ => ?_) (fun q => ?_) (fun _ _ q => absurd a1 q)
        · unfold tx_D at q; omega
        · omega
        · have F0 : mz fr f (mj_u2 f 1714 23 (nI (p + 1))) := mz_S (Or.inr (Or.inl rfl))
          have fr380 : fr < 380 := by omega
          refine w_m_findsBoth hM ?_
          rw [hf.2.2.2.2.2.2.2, z_add]
          refine i3 _ fr (fm_p hf) h3 (by omega) (d + 1) _ (by omega) ⟨fun h0 f1 F1 g1 w1 => ?_, fun h0 f1 k m0 pp F1 z1 z2 z3 z4 z5 z6 z7 z8 z9 => ?_⟩
          · refine fin5 hM hW g1 (by omega) (by omega) (by omega) (p_here hM g1 (by omega) (by omega) (z_bt g1.2.2.2.2.2.1 ?_))
            rw [tx_nxi (by omega), g1.2.2.2.2.2.2.2, z_add]
            have g2 := fm_p (q := m + 1) g1
            have F2 : mz fr f (mj_u2 f1 1714 23 (nI (m + 1))) := mz_t F0 (mz_t F1 (mz_S (Or.inr (Or.inl rfl))))
            have w2 : mv (mj_u2 f1 1714 23 (nI (m + 1))) fr v1 := mq_st w1 (P := no_R) (S := fun j => j = 23) (R := no_R) (mw_S rfl) (fun q => q) (i1 h0).1
            generalize mj_u2 f1 1714 23 (nI (m + 1)) = f2 at g2 F2 w2 ⊢
            -- the end
            have endst : ∀ f4 fr4 ra4 rd4, fm t w n D I N B V M S x ra4 rd4 fr4 (q - 1) f4 → mz fr f f4 → mv f4 fr v → rv_ok v → e = nI 0 → ra4 = ra' → rd4 = rd' → K (nI fr) (mj_u2 (mj_u2 f4 1714 21 (nI fr + nI 1)) 1714 23 ((mj_u2 f4 1714 21 (nI fr + nI 1)) 1714 23 + nI 1)) := fun f4 fr4 ra4 rd4 g4 F4 w4 ov he hra hrd => by
              subst hra
              subst hrd
              rw [z_add, show (mj_u2 f4 1714 21 (nI (fr + 1))) 1714 23 = nI (q - 1) from (z_u2m (by decide)).trans g4.2.2.2.2.2.2.2, z_add, show q - 1 + 1 = q by omega]
              exact hK.1 he _ (mz_t F4 (mz_t (mz_S (Or.inl rfl)) (mz_S (Or.inr (Or.inl rfl))))) (fm_p (fm_r g4)) (mq_st (mq_st w4 (P := no_R) (S := fun j => j = 21) (R := no_R) (mw_S rfl) (fun q => q) ov) (P := no_R) (S := fun j => j = 23) (R := no_R) (mw_S rfl) (fun q => q) ov)
            have endbad : ∀ f4 m0 pp ra4 rd4, mz fr f f4 → m0 ≤ 300 → f4 1730 fr = nI m0 → mj_b (f4 1731 fr) → f4 1714 23 = nI pp → pp ≤ q - 1 → mn f4 N M S ra4 rd4 → f4 1714 70 = e → ¬ e = nI 0 → ra4 = ra' → rd4 = rd' → K (nI fr) (mj_u2 (mj_u2 f4 1714 21 (nI fr + nI 1)) 1714 23 ((mj_u2 f4 1714 21 (nI fr + nI 1)) 1714 23 + nI 1)) := fun f4 m0 pp ra4 rd4 F4 y1 y2 y3 y4 y5 y6 y7 y8 hra hrd => by
              subst hra
              subst hrd
              rw [z_add, show (mj_u2 f4 1714 21 (nI (fr + 1))) 1714 23 = nI pp from (z_u2m (by decide)).trans y4, z_add]
              refine hK.2 y8 _ fr m0 (pp + 1) (mz_t F4 (mz_t (mz_S (Or.inl rfl)) (mz_S (Or.inr (Or.inl rfl))))) (Nat.le_refl _) fr380 y1 ((z_u2n (by decide)).trans ((z_u2n (by decide)).trans y2)) ?_ (by omega) z_u2s (mn_o (P := no_R) (S' := fun j => j = 23) (mn_o (P := no_R) (S' := fun j => j = 21) y6 (mw_S rfl) (by decide)) (mw_S rfl) (by decide)) ((z_u2m (by decide)).trans ((z_u2m (by decide)).trans y7))
              rw [show ∀ a b : Int32, mj_u2 (mj_u2 f4 1714 21 a) 1714 23 b 1731 fr = f4 1731 fr from fun a b => (z_u2n (by decide)).trans (z_u2n (by decide))]
              exact y3
            -- either way
            have b72 : ∀ s0, ((s0 = 1 ∧ ((w m = 38 ∧ ¬ rv_tr v1) ∨ (w m = 63 ∧ rv_tr v1))) ∨ (s0 = 0 ∧ ¬ ((w m = 38 ∧ ¬ rv_tr v1) ∨ (w m = 63 ∧ rv_tr v1)))) → m_findsBoth_72 Gm (d + 3) (nI fr) (nI (w m)) (nI s0) f2 K := fun s0 hs0 => by
              refine w_m_findsBoth_72 hM ?_
              rcases hs0 with ⟨rfl, hdn⟩ | ⟨rfl, hdn⟩
              · obtain ⟨r1, r2, r3⟩ := s2 h0 hdn
                obtain ⟨rfl, rfl⟩ := Prod.mk.inj r2
                have sk := c_skipsExpression (f := f2) (p := m + 1) (d := d + 2) (K := fun f22 => mm_br (nI (w m) = (nI 38)) (m_becomes Gm (d + 2) (nI fr) (nI 0) f22 (fun f23 => K (nI fr) (mj_u2 (mj_u2 f23 1714 21 ((nI fr) + (nI 1))) 1714 23 (((mj_u2 f23 1714 21 ((nI fr) + (nI 1))) 1714 23) + (nI 1))))) (K (nI fr) (mj_u2 (mj_u2 f22 1714 21 ((nI fr) + (nI 1))) 1714 23 (((mj_u2 f22 1714 21 ((nI fr) + (nI 1))) 1714 23) + (nI 1))))) hM g2.1 a8 (by omega) (by omega) (by omega)
                rw [sp_i g2.2.2.2.2.2.2.2] at sk
                refine z_bf (by decide) (sk ?_)
                have g3 := fm_p (q := q - 1) g2
                have F3 : mz fr f (sp_a f2 (q - 1)) := mz_t F2 (mz_S (Or.inr (Or.inl rfl)))
                have w3 : mv (sp_a f2 (q - 1)) fr v1 := mq_st w2 (P := no_R) (S := fun j => j = 23) (R := no_R) (mw_S rfl) (fun q => q) (i1 h0).1
                rw [z_eq (by omega) (by decide)]
                refine z_br (fun q38 => ?_) (fun q38 => ?_)
                · rw [if_pos q38] at r3
                  refine p_becomes (b := false) hM fr380 (fun f4 F4 w4 => endst f4 _ _ _ (fm_k g3 F4 h3) (mz_t F3 (mz_k F4 (Nat.le_refl _))) (by rw [r3]; exact w4) (by rw [r3]; exact rv_okN) r1 rfl rfl)
                · rw [if_neg q38] at r3
                  exact endst _ _ _ _ g3 F3 (by rw [r3]; exact w3) (by rw [r3]; exact (i1 h0).1) r1 rfl rfl
              · refine z_bt rfl ?_
                refine j3 f2 (fr + 1) g2 (by omega) (by omega) (d + 1) _ (by omega) ⟨fun h4 f3 F3 g3 w3 => ?_, fun h4 f3 k m0 pp F3 z1 z2 z3 z4 z5 z6 z7 z8 z9 => ?_⟩
                · refine fin5 hM hW g3 (by omega) (by omega) (by omega) (z_bt g3.2.2.2.2.2.1 ?_)
                  have w1' : mv f3 fr v1 := mq_st w2 F3 (by omega) (i1 h0).1
                  have F3' : mz fr f f3 := mz_t F2 (mz_u F3 (Nat.le_succ fr))
                  obtain ⟨r1, r2, r3⟩ := s4 h0 hdn h4
                  obtain ⟨rfl, rfl⟩ := Prod.mk.inj r1
                  by_cases q63 : w m = 63
                  · obtain ⟨r4, r5⟩ := r2 q63
                    rw [q63]
                    refine p_comb63 hM fr380 (by omega) (by omega) (i1 h0).1 (j1 h4).1 w1' w3 (fun f4 F4 w4 => endst f4 _ _ _ (fm_k g3 F4 h3) (mz_t F3' (mz_k F4 (Nat.le_refl _))) (by rw [r5]; exact w4) (by rw [r5]; exact (j1 h4).1) r4 rfl rfl)
                  · have r4 := r3 q63
                    have r5 : e = (rv_op I (w m) v1 v2).1 := by rw [← r4]
                    have r6 : v = (rv_op I (w m) v1 v2).2 := by rw [← r4]
                    refine p_combines hM fr380 (by omega) (by omega) g3.2.1 (i1 h0) (j1 h4) w1' w3 (by omega) g3.2.2.2.2.2.1 (fun h5 f4 F4 w4 => endst f4 _ _ _ (fm_k g3 F4 h3) (mz_t F3' (mz_k F4 (Nat.le_refl _))) (by rw [r6]; exact w4) (by rw [r6]; exact (rv_op_in (i1 h0) (j1 h4) h5).1) (r5.trans h5) rfl rfl) (fun h5 f4 m0 F4 e4 y1 y2 y3 => endbad f4 m0 (q - 1) _ _ (mz_t F3' (mz_o F4 (fun k q => by rw [q]; exact Nat.le_refl _) (fun j q => Or.inr (Or.inr q)) (fun _ q => q.elim))) y1 y2 y3 ((F4.2.1 23 (by decide)).trans g3.2.2.2.2.2.2.2) (Nat.le_refl _) (mn_o g3.2.2.2.1 F4 (by decide)) (e4.trans r5.symm) (by rw [r5]; exact h5) rfl rfl)
                · refine bad5 hM z9 h4 (z_bf (by rw [z9]; exact h4) ?_)
                  obtain ⟨r1, r2⟩ := s3 h0 hdn h4
                  obtain ⟨rfl, rfl⟩ := Prod.mk.inj r2
                  have w1' : mv f3 fr v1 := mq_st w2 F3 (by omega) (i1 h0).1
                  exact endbad f3 (rv_l v1) pp _ _ (mz_t F2 (mz_u F3 (Nat.le_succ fr))) (rv_lb (i1 h0).1) w1'.2.1 (by rw [w1'.2.2.1]; exact bI_b _) z7 z6 z8 (z9.trans r1.symm) (by rw [r1]; exact h4) rfl rfl
            rw [z_eq (by omega) (by decide), z_eq (by omega) (by decide)]
            refine z_br (fun q38 => ?_) (fun q38 => z_br (fun q63 => ?_) (fun q63 => b72 0 (Or.inr ⟨rfl, fun r => by rcases r with r | r; exact q38 r.1; exact q63 r.1⟩)))
            · exact p_isTrue hM fr380 w2 (i1 h0).1 (fun g => z_bt rfl (z_bf (by omega) (b72 0 (Or.inr ⟨rfl, fun r => by rcases r with r | r; exact r.2 g; omega⟩)))) (fun g => z_bf (by decide) (b72 1 (Or.inl ⟨rfl, Or.inl ⟨q38, g⟩⟩)))
            · exact p_isTrue hM fr380 w2 (i1 h0).1 (fun g => z_bt rfl (b72 1 (Or.inl ⟨rfl, Or.inr ⟨q63, g⟩⟩))) (fun g => z_bf (by decide) (b72 0 (Or.inr ⟨rfl, fun r => by rcases r with r | r; exact q38 r.1; exact g r.2⟩)))
          · obtain ⟨r1, r2⟩ := s1 h0
            obtain ⟨rfl, rfl⟩ := Prod.mk.inj r2
            refine bad5 hM z9 h0 (p_hereT hM (mr_z hf.1 (mz_t F0 F1)) z7 (by omega) (by omega) (z_bf (by rw [z9]; exact h0) (hK.2 (by rw [r1]; exact h0) f1 k m0 pp (mz_t F0 F1) z1 z2 z3 z4 z5 (by omega) z7 z8 (z9.trans r1.symm))))
        · omega
    · -- a plain filter
      obtain ⟨b1, -⟩ := tx_E_ch a7
      have hm126 := tx_le hW (m + 1)
      subst a2
      obtain ⟨e1, v1, ra1, rd1, i1, i2, i3, -⟩ := fn_all (dep := dep + 1) (sl := sl) hM hW hB hD hV hx a7 (by omega) (by omega) (by omega) ra rd
      obtain ⟨e, v, s1, s2⟩ : ∃ (e : Int32) (v : rv), (¬ e1 = nI 0 → e = e1) ∧ (e1 = nI 0 → (e, v) = rv_fi I (w (m + 1)) v1) := by
        by_cases h1 : e1 = nI 0
        · exact ⟨_, _, fun q => absurd h1 q, fun _ => rfl⟩
        · exact ⟨e1, rv_0, fun _ => rfl, fun q => absurd q h1⟩
      have s3 : e1 = nI 0 → e = (rv_fi I (w (m + 1)) v1).1 ∧ v = (rv_fi I (w (m + 1)) v1).2 := fun q => by rw [← s2 q]; exact ⟨rfl, rfl⟩
      refine ⟨e, v, ra1, rd1, fun he => ?_, fun fr b cn top ρ G HC d K hd hK => ?_, fun f fr hf h3 h7 d K hd hK => ?_, fun q => by rw [hpr] at q; cases q⟩
      · by_cases h1 : e1 = nI 0
        · obtain ⟨r1, r2⟩ := s3 h1
          rw [r2]
          exact rv_fi_in hD (i1 h1) (r1.symm.trans he)
        · exact absurd ((s1 h1).symm.trans he) h1
      · obtain ⟨d, rfl⟩ : ∃ e, d = e + 4 := ⟨d - 4, by omega⟩
        refine cls5 HC (w (m + 1)) (d + 1) K a5 (by omega) hm126 p m e1 v1 ra1 rd1 i2 (by omega) i1 (fun h0 ρ1 G1 h1 e1' F1 k1 => ?_) (fun h0 ρ1 G1 HC1 e1' F1 c1 => ⟨fun q => by omega, fun q => by omega, fun _ _ _ => ?_⟩)
        · have r := hK ρ1 G1 h1 e1' F1 k1 (fun q => absurd ((s1 h0).symm.trans q) h0)
          rw [s1 h0] at r
          exact r
        · obtain ⟨r1, r2⟩ := s3 h0
          have go : ∀ ρ2 G2, hh ρ2 D I G2 → ro_e ρ1 ρ2 G1 → fw ρ1 (fW sl) G1 G2 → ((rv_fi I (w (m + 1)) v1).1 = nI 0 → cv (sv ρ2 sl) G2 (1509 + 2 * sl) (rv_fi I (w (m + 1)) v1).2) → K (rv_fi I (w (m + 1)) v1).1 G2 := fun ρ2 G2 h2 e2' F2 c2 => by
            have r := hK ρ2 G2 h2 (ro_t e1' F1.1.1 e2') (fv_t F1 e1' (fv_s F2)) (cE_s HC1 F2) (fun q => by rw [r2]; exact c2 (r1.symm.trans q))
            rw [r1] at r
            exact r
          obtain ⟨g1, g2, g3⟩ := fG HC1
          refine ⟨g1, ?_⟩
          rw [g3 0, a5, z_eq (by omega) (by decide), z_eq (by omega) (by decide), z_eq (by omega) (by decide), z_eq (by omega) (by decide), z_eq (by omega) (by decide), z_eq (by omega) (by decide), z_eq (by omega) (by decide), z_eq (by omega) (by decide)]
          have fil : w (m + 1) = 117 ∨ w (m + 1) = 108 ∨ w (m + 1) = 114 ∨ w (m + 1) = 110 → Fi_filter (d + 2) (nI (w (m + 1))) (1509 + 2 * sl) G1 (fun v24 G23 => K v24 G23) := fun hc => c_filter hs40 HC1.1 (i1 h0) c1 (by omega) hc go
          refine z_bf (by omega) (z_bf (by omega) (z_bf (by omega) (z_br (fun q => ?_) (fun q => z_br (fun q1 => fil (by omega)) (fun q1 => z_br (fun q2 => fil (by omega)) (fun q2 => z_br (fun q3 => fil (by omega)) (fun q3 => z_br (fun q4 => fil (by omega)) (fun q4 => absurd a4 (by omega)))))))))
          rw [q] at go
          exact c_joinItems hs40 HC1.1 (i1 h0) c1 go
      · refine i3 f fr hf h3 (by omega) d K (by omega) ⟨fun h0 f1 F1 g1 w1 => ?_, fun h0 f1 k m0 pp F1 z1 z2 z3 z4 z5 z6 z7 z8 z9 => hK.2 (by rw [s1 h0]; exact h0) f1 k m0 pp F1 z1 z2 z3 z4 z5 (by omega) z7 z8 (z9.trans (s1 h0).symm)⟩
        obtain ⟨r1, r2⟩ := s3 h0
        obtain ⟨d, rfl⟩ : ∃ e, d = e + 3 := ⟨d - 3, by omega⟩
        have fr380 : fr < 380 := by omega
        refine w_m_finds_5 hM (z_bt g1.2.2.2.2.2.1 (p_here hM g1 (by omega) (by omega) ?_))
        rw [tx_nxe hW (by decide), g1.1.2, g1.2.2.2.2.2.2.2, z_add, z_add]
        refine z_bt a3 (c_letter hM g1.1.1 (by omega) ?_)
        rw [tx_nxi (by omega), z_eq (by omega) (by decide), g1.2.2.2.2.2.2.2, z_add]
        refine z_bf (by omega) ?_
        have g2 := fm_p (q := m + 2) g1
        have F2 : mz fr f (mj_u2 f1 1714 23 (nI (m + 2))) := mz_t F1 (mz_S (Or.inr (Or.inl rfl)))
        have w2 : mv (mj_u2 f1 1714 23 (nI (m + 2))) fr v1 := mq_st w1 (P := no_R) (S := fun j => j = 23) (R := no_R) (mw_S rfl) (fun q => q) (i1 h0).1
        generalize mj_u2 f1 1714 23 (nI (m + 2)) = f2 at g2 F2 w2 ⊢
        refine p_filters hM (by omega) fr380 g2.2.1 w2 (i1 h0) (by omega) g2.2.2.2.2.2.1 (fun h5 f3 F3 w3 => hK.1 (r1.trans h5) f3 (mz_t F2 (mz_k F3 (Nat.le_refl _))) (fm_k g2 F3 h3) (by rw [r2]; exact w3)) (fun h5 f3 m0 F3 e3 y1 y2 y3 => hK.2 (by rw [r1]; exact h5) f3 fr m0 (m + 2) (mz_t F2 (mz_o F3 (fun k q => by rw [q]; exact Nat.le_refl _) (fun j q => Or.inr (Or.inr q)) (fun _ q => q.elim))) (Nat.le_refl _) fr380 y1 y2 y3 (Nat.le_refl _) ((F3.2.1 23 (by decide)).trans g2.2.2.2.2.2.2.2) (mn_o g2.2.2.2.1 F3 (by decide)) (e3.trans r1.symm))
    · -- otherwise
      obtain ⟨b1, -⟩ := tx_E_ch a6
      obtain ⟨b2, -⟩ := tx_E_ch a7
      obtain ⟨e1, v1, ra1, rd1, i1, i2, i3, -⟩ := fn_all (dep := dep + 1) (sl := sl) hM hW hB hD hV hx a6 (by omega) (by omega) (by omega) ra rd
      obtain ⟨e2, v2, ra2, rd2, j1, j2, -, j4⟩ := fn_all (dep := dep + 1) (sl := sl) hM hW hB hD hV hx a7 hq (by omega) (by omega) ra1 rd1
      obtain ⟨e, v, ra', rd', s1, s2, s3⟩ : ∃ (e : Int32) (v : rv) (ra' rd' : Nat → Int32), (¬ e1 = nI 0 → e = e1 ∧ ra' = ra1 ∧ rd' = rd1) ∧ (e1 = nI 0 → rv_t v1 ≠ 0 → e = nI 0 ∧ v = v1 ∧ ra' = ra1 ∧ rd' = rd1) ∧ (e1 = nI 0 → rv_t v1 = 0 → e = e2 ∧ v = v2 ∧ ra' = ra2 ∧ rd' = rd2) := by
        by_cases h1 : e1 = nI 0
        · by_cases h2 : rv_t v1 = 0
          · exact ⟨e2, v2, ra2, rd2, fun q => absurd h1 q, fun _ q => absurd h2 q, fun _ _ => ⟨rfl, rfl, rfl, rfl⟩⟩
          · exact ⟨nI 0, v1, ra1, rd1, fun q => absurd h1 q, fun _ _ => ⟨rfl, rfl, rfl, rfl⟩, fun _ q => absurd q h2⟩
        · exact ⟨e1, rv_0, ra1, rd1, fun _ => ⟨rfl, rfl, rfl⟩, fun q => absurd q h1, fun q => absurd q h1⟩
      refine ⟨e, v, ra', rd', fun he => ?_, fun fr b cn top ρ G HC d K hd hK => ?_, fun f fr hf h3 h7 d K hd hK => ?_, fun q => by rw [hpr] at q; cases q⟩
      · by_cases h1 : e1 = nI 0
        · by_cases h2 : rv_t v1 = 0
          · obtain ⟨r1, r2, -⟩ := s3 h1 h2
            rw [r2]
            exact j1 (r1.symm.trans he)
          · rw [(s2 h1 h2).2.1]
            exact i1 h1
        · exact absurd ((s1 h1).1.symm.trans he) h1
      · obtain ⟨d, rfl⟩ : ∃ e, d = e + 3 := ⟨d - 3, by omega⟩
        refine cls5 HC 100 d K a5 (by decide) (by decide) p m e1 v1 ra1 rd1 i2 (by omega) i1 (fun h0 ρ1 G1 h1 e1' F1 k1 => ?_) (fun h0 ρ1 G1 HC1 e1' F1 c1 => ⟨fun q => absurd q (by decide), fun q => ?_, fun _ _ q => ?_⟩)
        · obtain ⟨r1, rfl, rfl⟩ := s1 h0
          have r := hK ρ1 G1 h1 e1' F1 k1 (fun q => absurd (r1.symm.trans q) h0)
          rw [r1] at r
          exact r
        · have q' : rv_t v1 ≠ 0 := by
            rcases q with q | q
            · exact absurd q.1 (by decide)
            · exact q.2
          obtain ⟨r1, r2, rfl, rfl⟩ := s2 h0 q'
          have r := hK ρ1 G1 HC1.1 e1' F1 HC1.2.2.1 (fun _ => by rw [r2]; exact c1)
          rw [r1] at r
          exact r
        · obtain ⟨r1, r2, rfl, rfl⟩ := s3 h0 (q rfl)
          subst r1
          subst r2
          obtain ⟨g1, g2, g3⟩ := fG HC1
          refine ⟨g1, ?_⟩
          rw [g3 0, a5, g2 5]
          refine z_bf (by decide) (z_bf (by decide) (z_bt rfl ?_))
          exact j2 fr b cn top ρ1 G1 HC1 (d + 1) K (by omega) (fun ρ2 G2 h2 e2' F2 k2 c2 => hK ρ2 G2 h2 (ro_t e1' F1.1.1 e2') (fv_t F1 e1' F2) k2 c2)
      · refine i3 f fr hf h3 (by omega) d K (by omega) ⟨fun h0 f1 F1 g1 w1 => ?_, fun h0 f1 k m0 pp F1 z1 z2 z3 z4 z5 z6 z7 z8 z9 => ?_⟩
        · have fr380 : fr < 380 := by omega
          have t1 := (i1 h0).1.1
          refine w_m_finds_5 hM (z_bt g1.2.2.2.2.2.1 (p_here hM g1 (by omega) (by omega) ?_))
          rw [tx_nxe hW (by decide), g1.1.2, g1.2.2.2.2.2.2.2, z_add, z_add]
          refine z_bt a3 (c_letter hM g1.1.1 (by omega) ?_)
          rw [tx_nxe hW (by decide), g1.2.2.2.2.2.2.2, z_add]
          refine z_bt a4 (z_ixi fr380 (by decide) ?_)
          have g2 := fm_p (q := m + 2) g1
          have F2 : mz fr f (mj_u2 f1 1714 23 (nI (m + 2))) := mz_t F1 (mz_S (Or.inr (Or.inl rfl)))
          have w2 : mv (mj_u2 f1 1714 23 (nI (m + 2))) fr v1 := mq_st w1 (P := no_R) (S := fun j => j = 23) (R := no_R) (mw_S rfl) (fun q => q) (i1 h0).1
          generalize mj_u2 f1 1714 23 (nI (m + 2)) = f2 at g2 F2 w2 ⊢
          rw [w2.1, z_eq (by omega) (by decide)]
          refine z_br (fun q0 => ?_) (fun q0 => ?_)
          · obtain ⟨r1, r2, rfl, rfl⟩ := s3 h0 q0
            subst r1
            subst r2
            refine j4 rfl f2 (fr + 1) g2 (by omega) (by omega) d _ (by omega) ⟨fun h4 f3 F3 g3 w3 => ?_, fun h4 f3 k m0 pp F3 z1 z2 z3 z4 z5 z6 z7 z8 z9 => ?_⟩
            · have F3' : mz fr f f3 := mz_t F2 (mz_u F3 (Nat.le_succ fr))
              refine p_moves hM (by omega) fr380 (by omega) w3 (j1 h4).1 (fun f4 F4 w4 => ?_)
              exact hK.1 h4 _ (mz_t F3' (mz_t (mz_k F4 (Nat.le_refl _)) (mz_S (Or.inl rfl)))) (fm_r (fm_k g3 F4 h3)) (mq_st w4 (P := no_R) (S := fun j => j = 21) (R := no_R) (mw_S rfl) (fun q => q) (j1 h4).1)
            · have F3' : mz fr f f3 := mz_t F2 (mz_u F3 (Nat.le_succ fr))
              refine p_movesF hM z2 fr380 (by omega) z3 z4 z5 (fun f4 F4 y1 y2 => ?_)
              refine hK.2 h4 _ fr m0 pp (mz_t F3' (mz_t (mz_k F4 (Nat.le_refl _)) (mz_S (Or.inl rfl)))) (Nat.le_refl _) fr380 z3 ((z_u2n (by decide)).trans y1) ?_ z6 ((z_u2m (by decide)).trans ((F4.2.1 23 (fun q => q)).trans z7)) (mn_o (P := no_R) (S' := fun j => j = 21) (mn_o z8 F4 (fun q => q)) (mw_S rfl) (by decide)) ((z_u2m (by decide)).trans ((F4.2.1 70 (fun q => q)).trans z9))
              rw [show ∀ a : Int32, mj_u2 f4 1714 21 a 1731 fr = f4 1731 fr from fun a => z_u2n (by decide)]
              exact y2
          · obtain ⟨r1, r2, rfl, rfl⟩ := s2 h0 q0
            have sk := (sk_all (f := f2) hM g2.1 a7 hq).2 rfl d (fun f11 => m_finds_5 Gm (d + 1) (nI fr) f11 K) (by omega)
            rw [sp_i g2.2.2.2.2.2.2.2] at sk
            refine sk ?_
            have w3 : mv (sp_a f2 q) fr v1 := mq_st w2 (P := no_R) (S := fun j => j = 23) (R := no_R) (mw_S rfl) (fun q => q) (i1 h0).1
            exact hK.1 r1 _ (mz_t F2 (mz_S (Or.inr (Or.inl rfl)))) (fm_p g2) (by rw [r2]; exact w3)
        · obtain ⟨r1, rfl, rfl⟩ := s1 h0
          exact hK.2 (by rw [r1]; exact h0) f1 k m0 pp F1 z1 z2 z3 z4 z5 (by omega) z7 z8 (z9.trans r1.symm)
end FA
