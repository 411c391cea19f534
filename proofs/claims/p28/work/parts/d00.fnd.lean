/-! WHAT THE RULES DETERMINE: values -/
theorem nkd {x : Int32} {c c' : Nat} (h : x = nI c) (h' : x = nI c') (hc : c < 200) (hc' : c' < 200) : c = c' := (nI_eq (by omega) (by omega)).mp (h.symm.trans h')
theorem tO_b {c : Nat} (h : tx_O c) : c < 200 := by
  unfold tx_O at h
  omega
theorem tO_n {c c' : Nat} (h : tx_O c) (h' : c' = 1 ∨ c' = 2 ∨ c' = 3 ∨ c' = 4 ∨ c' = 33 ∨ c' = 100 ∨ c' = 117 ∨ c' = 108 ∨ c' = 114 ∨ c' = 106 ∨ c' = 110) : ¬ c = c' := by
  unfold tx_O at h
  omega
section D00
variable {D : Nat → rv} {I : Nat → Nat → rv} {B : Nat → Nat} {V : Nat → Nat → Option rv} {M : Nat} {S : Nat → Nat} {x : Nat} {G0 : mj_G} {l y k : Nat} {ra rd : Nat → Int32}
theorem e_na_p {ra' : Nat → Int32} (h : ra k = ra' k) : e_na B M S l x y ra k = e_na B M S l x y ra' k := by
  unfold e_na
  rw [h]
theorem e_nd_p {rd' : Nat → Int32} (h : rd k = rd' k) : e_nd B M S l x y rd k = e_nd B M S l x y rd' k := by
  unfold e_nd
  rw [h]
/-- told alike where they were alike -/
def pw2 (ra rd ra' rd' ra1 rd1 ra1' rd1' : Nat → Int32) : Prop := ∀ k, (ra k = ra' k → ra1 k = ra1' k) ∧ (rd k = rd' k → rd1 k = rd1' k)
theorem pw2_r {ra rd ra' rd' : Nat → Int32} : pw2 ra rd ra' rd' ra rd ra' rd' := fun _ => ⟨id, id⟩
theorem pw2_t {ra rd ra' rd' ra1 rd1 ra1' rd1' ra2 rd2 ra2' rd2' : Nat → Int32} (h : pw2 ra rd ra' rd' ra1 rd1 ra1' rd1') (h2 : pw2 ra1 rd1 ra1' rd1' ra2 rd2 ra2' rd2') : pw2 ra rd ra' rd' ra2 rd2 ra2' rd2' := fun k => ⟨fun q => (h2 k).1 ((h k).1 q), fun q => (h2 k).2 ((h k).2 q)⟩
theorem FN_det : ∀ {n : Nat} {r : Nat} {ra rd : Nat → Int32} {e : Int32} {v : rv} {ra1 rd1 : Nat → Int32}, FN D I B V M S x G0 n r ra rd e v ra1 rd1 → ∀ {n' : Nat} {ra' rd' : Nat → Int32} {e' : Int32} {v' : rv} {ra1' rd1' : Nat → Int32}, FN D I B V M S x G0 n' r ra' rd' e' v' ra1' rd1' → e = e' ∧ v = v' ∧ pw2 ra rd ra' rd' ra1 rd1 ra1' rd1'
  | 0, _, _, _, _, _, _, _, h, _, _, _, _, _, _, _, _ => h.elim
  | n + 1, r, ra, rd, e, v, ra1, rd1, h, n', ra', rd', e', v', ra1', rd1', g => by
    cases n' with
    | zero => exact g.elim
    | succ n' =>
      rcases h with ⟨k1, rfl, rfl, rfl, rfl⟩ | ⟨k1, rfl, rfl, rfl, rfl⟩ | ⟨k1, l1, a1, b1, rfl, rfl, rfl, rfl⟩ | ⟨k1, l1, m1, a1, c1, b1, d1, rfl, rfl, rfl, rfl⟩ | ⟨k1, v1, h1, rfl⟩ | ⟨c1, e1, v1, k1, hc1, h1, q1⟩ | ⟨k1, e1, v1, ra1, rd1, h1, q1⟩ | ⟨c1, e1, v1, ra1, rd1, k1, hc1, h1, q1⟩
      · rcases g with ⟨k2, rfl, rfl, rfl, rfl⟩ | ⟨k2, rfl, rfl, rfl, rfl⟩ | ⟨k2, l2, a2, b2, rfl, rfl, rfl, rfl⟩ | ⟨k2, l2, m2, a2, c2, b2, d2, rfl, rfl, rfl, rfl⟩ | ⟨k2, v2, h2, rfl⟩ | ⟨c2, e2, v2, k2, hc2, h2, q2⟩ | ⟨k2, e2, v2, ra2, rd2, h2, q2⟩ | ⟨c2, e2, v2, ra2, rd2, k2, hc2, h2, q2⟩
        · exact ⟨rfl, rfl, pw2_r⟩
        · exact absurd (nkd k1 k2 (by decide) (by decide)) (by decide)
        · exact absurd (nkd k1 k2 (by decide) (by decide)) (by decide)
        · exact absurd (nkd k1 k2 (by decide) (by decide)) (by decide)
        · exact absurd (nkd k1 k2 (by decide) (by decide)) (by decide)
        · exact absurd (nkd k1 k2 (by decide) (by omega)) (by omega)
        · exact absurd (nkd k1 k2 (by decide) (by decide)) (by decide)
        · exact absurd (nkd k1 k2 (by decide) (tO_b hc2)).symm (tO_n hc2 (by omega))
      · rcases g with ⟨k2, rfl, rfl, rfl, rfl⟩ | ⟨k2, rfl, rfl, rfl, rfl⟩ | ⟨k2, l2, a2, b2, rfl, rfl, rfl, rfl⟩ | ⟨k2, l2, m2, a2, c2, b2, d2, rfl, rfl, rfl, rfl⟩ | ⟨k2, v2, h2, rfl⟩ | ⟨c2, e2, v2, k2, hc2, h2, q2⟩ | ⟨k2, e2, v2, ra2, rd2, h2, q2⟩ | ⟨c2, e2, v2, ra2, rd2, k2, hc2, h2, q2⟩
        · exact absurd (nkd k1 k2 (by decide) (by decide)) (by decide)
        · exact ⟨rfl, rfl, pw2_r⟩
        · exact absurd (nkd k1 k2 (by decide) (by decide)) (by decide)
        · exact absurd (nkd k1 k2 (by decide) (by decide)) (by decide)
        · exact absurd (nkd k1 k2 (by decide) (by decide)) (by decide)
        · exact absurd (nkd k1 k2 (by decide) (by omega)) (by omega)
        · exact absurd (nkd k1 k2 (by decide) (by decide)) (by decide)
        · exact absurd (nkd k1 k2 (by decide) (tO_b hc2)).symm (tO_n hc2 (by omega))
      · rcases g with ⟨k2, rfl, rfl, rfl, rfl⟩ | ⟨k2, rfl, rfl, rfl, rfl⟩ | ⟨k2, l2, a2, b2, rfl, rfl, rfl, rfl⟩ | ⟨k2, l2, m2, a2, c2, b2, d2, rfl, rfl, rfl, rfl⟩ | ⟨k2, v2, h2, rfl⟩ | ⟨c2, e2, v2, k2, hc2, h2, q2⟩ | ⟨k2, e2, v2, ra2, rd2, h2, q2⟩ | ⟨c2, e2, v2, ra2, rd2, k2, hc2, h2, q2⟩
        · exact absurd (nkd k1 k2 (by decide) (by decide)) (by decide)
        · exact absurd (nkd k1 k2 (by decide) (by decide)) (by decide)
        · obtain rfl := nkd a1 a2 (by omega) (by omega)
          exact ⟨rfl, rfl, fun k => ⟨e_na_p, e_nd_p⟩⟩
        · exact absurd (nkd k1 k2 (by decide) (by decide)) (by decide)
        · exact absurd (nkd k1 k2 (by decide) (by decide)) (by decide)
        · exact absurd (nkd k1 k2 (by decide) (by omega)) (by omega)
        · exact absurd (nkd k1 k2 (by decide) (by decide)) (by decide)
        · exact absurd (nkd k1 k2 (by decide) (tO_b hc2)).symm (tO_n hc2 (by omega))
      · rcases g with ⟨k2, rfl, rfl, rfl, rfl⟩ | ⟨k2, rfl, rfl, rfl, rfl⟩ | ⟨k2, l2, a2, b2, rfl, rfl, rfl, rfl⟩ | ⟨k2, l2, m2, a2, c2, b2, d2, rfl, rfl, rfl, rfl⟩ | ⟨k2, v2, h2, rfl⟩ | ⟨c2, e2, v2, k2, hc2, h2, q2⟩ | ⟨k2, e2, v2, ra2, rd2, h2, q2⟩ | ⟨c2, e2, v2, ra2, rd2, k2, hc2, h2, q2⟩
        · exact absurd (nkd k1 k2 (by decide) (by decide)) (by decide)
        · exact absurd (nkd k1 k2 (by decide) (by decide)) (by decide)
        · exact absurd (nkd k1 k2 (by decide) (by decide)) (by decide)
        · obtain rfl := nkd a1 a2 (by omega) (by omega)
          obtain rfl := nkd c1 c2 (by omega) (by omega)
          exact ⟨rfl, rfl, fun k => ⟨e_na_p, e_nd_p⟩⟩
        · exact absurd (nkd k1 k2 (by decide) (by decide)) (by decide)
        · exact absurd (nkd k1 k2 (by decide) (by omega)) (by omega)
        · exact absurd (nkd k1 k2 (by decide) (by decide)) (by decide)
        · exact absurd (nkd k1 k2 (by decide) (tO_b hc2)).symm (tO_n hc2 (by omega))
      · rcases g with ⟨k2, rfl, rfl, rfl, rfl⟩ | ⟨k2, rfl, rfl, rfl, rfl⟩ | ⟨k2, l2, a2, b2, rfl, rfl, rfl, rfl⟩ | ⟨k2, l2, m2, a2, c2, b2, d2, rfl, rfl, rfl, rfl⟩ | ⟨k2, v2, h2, rfl⟩ | ⟨c2, e2, v2, k2, hc2, h2, q2⟩ | ⟨k2, e2, v2, ra2, rd2, h2, q2⟩ | ⟨c2, e2, v2, ra2, rd2, k2, hc2, h2, q2⟩
        · exact absurd (nkd k1 k2 (by decide) (by decide)) (by decide)
        · exact absurd (nkd k1 k2 (by decide) (by decide)) (by decide)
        · exact absurd (nkd k1 k2 (by decide) (by decide)) (by decide)
        · exact absurd (nkd k1 k2 (by decide) (by decide)) (by decide)
        · obtain ⟨q1, rfl, q3⟩ := FN_det h1 h2
          exact ⟨q1, rfl, q3⟩
        · exact absurd (nkd k1 k2 (by decide) (by omega)) (by omega)
        · exact absurd (nkd k1 k2 (by decide) (by decide)) (by decide)
        · exact absurd (nkd k1 k2 (by decide) (tO_b hc2)).symm (tO_n hc2 (by omega))
      · rcases g with ⟨k2, rfl, rfl, rfl, rfl⟩ | ⟨k2, rfl, rfl, rfl, rfl⟩ | ⟨k2, l2, a2, b2, rfl, rfl, rfl, rfl⟩ | ⟨k2, l2, m2, a2, c2, b2, d2, rfl, rfl, rfl, rfl⟩ | ⟨k2, v2, h2, rfl⟩ | ⟨c2, e2, v2, k2, hc2, h2, q2⟩ | ⟨k2, e2, v2, ra2, rd2, h2, q2⟩ | ⟨c2, e2, v2, ra2, rd2, k2, hc2, h2, q2⟩
        · exact absurd (nkd k1 k2 (by omega) (by decide)) (by omega)
        · exact absurd (nkd k1 k2 (by omega) (by decide)) (by omega)
        · exact absurd (nkd k1 k2 (by omega) (by decide)) (by omega)
        · exact absurd (nkd k1 k2 (by omega) (by decide)) (by omega)
        · exact absurd (nkd k1 k2 (by omega) (by decide)) (by omega)
        · obtain rfl := nkd k1 k2 (by omega) (by omega)
          obtain ⟨rfl, rfl, p⟩ := FN_det h1 h2
          rcases q1 with ⟨x1, rfl, rfl⟩ | ⟨x1, rfl, rfl⟩
          · rcases q2 with ⟨y1, rfl, rfl⟩ | ⟨y1, rfl, rfl⟩
            · exact ⟨rfl, rfl, p⟩
            · exact absurd x1 y1
          · rcases q2 with ⟨y1, rfl, rfl⟩ | ⟨y1, rfl, rfl⟩
            · exact absurd y1 x1
            · exact ⟨rfl, rfl, p⟩
        · exact absurd (nkd k1 k2 (by omega) (by decide)) (by omega)
        · exact absurd (nkd k1 k2 (by omega) (tO_b hc2)).symm (tO_n hc2 (by omega))
      · rcases g with ⟨k2, rfl, rfl, rfl, rfl⟩ | ⟨k2, rfl, rfl, rfl, rfl⟩ | ⟨k2, l2, a2, b2, rfl, rfl, rfl, rfl⟩ | ⟨k2, l2, m2, a2, c2, b2, d2, rfl, rfl, rfl, rfl⟩ | ⟨k2, v2, h2, rfl⟩ | ⟨c2, e2, v2, k2, hc2, h2, q2⟩ | ⟨k2, e2, v2, ra2, rd2, h2, q2⟩ | ⟨c2, e2, v2, ra2, rd2, k2, hc2, h2, q2⟩
        · exact absurd (nkd k1 k2 (by decide) (by decide)) (by decide)
        · exact absurd (nkd k1 k2 (by decide) (by decide)) (by decide)
        · exact absurd (nkd k1 k2 (by decide) (by decide)) (by decide)
        · exact absurd (nkd k1 k2 (by decide) (by decide)) (by decide)
        · exact absurd (nkd k1 k2 (by decide) (by decide)) (by decide)
        · exact absurd (nkd k1 k2 (by decide) (by omega)) (by omega)
        · obtain ⟨rfl, rfl, p⟩ := FN_det h1 h2
          rcases q1 with ⟨x1, x2, x3⟩ | ⟨x1, x2, rfl, rfl, rfl, rfl⟩ | ⟨x1, rfl, rfl, rfl, rfl⟩
          · rcases q2 with ⟨y1, y2, y3⟩ | ⟨y1, y2, rfl, rfl, rfl, rfl⟩ | ⟨y1, rfl, rfl, rfl, rfl⟩
            · obtain ⟨a, b, p2⟩ := FN_det x3 y3
              exact ⟨a, b, pw2_t p p2⟩
            · exact absurd x2 y2
            · exact absurd x1 y1
          · rcases q2 with ⟨y1, y2, y3⟩ | ⟨y1, y2, rfl, rfl, rfl, rfl⟩ | ⟨y1, rfl, rfl, rfl, rfl⟩
            · exact absurd y2 x2
            · exact ⟨rfl, rfl, p⟩
            · exact absurd x1 y1
          · rcases q2 with ⟨y1, y2, y3⟩ | ⟨y1, y2, rfl, rfl, rfl, rfl⟩ | ⟨y1, rfl, rfl, rfl, rfl⟩
            · exact absurd y1 x1
            · exact absurd y1 x1
            · exact ⟨rfl, rfl, p⟩
        · exact absurd (nkd k1 k2 (by decide) (tO_b hc2)).symm (tO_n hc2 (by omega))
      · rcases g with ⟨k2, rfl, rfl, rfl, rfl⟩ | ⟨k2, rfl, rfl, rfl, rfl⟩ | ⟨k2, l2, a2, b2, rfl, rfl, rfl, rfl⟩ | ⟨k2, l2, m2, a2, c2, b2, d2, rfl, rfl, rfl, rfl⟩ | ⟨k2, v2, h2, rfl⟩ | ⟨c2, e2, v2, k2, hc2, h2, q2⟩ | ⟨k2, e2, v2, ra2, rd2, h2, q2⟩ | ⟨c2, e2, v2, ra2, rd2, k2, hc2, h2, q2⟩
        · exact absurd (nkd k1 k2 (tO_b hc1) (by decide)) (tO_n hc1 (by omega))
        · exact absurd (nkd k1 k2 (tO_b hc1) (by decide)) (tO_n hc1 (by omega))
        · exact absurd (nkd k1 k2 (tO_b hc1) (by decide)) (tO_n hc1 (by omega))
        · exact absurd (nkd k1 k2 (tO_b hc1) (by decide)) (tO_n hc1 (by omega))
        · exact absurd (nkd k1 k2 (tO_b hc1) (by decide)) (tO_n hc1 (by omega))
        · exact absurd (nkd k1 k2 (tO_b hc1) (by omega)) (tO_n hc1 (by omega))
        · exact absurd (nkd k1 k2 (tO_b hc1) (by decide)) (tO_n hc1 (by omega))
        · obtain rfl := nkd k1 k2 (tO_b hc1) (tO_b hc2)
          obtain ⟨rfl, rfl, p⟩ := FN_det h1 h2
          rcases q1 with ⟨x1, rfl, rfl, rfl, rfl⟩ | ⟨x1, x2, rfl, rfl, rfl, rfl⟩ | ⟨x1, x2, e3, v3, x3, x4⟩
          · rcases q2 with ⟨y1, rfl, rfl, rfl, rfl⟩ | ⟨y1, y2, rfl, rfl, rfl, rfl⟩ | ⟨y1, y2, e4, v4, y3, y4⟩
            · exact ⟨rfl, rfl, p⟩
            · exact absurd y1 x1
            · exact absurd y1 x1
          · rcases q2 with ⟨y1, rfl, rfl, rfl, rfl⟩ | ⟨y1, y2, rfl, rfl, rfl, rfl⟩ | ⟨y1, y2, e4, v4, y3, y4⟩
            · exact absurd x1 y1
            · exact ⟨rfl, rfl, p⟩
            · exact absurd x2 y2
          · rcases q2 with ⟨y1, rfl, rfl, rfl, rfl⟩ | ⟨y1, y2, rfl, rfl, rfl, rfl⟩ | ⟨y1, y2, e4, v4, y3, y4⟩
            · exact absurd x1 y1
            · exact absurd y2 x2
            · obtain ⟨rfl, rfl, p2⟩ := FN_det x3 y3
              rcases x4 with ⟨z1, rfl, rfl⟩ | ⟨z1, rfl, rfl⟩
              · rcases y4 with ⟨w1, rfl, rfl⟩ | ⟨w1, rfl, rfl⟩
                · exact ⟨rfl, rfl, pw2_t p p2⟩
                · exact absurd w1 z1
              · rcases y4 with ⟨w1, rfl, rfl⟩ | ⟨w1, rfl, rfl⟩
                · exact absurd z1 w1
                · exact ⟨rfl, rfl, pw2_t p p2⟩
end D00
