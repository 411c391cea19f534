/-! WHAT THE RULES DETERMINE: values -/
theorem nk {x : Int32} {c c' : Nat} (h : x = nI c) (h' : x = nI c') (hc : c < 200) (hc' : c' < 200) : c = c' := (nI_eq (by omega) (by omega)).mp (h.symm.trans h')
theorem tO_b {c : Nat} (h : tx_O c) : c < 200 := by
  unfold tx_O at h
  omega
theorem tO_n {c c' : Nat} (h : tx_O c) (h' : c' = 1 ∨ c' = 2 ∨ c' = 3 ∨ c' = 4 ∨ c' = 33 ∨ c' = 100 ∨ c' = 117 ∨ c' = 108 ∨ c' = 114 ∨ c' = 106 ∨ c' = 110) : ¬ c = c' := by
  unfold tx_O at h
  omega
section D00
variable {D : Nat → rv} {I : Nat → Nat → rv} {B : Nat → Nat} {V : Nat → Nat → Option rv} {M : Nat} {S : Nat → Nat} {x : Nat} {G0 : mj_G} {l y k : Nat} {ra rd : Nat → Int32}
theorem e_na_p {ra' : Nat → Int32} (h : ra k = ra' k) : e_na B M S l x y ra k = e_na B M S l x y ra' k := by
  unfold e_na
  rw [h]
theorem e_nd_p {rd' : Nat → Int32} (h : rd k = rd' k) : e_nd B M S l x y rd k = e_nd B M S l x y rd' k := by
  unfold e_nd
  rw [h]
theorem FN_det {r : Nat} {e : Int32} {v : rv} {ra1 rd1 : Nat → Int32} (h : FN D I B V M S x G0 r ra rd e v ra1 rd1) : ∀ {ra' rd' : Nat → Int32} {e' : Int32} {v' : rv} {ra1' rd1' : Nat → Int32}, FN D I B V M S x G0 r ra' rd' e' v' ra1' rd1' → e = e' ∧ v = v' ∧ ∀ k, (ra k = ra' k → ra1 k = ra1' k) ∧ (rd k = rd' k → rd1 k = rd1' k) := by
  induction h with
  | num h =>
    intro ra' rd' e' v' ra1' rd1' g
    cases g with
    | num h' =>
      exact ⟨rfl, rfl, fun k => ⟨id, id⟩⟩
    | quo h' =>
      exact absurd (nk h h' (by decide) (by decide)) (by decide)
    | var h' h1' hl' =>
      exact absurd (nk h h' (by decide) (by decide)) (by decide)
    | itm h' h1' h2' hl' hk' =>
      exact absurd (nk h h' (by decide) (by decide)) (by decide)
    | not h' h1' =>
      exact absurd (nk h h' (by decide) (by decide)) (by decide)
    | fil h' hc' h1' =>
      exact absurd (nk h h' (by decide) (by omega)) (by omega)
    | filx h' hc' he' h1' =>
      exact absurd (nk h h' (by decide) (by omega)) (by omega)
    | els0 h' h0' h1' h2' =>
      exact absurd (nk h h' (by decide) (by decide)) (by decide)
    | els1 h' h0' h1' =>
      exact absurd (nk h h' (by decide) (by decide)) (by decide)
    | elsx h' he' h1' =>
      exact absurd (nk h h' (by decide) (by decide)) (by decide)
    | opx h' hc' he' h1' =>
      exact absurd (nk h h' (by decide) (tO_b hc')).symm (tO_n hc' (by omega))
    | ops h' hc' hn' h1' =>
      exact absurd (nk h h' (by decide) (tO_b hc')).symm (tO_n hc' (by omega))
    | opy h' hc' hn' h1' he' h2' =>
      exact absurd (nk h h' (by decide) (tO_b hc')).symm (tO_n hc' (by omega))
    | opm h' hc' hn' h1' h2' =>
      exact absurd (nk h h' (by decide) (tO_b hc')).symm (tO_n hc' (by omega))
  | quo h =>
    intro ra' rd' e' v' ra1' rd1' g
    cases g with
    | num h' =>
      exact absurd (nk h h' (by decide) (by decide)) (by decide)
    | quo h' =>
      exact ⟨rfl, rfl, fun k => ⟨id, id⟩⟩
    | var h' h1' hl' =>
      exact absurd (nk h h' (by decide) (by decide)) (by decide)
    | itm h' h1' h2' hl' hk' =>
      exact absurd (nk h h' (by decide) (by decide)) (by decide)
    | not h' h1' =>
      exact absurd (nk h h' (by decide) (by decide)) (by decide)
    | fil h' hc' h1' =>
      exact absurd (nk h h' (by decide) (by omega)) (by omega)
    | filx h' hc' he' h1' =>
      exact absurd (nk h h' (by decide) (by omega)) (by omega)
    | els0 h' h0' h1' h2' =>
      exact absurd (nk h h' (by decide) (by decide)) (by decide)
    | els1 h' h0' h1' =>
      exact absurd (nk h h' (by decide) (by decide)) (by decide)
    | elsx h' he' h1' =>
      exact absurd (nk h h' (by decide) (by decide)) (by decide)
    | opx h' hc' he' h1' =>
      exact absurd (nk h h' (by decide) (tO_b hc')).symm (tO_n hc' (by omega))
    | ops h' hc' hn' h1' =>
      exact absurd (nk h h' (by decide) (tO_b hc')).symm (tO_n hc' (by omega))
    | opy h' hc' hn' h1' he' h2' =>
      exact absurd (nk h h' (by decide) (tO_b hc')).symm (tO_n hc' (by omega))
    | opm h' hc' hn' h1' h2' =>
      exact absurd (nk h h' (by decide) (tO_b hc')).symm (tO_n hc' (by omega))
  | var h h1 hl =>
    intro ra' rd' e' v' ra1' rd1' g
    cases g with
    | num h' =>
      exact absurd (nk h h' (by decide) (by decide)) (by decide)
    | quo h' =>
      exact absurd (nk h h' (by decide) (by decide)) (by decide)
    | var h' h1' hl' =>
      obtain rfl := nk h1 h1' (by omega) (by omega)
      exact ⟨rfl, rfl, fun k => ⟨e_na_p, e_nd_p⟩⟩
    | itm h' h1' h2' hl' hk' =>
      exact absurd (nk h h' (by decide) (by decide)) (by decide)
    | not h' h1' =>
      exact absurd (nk h h' (by decide) (by decide)) (by decide)
    | fil h' hc' h1' =>
      exact absurd (nk h h' (by decide) (by omega)) (by omega)
    | filx h' hc' he' h1' =>
      exact absurd (nk h h' (by decide) (by omega)) (by omega)
    | els0 h' h0' h1' h2' =>
      exact absurd (nk h h' (by decide) (by decide)) (by decide)
    | els1 h' h0' h1' =>
      exact absurd (nk h h' (by decide) (by decide)) (by decide)
    | elsx h' he' h1' =>
      exact absurd (nk h h' (by decide) (by decide)) (by decide)
    | opx h' hc' he' h1' =>
      exact absurd (nk h h' (by decide) (tO_b hc')).symm (tO_n hc' (by omega))
    | ops h' hc' hn' h1' =>
      exact absurd (nk h h' (by decide) (tO_b hc')).symm (tO_n hc' (by omega))
    | opy h' hc' hn' h1' he' h2' =>
      exact absurd (nk h h' (by decide) (tO_b hc')).symm (tO_n hc' (by omega))
    | opm h' hc' hn' h1' h2' =>
      exact absurd (nk h h' (by decide) (tO_b hc')).symm (tO_n hc' (by omega))
  | itm h h1 h2 hl hk =>
    intro ra' rd' e' v' ra1' rd1' g
    cases g with
    | num h' =>
      exact absurd (nk h h' (by decide) (by decide)) (by decide)
    | quo h' =>
      exact absurd (nk h h' (by decide) (by decide)) (by decide)
    | var h' h1' hl' =>
      exact absurd (nk h h' (by decide) (by decide)) (by decide)
    | itm h' h1' h2' hl' hk' =>
      obtain rfl := nk h1 h1' (by omega) (by omega)
      obtain rfl := nk h2 h2' (by omega) (by omega)
      exact ⟨rfl, rfl, fun k => ⟨e_na_p, e_nd_p⟩⟩
    | not h' h1' =>
      exact absurd (nk h h' (by decide) (by decide)) (by decide)
    | fil h' hc' h1' =>
      exact absurd (nk h h' (by decide) (by omega)) (by omega)
    | filx h' hc' he' h1' =>
      exact absurd (nk h h' (by decide) (by omega)) (by omega)
    | els0 h' h0' h1' h2' =>
      exact absurd (nk h h' (by decide) (by decide)) (by decide)
    | els1 h' h0' h1' =>
      exact absurd (nk h h' (by decide) (by decide)) (by decide)
    | elsx h' he' h1' =>
      exact absurd (nk h h' (by decide) (by decide)) (by decide)
    | opx h' hc' he' h1' =>
      exact absurd (nk h h' (by decide) (tO_b hc')).symm (tO_n hc' (by omega))
    | ops h' hc' hn' h1' =>
      exact absurd (nk h h' (by decide) (tO_b hc')).symm (tO_n hc' (by omega))
    | opy h' hc' hn' h1' he' h2' =>
      exact absurd (nk h h' (by decide) (tO_b hc')).symm (tO_n hc' (by omega))
    | opm h' hc' hn' h1' h2' =>
      exact absurd (nk h h' (by decide) (tO_b hc')).symm (tO_n hc' (by omega))
  | not h h1 ih1 =>
    intro ra' rd' e' v' ra1' rd1' g
    cases g with
    | num h' =>
      exact absurd (nk h h' (by decide) (by decide)) (by decide)
    | quo h' =>
      exact absurd (nk h h' (by decide) (by decide)) (by decide)
    | var h' h1' hl' =>
      exact absurd (nk h h' (by decide) (by decide)) (by decide)
    | itm h' h1' h2' hl' hk' =>
      exact absurd (nk h h' (by decide) (by decide)) (by decide)
    | not h' h1' =>
      obtain ⟨rfl, rfl, c⟩ := ih1 h1'
      exact ⟨rfl, rfl, c⟩
    | fil h' hc' h1' =>
      exact absurd (nk h h' (by decide) (by omega)) (by omega)
    | filx h' hc' he' h1' =>
      exact absurd (nk h h' (by decide) (by omega)) (by omega)
    | els0 h' h0' h1' h2' =>
      exact absurd (nk h h' (by decide) (by decide)) (by decide)
    | els1 h' h0' h1' =>
      exact absurd (nk h h' (by decide) (by decide)) (by decide)
    | elsx h' he' h1' =>
      exact absurd (nk h h' (by decide) (by decide)) (by decide)
    | opx h' hc' he' h1' =>
      exact absurd (nk h h' (by decide) (tO_b hc')).symm (tO_n hc' (by omega))
    | ops h' hc' hn' h1' =>
      exact absurd (nk h h' (by decide) (tO_b hc')).symm (tO_n hc' (by omega))
    | opy h' hc' hn' h1' he' h2' =>
      exact absurd (nk h h' (by decide) (tO_b hc')).symm (tO_n hc' (by omega))
    | opm h' hc' hn' h1' h2' =>
      exact absurd (nk h h' (by decide) (tO_b hc')).symm (tO_n hc' (by omega))
  | fil h hc h1 ih1 =>
    intro ra' rd' e' v' ra1' rd1' g
    cases g with
    | num h' =>
      exact absurd (nk h h' (by omega) (by decide)) (by omega)
    | quo h' =>
      exact absurd (nk h h' (by omega) (by decide)) (by omega)
    | var h' h1' hl' =>
      exact absurd (nk h h' (by omega) (by decide)) (by omega)
    | itm h' h1' h2' hl' hk' =>
      exact absurd (nk h h' (by omega) (by decide)) (by omega)
    | not h' h1' =>
      exact absurd (nk h h' (by omega) (by decide)) (by omega)
    | fil h' hc' h1' =>
      obtain rfl := nk h h' (by omega) (by omega)
      obtain ⟨-, rfl, c⟩ := ih1 h1'
      exact ⟨rfl, rfl, c⟩
    | filx h' hc' he' h1' =>
      exact absurd (ih1 h1').1.symm he'
    | els0 h' h0' h1' h2' =>
      exact absurd (nk h h' (by omega) (by decide)) (by omega)
    | els1 h' h0' h1' =>
      exact absurd (nk h h' (by omega) (by decide)) (by omega)
    | elsx h' he' h1' =>
      exact absurd (nk h h' (by omega) (by decide)) (by omega)
    | opx h' hc' he' h1' =>
      exact absurd (nk h h' (by omega) (tO_b hc')).symm (tO_n hc' (by omega))
    | ops h' hc' hn' h1' =>
      exact absurd (nk h h' (by omega) (tO_b hc')).symm (tO_n hc' (by omega))
    | opy h' hc' hn' h1' he' h2' =>
      exact absurd (nk h h' (by omega) (tO_b hc')).symm (tO_n hc' (by omega))
    | opm h' hc' hn' h1' h2' =>
      exact absurd (nk h h' (by omega) (tO_b hc')).symm (tO_n hc' (by omega))
  | filx h hc he h1 ih1 =>
    intro ra' rd' e' v' ra1' rd1' g
    cases g with
    | num h' =>
      exact absurd (nk h h' (by omega) (by decide)) (by omega)
    | quo h' =>
      exact absurd (nk h h' (by omega) (by decide)) (by omega)
    | var h' h1' hl' =>
      exact absurd (nk h h' (by omega) (by decide)) (by omega)
    | itm h' h1' h2' hl' hk' =>
      exact absurd (nk h h' (by omega) (by decide)) (by omega)
    | not h' h1' =>
      exact absurd (nk h h' (by omega) (by decide)) (by omega)
    | fil h' hc' h1' =>
      exact absurd (ih1 h1').1 he
    | filx h' hc' he' h1' =>
      obtain ⟨a, -, c⟩ := ih1 h1'
      exact ⟨a, rfl, c⟩
    | els0 h' h0' h1' h2' =>
      exact absurd (nk h h' (by omega) (by decide)) (by omega)
    | els1 h' h0' h1' =>
      exact absurd (nk h h' (by omega) (by decide)) (by omega)
    | elsx h' he' h1' =>
      exact absurd (nk h h' (by omega) (by decide)) (by omega)
    | opx h' hc' he' h1' =>
      exact absurd (nk h h' (by omega) (tO_b hc')).symm (tO_n hc' (by omega))
    | ops h' hc' hn' h1' =>
      exact absurd (nk h h' (by omega) (tO_b hc')).symm (tO_n hc' (by omega))
    | opy h' hc' hn' h1' he' h2' =>
      exact absurd (nk h h' (by omega) (tO_b hc')).symm (tO_n hc' (by omega))
    | opm h' hc' hn' h1' h2' =>
      exact absurd (nk h h' (by omega) (tO_b hc')).symm (tO_n hc' (by omega))
  | els0 h h0 h1 h2 ih1 ih2 =>
    intro ra' rd' e' v' ra1' rd1' g
    cases g with
    | num h' =>
      exact absurd (nk h h' (by decide) (by decide)) (by decide)
    | quo h' =>
      exact absurd (nk h h' (by decide) (by decide)) (by decide)
    | var h' h1' hl' =>
      exact absurd (nk h h' (by decide) (by decide)) (by decide)
    | itm h' h1' h2' hl' hk' =>
      exact absurd (nk h h' (by decide) (by decide)) (by decide)
    | not h' h1' =>
      exact absurd (nk h h' (by decide) (by decide)) (by decide)
    | fil h' hc' h1' =>
      exact absurd (nk h h' (by decide) (by omega)) (by omega)
    | filx h' hc' he' h1' =>
      exact absurd (nk h h' (by decide) (by omega)) (by omega)
    | els0 h' h0' h1' h2' =>
      obtain ⟨-, rfl, c⟩ := ih1 h1'
      obtain ⟨a, b, c2⟩ := ih2 h2'
      exact ⟨a, b, fun k => ⟨fun q => (c2 k).1 ((c k).1 q), fun q => (c2 k).2 ((c k).2 q)⟩⟩
    | els1 h' h0' h1' =>
      exact absurd ((ih1 h1').2.1 ▸ h0) h0'
    | elsx h' he' h1' =>
      exact absurd (ih1 h1').1.symm he'
    | opx h' hc' he' h1' =>
      exact absurd (nk h h' (by decide) (tO_b hc')).symm (tO_n hc' (by omega))
    | ops h' hc' hn' h1' =>
      exact absurd (nk h h' (by decide) (tO_b hc')).symm (tO_n hc' (by omega))
    | opy h' hc' hn' h1' he' h2' =>
      exact absurd (nk h h' (by decide) (tO_b hc')).symm (tO_n hc' (by omega))
    | opm h' hc' hn' h1' h2' =>
      exact absurd (nk h h' (by decide) (tO_b hc')).symm (tO_n hc' (by omega))
  | els1 h h0 h1 ih1 =>
    intro ra' rd' e' v' ra1' rd1' g
    cases g with
    | num h' =>
      exact absurd (nk h h' (by decide) (by decide)) (by decide)
    | quo h' =>
      exact absurd (nk h h' (by decide) (by decide)) (by decide)
    | var h' h1' hl' =>
      exact absurd (nk h h' (by decide) (by decide)) (by decide)
    | itm h' h1' h2' hl' hk' =>
      exact absurd (nk h h' (by decide) (by decide)) (by decide)
    | not h' h1' =>
      exact absurd (nk h h' (by decide) (by decide)) (by decide)
    | fil h' hc' h1' =>
      exact absurd (nk h h' (by decide) (by omega)) (by omega)
    | filx h' hc' he' h1' =>
      exact absurd (nk h h' (by decide) (by omega)) (by omega)
    | els0 h' h0' h1' h2' =>
      exact absurd h0' ((ih1 h1').2.1 ▸ h0)
    | els1 h' h0' h1' =>
      obtain ⟨-, rfl, c⟩ := ih1 h1'
      exact ⟨rfl, rfl, c⟩
    | elsx h' he' h1' =>
      exact absurd (ih1 h1').1.symm he'
    | opx h' hc' he' h1' =>
      exact absurd (nk h h' (by decide) (tO_b hc')).symm (tO_n hc' (by omega))
    | ops h' hc' hn' h1' =>
      exact absurd (nk h h' (by decide) (tO_b hc')).symm (tO_n hc' (by omega))
    | opy h' hc' hn' h1' he' h2' =>
      exact absurd (nk h h' (by decide) (tO_b hc')).symm (tO_n hc' (by omega))
    | opm h' hc' hn' h1' h2' =>
      exact absurd (nk h h' (by decide) (tO_b hc')).symm (tO_n hc' (by omega))
  | elsx h he h1 ih1 =>
    intro ra' rd' e' v' ra1' rd1' g
    cases g with
    | num h' =>
      exact absurd (nk h h' (by decide) (by decide)) (by decide)
    | quo h' =>
      exact absurd (nk h h' (by decide) (by decide)) (by decide)
    | var h' h1' hl' =>
      exact absurd (nk h h' (by decide) (by decide)) (by decide)
    | itm h' h1' h2' hl' hk' =>
      exact absurd (nk h h' (by decide) (by decide)) (by decide)
    | not h' h1' =>
      exact absurd (nk h h' (by decide) (by decide)) (by decide)
    | fil h' hc' h1' =>
      exact absurd (nk h h' (by decide) (by omega)) (by omega)
    | filx h' hc' he' h1' =>
      exact absurd (nk h h' (by decide) (by omega)) (by omega)
    | els0 h' h0' h1' h2' =>
      exact absurd (ih1 h1').1 he
    | els1 h' h0' h1' =>
      exact absurd (ih1 h1').1 he
    | elsx h' he' h1' =>
      obtain ⟨a, -, c⟩ := ih1 h1'
      exact ⟨a, rfl, c⟩
    | opx h' hc' he' h1' =>
      exact absurd (nk h h' (by decide) (tO_b hc')).symm (tO_n hc' (by omega))
    | ops h' hc' hn' h1' =>
      exact absurd (nk h h' (by decide) (tO_b hc')).symm (tO_n hc' (by omega))
    | opy h' hc' hn' h1' he' h2' =>
      exact absurd (nk h h' (by decide) (tO_b hc')).symm (tO_n hc' (by omega))
    | opm h' hc' hn' h1' h2' =>
      exact absurd (nk h h' (by decide) (tO_b hc')).symm (tO_n hc' (by omega))
  | opx h hc he h1 ih1 =>
    intro ra' rd' e' v' ra1' rd1' g
    cases g with
    | num h' =>
      exact absurd (nk h h' (tO_b hc) (by decide)) (tO_n hc (by omega))
    | quo h' =>
      exact absurd (nk h h' (tO_b hc) (by decide)) (tO_n hc (by omega))
    | var h' h1' hl' =>
      exact absurd (nk h h' (tO_b hc) (by decide)) (tO_n hc (by omega))
    | itm h' h1' h2' hl' hk' =>
      exact absurd (nk h h' (tO_b hc) (by decide)) (tO_n hc (by omega))
    | not h' h1' =>
      exact absurd (nk h h' (tO_b hc) (by decide)) (tO_n hc (by omega))
    | fil h' hc' h1' =>
      exact absurd (nk h h' (tO_b hc) (by omega)) (tO_n hc (by omega))
    | filx h' hc' he' h1' =>
      exact absurd (nk h h' (tO_b hc) (by omega)) (tO_n hc (by omega))
    | els0 h' h0' h1' h2' =>
      exact absurd (nk h h' (tO_b hc) (by decide)) (tO_n hc (by omega))
    | els1 h' h0' h1' =>
      exact absurd (nk h h' (tO_b hc) (by decide)) (tO_n hc (by omega))
    | elsx h' he' h1' =>
      exact absurd (nk h h' (tO_b hc) (by decide)) (tO_n hc (by omega))
    | opx h' hc' he' h1' =>
      obtain ⟨a, -, c⟩ := ih1 h1'
      exact ⟨a, rfl, c⟩
    | ops h' hc' hn' h1' =>
      exact absurd (ih1 h1').1 he
    | opy h' hc' hn' h1' he' h2' =>
      exact absurd (ih1 h1').1 he
    | opm h' hc' hn' h1' h2' =>
      exact absurd (ih1 h1').1 he
  | ops h hc hn h1 ih1 =>
    intro ra' rd' e' v' ra1' rd1' g
    cases g with
    | num h' =>
      exact absurd (nk h h' (tO_b hc) (by decide)) (tO_n hc (by omega))
    | quo h' =>
      exact absurd (nk h h' (tO_b hc) (by decide)) (tO_n hc (by omega))
    | var h' h1' hl' =>
      exact absurd (nk h h' (tO_b hc) (by decide)) (tO_n hc (by omega))
    | itm h' h1' h2' hl' hk' =>
      exact absurd (nk h h' (tO_b hc) (by decide)) (tO_n hc (by omega))
    | not h' h1' =>
      exact absurd (nk h h' (tO_b hc) (by decide)) (tO_n hc (by omega))
    | fil h' hc' h1' =>
      exact absurd (nk h h' (tO_b hc) (by omega)) (tO_n hc (by omega))
    | filx h' hc' he' h1' =>
      exact absurd (nk h h' (tO_b hc) (by omega)) (tO_n hc (by omega))
    | els0 h' h0' h1' h2' =>
      exact absurd (nk h h' (tO_b hc) (by decide)) (tO_n hc (by omega))
    | els1 h' h0' h1' =>
      exact absurd (nk h h' (tO_b hc) (by decide)) (tO_n hc (by omega))
    | elsx h' he' h1' =>
      exact absurd (nk h h' (tO_b hc) (by decide)) (tO_n hc (by omega))
    | opx h' hc' he' h1' =>
      exact absurd (ih1 h1').1.symm he'
    | ops h' hc' hn' h1' =>
      obtain rfl := nk h h' (tO_b hc) (tO_b hc')
      obtain ⟨-, rfl, c⟩ := ih1 h1'
      exact ⟨rfl, rfl, c⟩
    | opy h' hc' hn' h1' he' h2' =>
      obtain rfl := nk h h' (tO_b hc) (tO_b hc')
      exact absurd ((ih1 h1').2.1 ▸ hn) hn'
    | opm h' hc' hn' h1' h2' =>
      obtain rfl := nk h h' (tO_b hc) (tO_b hc')
      exact absurd ((ih1 h1').2.1 ▸ hn) hn'
  | opy h hc hn h1 he h2 ih1 ih2 =>
    intro ra' rd' e' v' ra1' rd1' g
    cases g with
    | num h' =>
      exact absurd (nk h h' (tO_b hc) (by decide)) (tO_n hc (by omega))
    | quo h' =>
      exact absurd (nk h h' (tO_b hc) (by decide)) (tO_n hc (by omega))
    | var h' h1' hl' =>
      exact absurd (nk h h' (tO_b hc) (by decide)) (tO_n hc (by omega))
    | itm h' h1' h2' hl' hk' =>
      exact absurd (nk h h' (tO_b hc) (by decide)) (tO_n hc (by omega))
    | not h' h1' =>
      exact absurd (nk h h' (tO_b hc) (by decide)) (tO_n hc (by omega))
    | fil h' hc' h1' =>
      exact absurd (nk h h' (tO_b hc) (by omega)) (tO_n hc (by omega))
    | filx h' hc' he' h1' =>
      exact absurd (nk h h' (tO_b hc) (by omega)) (tO_n hc (by omega))
    | els0 h' h0' h1' h2' =>
      exact absurd (nk h h' (tO_b hc) (by decide)) (tO_n hc (by omega))
    | els1 h' h0' h1' =>
      exact absurd (nk h h' (tO_b hc) (by decide)) (tO_n hc (by omega))
    | elsx h' he' h1' =>
      exact absurd (nk h h' (tO_b hc) (by decide)) (tO_n hc (by omega))
    | opx h' hc' he' h1' =>
      exact absurd (ih1 h1').1.symm he'
    | ops h' hc' hn' h1' =>
      obtain rfl := nk h h' (tO_b hc) (tO_b hc')
      exact absurd hn' ((ih1 h1').2.1 ▸ hn)
    | opy h' hc' hn' h1' he' h2' =>
      obtain ⟨-, rfl, c⟩ := ih1 h1'
      obtain ⟨a, b, c2⟩ := ih2 h2'
      exact ⟨a, rfl, fun k => ⟨fun q => (c2 k).1 ((c k).1 q), fun q => (c2 k).2 ((c k).2 q)⟩⟩
    | opm h' hc' hn' h1' h2' =>
      obtain ⟨-, rfl, c⟩ := ih1 h1'
      obtain ⟨a, b, c2⟩ := ih2 h2'
      exact absurd a he
  | opm h hc hn h1 h2 ih1 ih2 =>
    intro ra' rd' e' v' ra1' rd1' g
    cases g with
    | num h' =>
      exact absurd (nk h h' (tO_b hc) (by decide)) (tO_n hc (by omega))
    | quo h' =>
      exact absurd (nk h h' (tO_b hc) (by decide)) (tO_n hc (by omega))
    | var h' h1' hl' =>
      exact absurd (nk h h' (tO_b hc) (by decide)) (tO_n hc (by omega))
    | itm h' h1' h2' hl' hk' =>
      exact absurd (nk h h' (tO_b hc) (by decide)) (tO_n hc (by omega))
    | not h' h1' =>
      exact absurd (nk h h' (tO_b hc) (by decide)) (tO_n hc (by omega))
    | fil h' hc' h1' =>
      exact absurd (nk h h' (tO_b hc) (by omega)) (tO_n hc (by omega))
    | filx h' hc' he' h1' =>
      exact absurd (nk h h' (tO_b hc) (by omega)) (tO_n hc (by omega))
    | els0 h' h0' h1' h2' =>
      exact absurd (nk h h' (tO_b hc) (by decide)) (tO_n hc (by omega))
    | els1 h' h0' h1' =>
      exact absurd (nk h h' (tO_b hc) (by decide)) (tO_n hc (by omega))
    | elsx h' he' h1' =>
      exact absurd (nk h h' (tO_b hc) (by decide)) (tO_n hc (by omega))
    | opx h' hc' he' h1' =>
      exact absurd (ih1 h1').1.symm he'
    | ops h' hc' hn' h1' =>
      obtain rfl := nk h h' (tO_b hc) (tO_b hc')
      exact absurd hn' ((ih1 h1').2.1 ▸ hn)
    | opy h' hc' hn' h1' he' h2' =>
      obtain ⟨-, rfl, c⟩ := ih1 h1'
      obtain ⟨a, b, c2⟩ := ih2 h2'
      exact absurd a.symm he'
    | opm h' hc' hn' h1' h2' =>
      obtain rfl := nk h h' (tO_b hc) (tO_b hc')
      obtain ⟨-, rfl, c⟩ := ih1 h1'
      obtain ⟨a, b, c2⟩ := ih2 h2'
      subst b
      exact ⟨rfl, rfl, fun k => ⟨fun q => (c2 k).1 ((c k).1 q), fun q => (c2 k).2 ((c k).2 q)⟩⟩
end D00
