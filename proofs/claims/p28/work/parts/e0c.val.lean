/-! WHERE A TEMPLATE MAY END: the values found -/
section E0C
variable {u : wo} {ch : Int32}
theorem xv_in {A : Nat → Prop} {w : Nat → Nat} {n l r p q : Nat} {pr : Bool} (hD : da (u_D u) (u_I u)) (hW : tx_W w n) (hE : tx_E l A (u_G u) r w p q pr) (hq : q ≤ n) {N : Nat} {B : Nat → Nat} {M : Nat} {Sm : Nat → Nat} {V : Nat → Nat → Option rv} {ra rd : Nat → Int32} {v : rv} {ra1 rd1 : Nat → Int32} (hB : ∀ s, B s ≤ s) (hV : VI u ch N V) (h : FE u N B M Sm V r ra rd (nI 0) v ra1 rd1) : rv_in (u_D u) v := by
  have hn := hW.1
  obtain ⟨m, h⟩ := h
  obtain ⟨e, v2, ra2, rd2, a1, -, a3⟩ := xs_all (D := u_D u) (I := u_I u) (N := N) (x := N) (M := M) (S := Sm) (dep := 0) (sl := 0) hW hB hD (fun s l v q => (hV.2 s l v q).1) (Nat.le_refl _) hE hq (by omega) (by omega) ra rd
  obtain ⟨c1, c2, -⟩ := FN_det h a3
  rw [c2]
  exact a1 c1.symm
end E0C
