/-! RENDERING: the value of a variable as a fragment reads it -/
section VO
variable {Gm : mj_G} {D : Nat → rv} {I : Nat → Nat → rv} {f : mm_F} {N d l x fr : Nat} {B : Nat → Nat} {V : Nat → Nat → Option rv}
/-- what follows: the value at the free place, that is free again -/
def jV (f : mm_F) (fr : Nat) (v : rv) (K : Int32 → mm_F → Prop) : Prop := ∀ f', mw (fun j => j = fr) (fun j => j = 21) no_R f f' → f' 1714 21 = nI fr → mv f' fr v → K (nI fr) f'
theorem p_valueOf {K : Int32 → mm_F → Prop} (hM : mm_S Gm) (hD : md f D I) (hE : me f D N B V) (hB : ∀ s, B s ≤ s) (hl : l < 26) (hx : x ≤ N) (h27 : f 1714 27 = sh x) (h21 : f 1714 21 = nI fr) (hf3 : 320 ≤ fr) (hfr : fr < 380) (ov : rv_ok (e_vl D B V l x)) (hK : jV f fr (e_vl D B V l x) K) : m_valueOf Gm (d + 3) (nI 0) (nI l) f K := by
  refine w_m_valueOf hM (p_takesPlace hM h21 hfr (fun f1 F1 e1 _ _ _ _ => z_bt rfl ?_))
  rw [(F1.2.1 27 (by decide)).trans h27]
  have D1 := mq_md hD F1 (fun a q => q.elim)
  have E1 := me_f hE F1 (fun i q => by have q' : i = fr := q; omega) (by decide) (fun a q => q.elim)
  refine p_takesFrom hM D1 E1 hB hl hx hf3 hfr (fun f2 F2 v2 => ?_)
  exact hK _ (mw_t F1 (mw_t (mw_m F2 (fun _ q => q) (fun _ q => q.elim) (fun _ q => q)) (mw_S rfl))) z_u2s (mq_st v2 (P := no_R) (S := fun j => j = 21) (R := no_R) (mw_S rfl) (fun q => q) ov)
theorem p_valueOfD {K : Int32 → mm_F → Prop} (hM : mm_S Gm) (hD : md f D I) (hl : l < 26) (h21 : f 1714 21 = nI fr) (hfr : fr < 380) (hK : jV f fr (D l) K) : m_valueOf Gm (d + 1) (nI 1) (nI l) f K := by
  refine w_m_valueOf hM (p_takesPlace hM h21 hfr (fun f1 F1 e1 _ _ _ _ => z_bf (by decide) ?_))
  have D1 := mq_md hD F1 (fun a q => q.elim)
  refine p_takesData hM hfr D1 hl (fun f2 F2 v2 => ?_)
  exact hK _ (mw_t F1 (mw_t (mw_m F2 (fun _ q => q) (fun _ q => q.elim) (fun _ q => q)) (mw_S rfl))) z_u2s (mq_st v2 (P := no_R) (S := fun j => j = 21) (R := no_R) (mw_S rfl) (fun q => q) (hD l hl).1)
end VO
