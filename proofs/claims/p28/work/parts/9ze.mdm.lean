/-! NODES MET, the model's half -/
/-- a tag met, its step paid -/
def mdM (u : wo) (Gm : mj_G) (T c : Nat) (N : Nat) (B : Nat → Nat) (M : Nat) (S : Nat → Nat) (lc : Nat) (ln : Nat → Nat) (op : Nat) (ch : List en) (V : Nat → Nat → Option rv) (o : ost) (ra rd : Nat → Int32) (sp : Nat → Bool) (st hts : Nat) (FG : Nat → kfr) (p q : Nat) (e : Int32) (V' : Nat → Nat → Option rv) (o' : ost) (ra' rd' : Nat → Int32) (sp' : Nat → Bool) (st' hts' : Nat) (FG' : Nat → kfr) : Prop := ∀ (f : mm_F) (bg : Nat → Nat) (vc li LC : Nat) (ci : Int32) (CA tr : Nat), MM u f N B M S lc ln op ch V o ra rd sp st hts FG (nI 0) bg vc li LC ci CA tr (nI 320) → ∀ Q, q ≤ Q → Q ≤ u_n u T → (9 * tr + (Q - p) ≤ 72 * op + 80 ∧ 7 * N + (Q - p) ≤ 84 * op + 87) → 5 * vc ≤ 95 * op + p → ∀ D KK, (Q - p) + 90 * (12 - op) + 318 ≤ D → (∀ f' vc' fe, MM u f' N B M S lc ln op ch V' o' ra' rd' sp' st' hts' FG' e bg vc' li LC ci CA tr fe → mF tr LC CA f f' → 5 * vc' ≤ 95 * op + q → KK f') → tgD Gm D c T p f KK
section ZE
variable {u : wo} {fe : Int32} {Gm : mj_G} {f f1 f' : mm_F} {P S1 R1 : Nat → Prop} {e : Int32} {T p q m d k r : Nat} {K : mm_F → Prop} {v : rv} {N : Nat} {B : Nat → Nat} {M : Nat} {S : Nat → Nat} {lc : Nat} {ln : Nat → Nat} {op : Nat} {ch : List en} {V : Nat → Nat → Option rv} {o : ost} {ra rd : Nat → Int32} {sp : Nat → Bool} {st hts : Nat} {FG : Nat → kfr} {V' : Nat → Nat → Option rv} {o' : ost} {ra' rd' : Nat → Int32} {sp' : Nat → Bool} {st' hts' : Nat} {FG' : Nat → kfr} {bg : Nat → Nat} {vc li LC : Nat} {ci : Int32} {CA tr : Nat}
theorem sgM_md {A : Nat → Prop} {G : mj_G} {hm : Int32} {b : Int32} {L1 : List (Nat × Nat)} (hM : mm_S Gm) (hT : T < 10) (h10 : ∀ x, x ∈ ch → en_n x ≤ 10) (ht : tb_t k A G hm b r (u_w u T) p m L1) (hpm : p < m) (h36 : ¬ u_w u T (p + 1) = 36) :
    (st = u_bu u → sgM u Gm T N B M S lc ln op ch V o ra rd sp st hts FG p m (Int32.ofInt (-9)) V o ra rd sp st hts FG) ∧ (st < u_bu u → mdM u Gm T (u_w u T (p + 1)) N B M S lc ln op ch V o ra rd sp (st + 1) hts FG p m e V' o' ra' rd' sp' st' hts' FG' → sgM u Gm T N B M S lc ln op ch V o ra rd sp st hts FG p m e V' o' ra' rd' sp' st' hts' FG') := by
  refine ⟨fun hs => ?_, fun hs h => ?_⟩
  · intro f bg vc li LC ci CA tr hm Q hQ hn hb1 hb2 d K hd hk
    obtain ⟨d, rfl⟩ : ∃ x, d = x + 1 := ⟨d - 1, by omega⟩
    exact p_tag hM hT h10 hm ht hQ hn hpm (by omega) h36 (fun _ f' a1 a2 => (hk f' vc a1 a2 (by omega)).2 (by decide)) (fun q => absurd q (by omega))
  · intro f bg vc li LC ci CA tr hm Q hQ hn hb1 hb2 d K hd hk
    obtain ⟨d, rfl⟩ : ∃ x, d = x + 1 := ⟨d - 1, by omega⟩
    refine p_tag hM hT h10 hm ht hQ hn hpm (by omega) h36 (fun q => absurd q (by omega)) (fun _ f1 a1 a2 => ?_)
    refine h f1 bg vc li LC ci CA tr a1 Q hQ hn hb1 hb2 d _ (by omega) (fun f' vc' fe b1 b2 b3 => ?_)
    obtain ⟨c1, c2⟩ := MM_fe (y := nI 320) b1 h10
    obtain ⟨j1, j2⟩ := hk _ vc' c1 (mF_t a2 (mF_t b2 c2)) b3
    by_cases he : e = nI 0
    · exact j1 he
    · exact r3_x hM (by rw [c1.2.2.2.2.2.2.2.1]; exact he) (j2 he)
theorem mdM_t {c : Nat} {V1 : Nat → Nat → Option rv} {o1 : ost} {ra1 rd1 : Nat → Int32} {sp1 : Nat → Bool} {st1 hts1 : Nat} {FG1 : Nat → kfr} (h : mdM u Gm T c N B M S lc ln op ch V o ra rd sp st hts FG p q e V1 o1 ra1 rd1 sp1 st1 hts1 FG1) (h1 : V1 = V') (h2 : o1 = o') (h3 : ra1 = ra') (h4 : rd1 = rd') (h5 : sp1 = sp') (h6 : st1 = st') (h7 : hts1 = hts') (h8 : FG1 = FG') : mdM u Gm T c N B M S lc ln op ch V o ra rd sp st hts FG p q e V' o' ra' rd' sp' st' hts' FG' := by
  subst h1 h2 h3 h4 h5 h6 h7 h8
  exact h
end ZE
