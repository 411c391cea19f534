/-! THE CALLS OF THE LAW: rendering -/
/-- as opJ, with both heaps at hand -/
def opK (Cl : Nat → mj_G → (Int32 ⊕ Nat → mj_G → Prop) → Prop) (Mo : mj_G → Nat → mm_F → (Int32 → mm_F → Prop) → Prop) (c : Nat → Nat) : Prop := ∀ Gm s ρ G f, mm_S Gm → LQ s → LC s ρ G → LM s f → ∃ s' res, LQ s' ∧ (∀ k, res = .inr k → c k ≠ 0) ∧ (∀ d K, 1200 ≤ d → (∀ ρ' G', LC s' ρ' G' → yF G G' → K res G') → Cl d G K) ∧ ∀ d K, 1800 ≤ d → (∀ f' v, LM s' f' → rJ c res v (f' 1714 0) → K v f') → Mo Gm d f K
theorem opK_of {Cl : Nat → mj_G → (Int32 ⊕ Nat → mj_G → Prop) → Prop} {Mo : mj_G → Nat → mm_F → (Int32 → mm_F → Prop) → Prop} {c : Nat → Nat} (h : opJ Cl Mo c) : opK Cl Mo c := fun Gm s ρ G f hM hs hC hL => by
  obtain ⟨s', res, a1, a2, a3, a4⟩ := h s hs
  exact ⟨s', res, a1, a2, fun d K hd hK => a3 d ρ G K hd hC hK, fun d K hd hK => a4 Gm d f K hd hM hL hK⟩
/-- the world with another output of the time before -/
def wo_r (u : wo) (x n : Nat) (c : Nat → Nat) : wo := (u.1, u.2.1, u.2.2.1, (u.2.2.2.1, (x, n, c)))
section ZZZ4
variable {s : lst} {ρ ρ' : Nat → Nat} {G G1 G' : mj_G} {f f' : mm_F} {W : Nat → Prop} {o o1 : ost}
theorem yR_fw (hG : 1768 ≤ mj_n G) (F : fw ρ W G G') (hW : ∀ a, (a = 1 ∨ 1714 ≤ a) → a ≤ 1767 → ¬ W a) : yR 0 0 G G' := ⟨fun a ha => ⟨(F.2.2.2 a ha).1, (F.2.2.2 a ha).2.1⟩, fun a j q1 q2 => by
  have := ce_lo hG (f0_fw F) (a := a) (by omega) (hW a q1 q2)
  exact ⟨this.2 j, this.1 j⟩, F.1, F.2.1, F.2.2.1⟩
theorem oC_z (h : oC G (o_z o1)) (ho : o_ok o) : oC G (o_z o) := by
  obtain ⟨k1, k2, k3, k4, k5, k6⟩ := h
  refine ⟨o_zk ho, k2, k3, k4, fun i hi => absurd hi (Nat.not_lt_zero i), fun i hi => ?_⟩
  have hi0 : i = 0 := Nat.le_zero.mp hi
  subst hi0
  rw [k6 0 (Nat.le_refl _)]
  show nI (o_x (o_z o1) 0) = nI (o_x o 0)
  rw [k1.2.1, ho.2.1]
theorem op_render {x : Int32} : opK (fun d G K => Tq_render d x G K) (fun Gm d f K => m_render Gm d x f K) c17 := fun Gm s ρ G f hM hs h hL => by
  have hG := hh_n h.1
  have ho := hs.2.2.2.1
  rcases di_x (x := x) with ⟨t, ht, rfl, hq⟩ | ⟨hq, hx⟩
  case inr =>
    refine ⟨s, .inr 17, hs, fun _ q => (by cases q; decide), fun d K hd hK => ?_, fun d K hd hK => ?_⟩
    · obtain ⟨d, rfl⟩ : ∃ y, d = y + 1 := ⟨d - 1, by omega⟩
      obtain ⟨a1, a2⟩ := LC_al (kd := 18) (len := 6) h (by decide)
      have hk := hK ρ _ a1 (yR_F a2 (by decide) (by decide))
      refine w_Tq_render h.1.1 (by omega) ?_
      rcases hx with hx | ⟨hx, hx'⟩
      · exact z_bt hx hk
      · exact z_bf hx (z_bf hx' hk)
    · obtain ⟨d, rfl⟩ : ∃ y, d = y + 1 := ⟨d - 1, by omega⟩
      exact w_m_render hM (by omega) (z_bf hq (w_m_holds hM (z_bf (by decide) (z_bf (by decide) (hK _ _ (LM_0 hL) (rJ_x z_u2s))))))
  obtain ⟨e, o', st', hts', FG', r1, r2, r3⟩ := run_J (u := wo_r (ls_u s) (mj_r G 1589 0) (o_n (ls_o s)) (o_c (ls_o s))) (oP := ls_o s) (FG := ls_F s) hM hs.1 ht
  have run : ∀ d K, 303 ≤ d → (∀ ρ' G' o1, rE (wo_r (ls_u s) (mj_r G 1589 0) (o_n (ls_o s)) (o_c (ls_o s))) ρ G (if e = nI 0 then o' else o_z o1) st' hts' FG' ρ' G' → K (if e = nI 0 then nI (o_n o') else e) G') → Rn_run (d + 1) (nI t) G K := fun d K hd hK => r2 ρ G d K h.1 h.2.1.1 h.2.2.1 h.2.2.2.1.1 h.2.2.2.2.1.1 h.2.2.2.1.2.1 h.2.2.2.1.2.2.1 rfl rfl rfl hd hK
  have hok : e = nI 0 → o_ok o' := by
    have hr := run 400 (fun _ _ => e = nI 0 → o_ok o') (by decide) (fun ρ' G' o1 hE he => by
      have := hE.2.2.2.2.2.1.1.1
      rw [if_pos he] at this
      exact this)
    obtain ⟨o2, G2, ⟨v, -, -, hk⟩, -⟩ := mj_X_det hr
    exact hk
  have hbu : u_bu (ls_u s) ≤ 2000 := hs.1.2.1
  have hst : st' ≤ u_bu (ls_u s) := r1
  refine ⟨(wo_r (ls_u s) (mj_r G 1589 0) (o_n (ls_o s)) (o_c (ls_o s)), FG', (if e = nI 0 then o' else o_z (ls_o s)), (o_n (ls_o s), o_c (ls_o s)), (st', hts'), (ls_n s, ls_w s), ls_k s), .inl (if e = nI 0 then nI (o_n o') else e), ⟨hs.1, hs.2.1, hs.2.2.1, ?_, ho.1, fun i hi => ⟨(ho.2.2 i hi).1, (ho.2.2 i hi).2.1, (ho.2.2 i hi).2.2.1⟩, (by show st' ≤ 2000; omega)⟩, fun _ q => (by cases q), fun d K hd hK => ?_, fun d K hd hK => ?_⟩
  · show o_ok (if e = nI 0 then o' else o_z (ls_o s))
    by_cases he : e = nI 0
    · rw [if_pos he]; exact hok he
    · rw [if_neg he]; exact o_zk ho
  · obtain ⟨d, rfl⟩ : ∃ y, d = y + 2 := ⟨d - 2, by omega⟩
    refine w_Tq_render h.1.1 (by omega) ?_
    rw [z_lt (by omega) (by decide), z_lt (by omega) (by decide)]
    refine z_bf (by omega) (z_bt ht (run d _ (by omega) (fun ρ' G' o1 hE => ?_)))
    obtain ⟨e1, e2, e3, e4, e5, e6, e7⟩ := hE
    have nb : ∀ a, bW a → a = 6 ∨ a = 11 ∨ (67 ≤ a ∧ a ≤ 1593) ∨ (1594 ≤ a ∧ a ≤ 1673) ∨ 2000 ≤ a := fun a q => by
      have := q.1
      unfold gW at this
      omega
    have F0 := f0_fw e3
    refine hK ρ' G' ⟨e1, ⟨e4, (wY_f0 h.1 h.2.1 F0 e2 (fun o q => bW_im q)).2⟩, e7, ⟨?_, ?_, ?_, e6.2.2.2.2.1, ?_⟩, ⟨e5.1, e5.2.1, e5.2.2.1⟩, yT_f hG h.2.2.2.2.2.1 F0 ⟨fun q => by have := nb _ q; omega, fun q => by have := nb _ q; omega⟩, yS_f hG h.2.2.2.2.2.2 F0 (fun q => by have := nb _ q; omega)⟩ (yR_F (yR_fw hG e3 (fun a q1 q2 q => by have := nb _ q; omega)) (by decide) (by decide))
    · show oC G' (if e = nI 0 then o' else o_z (ls_o s))
      have h6 := e6.1
      by_cases he : e = nI 0
      · rw [if_pos he] at h6 ⊢; exact h6
      · rw [if_neg he] at h6 ⊢; exact oC_z h6 ho
    · rw [e6.2.1]; exact e6.2.2.2.1
    · rw [e6.2.1]; exact fun q => e6.2.2.1 q.symm
    · intro i hi
      rw [e6.2.1]
      exact e6.2.2.2.2.2 i hi
  · obtain ⟨d, rfl⟩ : ∃ y, d = y + 1 := ⟨d - 1, by omega⟩
    have k0 := LM_0 (x := nI 0) hL
    have z0 : (mj_u2 f 1714 0 (nI 0)) 1714 0 = nI 0 := z_u2s
    refine w_m_render hM (by omega) (z_bt hq (w_m_holds hM (z_bt rfl (z_bt rfl ?_))))
    generalize mj_u2 f 1714 0 (nI 0) = f0' at k0 z0 ⊢
    obtain ⟨⟨oQ, q1, q2, q3⟩, q4, q5⟩ := k0.2.2.1
    refine r3 f0' oQ d K k0.1 k0.2.1 q1 ho (by omega) (fun f' oE b1 b2 b3 b4 b5 b6 b7 b8 b9 b10 => ?_)
    have nr : ∀ a, rR2 a → (1733 ≤ a ∧ a ≤ 1762) ∨ a = 1766 := fun a q => by
      unfold rR2 rR at q
      omega
    have ns : ∀ j, rS2 j → 21 ≤ j := fun j q => by
      unfold rS2 rS at q
      omega
    refine hK f' _ ⟨b1, b4, ⟨⟨oE, b5, ?_, fun i hi => ?_⟩, b8.trans (by rw [q2]; rfl), fun i hi => ?_⟩, ⟨b2, b3⟩, ⟨(b10.2.1 2 (fun q => by have := ns _ q; omega)).trans k0.2.2.2.2.1.1, fun k hk => (b10.1 1715 k (by decide) (by decide) (fun q => by have := nr _ q; omega)).trans (k0.2.2.2.2.1.2 k hk)⟩, fun i hi => (b10.1 1763 i (by decide) (by decide) (fun q => by have := nr _ q; omega)).trans (k0.2.2.2.2.2 i hi)⟩ (rJ_v rfl ((b10.2.1 0 (fun q => by have := ns _ q; omega)).trans z0))
    · show o_n oE = o_n (if e = nI 0 then o' else o_z (ls_o s))
      by_cases he : e = nI 0
      · rw [if_pos he, b6 he]
      · rw [if_neg he, b7 he]; rfl
    · have hi' : i < o_n (if e = nI 0 then o' else o_z (ls_o s)) := hi
      show o_c oE i = o_c (if e = nI 0 then o' else o_z (ls_o s)) i
      by_cases he : e = nI 0
      · rw [if_pos he, b6 he]
      · rw [if_neg he] at hi'
        exact absurd hi' (Nat.not_lt_zero i)
    · have hi' : i < o_n (ls_o s) := hi
      rw [b9 i (by omega), q3 i hi']
      rfl
end ZZZ4
