/-! WHERE A TEMPLATE MAY END: kept fragments and includes, which stand in no tag -/
/-- a run of the outermost body, with sound fragments -/
def xk (u : wo) (ch : Int32) (lc : Nat) (ln : Nat → Nat) (S S' : Int32) (j : sj) : Prop := ∀ (n : Nat) (V : Nat → Nat → Option rv) (o : ost) (ra rd : Nat → Int32) (sp : Nat → Bool) (FG : Nat → kfr) (s1 : sS), VI u ch 1 V → OX o → SF u FG → bt S (cx o) → SBk u n j (1, (fun _ => 0), 0, (fun _ => 0), lc, ln, 0, []) (V, o, ra, rd, sp, FG) (nI 0) s1 → bt S' (cx s1.2.1) ∧ VI u ch 1 s1.1 ∧ SF u s1.2.2.2.2.2
section E0E
variable {u : wo} {G : mj_G} {ch : Int32} {A : Nat → Prop} {w : Nat → Nat} {n T lc : Nat} {ln : Nat → Nat} {Z : Nat → Prop} {b : Nat → List (Nat × Nat)}
theorem VI_VK {N : Nat} {V : Nat → Nat → Option rv} (h : VI u ch N V) : VK N V := ⟨h.1, fun s l v q => (h.2 s l v q).1.1.1⟩
theorem xk_nil {S : Int32} : xk u ch lc ln S S (jbd 0) := fun n V o ra rd sp FG s1 hV hO hF hS h => by
  cases n with
  | zero => exact h.elim
  | succ n =>
    rcases h with ⟨-, -, rfl⟩ | ⟨a, -⟩
    · exact ⟨hS, hV, hF⟩
    · exact absurd rfl a
theorem xk_cons {r : Nat} {S S1 S' : Int32} (h1 : xk u ch lc ln S S1 (jtg r)) (h2 : xk u ch lc ln S1 S' (jbd (mj_r (u_G u) r 10))) (hr : r ≠ 0) : xk u ch lc ln S S' (jbd r) := fun n V o ra rd sp FG s1 hV hO hF hS h => by
  cases n with
  | zero => exact h.elim
  | succ n =>
    rcases h with ⟨a, -⟩ | ⟨-, e1, s2, a1, a2⟩
    · exact absurd a hr
    · rcases a2 with ⟨b1, b2, -⟩ | ⟨rfl, b2⟩
      · exact absurd b2.symm b1
      · obtain ⟨V2, o2, ra2, rd2, sp2, FG2⟩ := s2
        obtain ⟨c1, c2, c3⟩ := h1 n V o ra rd sp FG _ hV hO hF hS a1
        exact h2 n V2 o2 ra2 rd2 sp2 FG2 s1 c2 (SBk_O a1 hO) c3 c1 b2
/-- one item of the outermost body keeps fragments sound -/
theorem SF_tag {m r k d : Nat} {V : Nat → Nat → Option rv} {o : ost} {ra rd : Nat → Int32} {sp : Nat → Bool} {FG : Nat → kfr} {e : Int32} {s1 : sS} (hW : NW u Z b) (hln : ∀ j, j < lc → ln j < 10) (hk : (k = 0 ∧ TZ u Z r) ∨ (k = 1 ∧ KN u r d) ∨ (k = 2 ∧ (∃ T p, nd u T r p 64) ∧ mj_i (u_G u) r 3 = nI d ∧ d < 10)) (hV : VK 1 V) (hF : SF u FG) (a2 : SBk u m (jtg r) (1, (fun _ => 0), 0, (fun _ => 0), lc, ln, 0, []) (V, o, ra, rd, sp, FG) e s1) : SF u s1.2.2.2.2.2 := by
  have hX : XZ Z lc ln [] := ⟨hln, fun y hy => nomatch hy⟩
  have hms := MS_all hW 11
  obtain ⟨hZ, hU, hD, hT⟩ := hW
  rcases hk with ⟨rfl, hz⟩ | ⟨rfl, hz⟩ | ⟨rfl, hz1, hz2, hz3⟩
  · rw [show s1.2.2.2.2.2 = FG from SBk_F hZ a2 (NJ_t hz) hX]
    exact hF
  · obtain ⟨hd, hd3, T, p, l0, w, src, n0, hT0, hp0, hpr, hK⟩ := hz
    have hl := KB_l hK
    rcases K_tag n0 hT0 hp0 hpr hd3 hd hK hU (fun s => Nat.zero_le s) (hV.1 1 l0 (Nat.le_refl 1)) (VK_vl hD hV hl) (Nat.le_refl 1) hF a2 with ⟨-, q⟩ | ⟨x1, x2, x3, x4⟩ | ⟨x1, x2, x3, x4⟩
    · rw [q]; exact hF
    · by_cases q : e = nI 0
      · obtain ⟨z1, z2, F1, z3, z4, -⟩ := x3 q
        rw [z3]
        intro i hi hs
        by_cases t : i = d
        · rw [t, g_us]; exact z4
        · rw [g_un t] at hs ⊢; exact hF i hi hs
      · rw [x4 q]; exact hF
    · rw [x4]; exact hF
  · rcases I_tag hz1 hz2 hz3 a2 with ⟨-, q⟩ | ⟨x1, x2, x3⟩ | ⟨x1, x2, n2, V1, o1, ra1, rd1, sp1, FG1, -, x3, rfl⟩
    · rw [q]; exact hF
    · rw [x3]; exact hF
    · obtain ⟨t1, t2⟩ := hT d hz3 x2
      exact hms (b d) _ 1 2 (e_bh (fun _ => 0) 1 1) (fun _ => 0) _ _ [] V o ra rd sp FG n2 e (V1, o1, ra1, rd1, sp1, FG1) rfl t1 (by decide) (VK_up hV) (bh_le (fun s => Nat.zero_le s)) ⟨t2, fun y hy => nomatch hy⟩ hF x3
theorem vw_in {l N : Nat} {y : Option Int32} {B : Nat → Nat} {V : Nat → Nat → Option rv} (hD : da (u_D u) (u_I u)) (hV : VI u ch N V) (hl : l < 26) : rv_in (u_D u) (vw y (e_vl (u_D u) B V l N)) := by
  unfold vw
  by_cases q : rv_t (e_vl (u_D u) B V l N) = 0
  · rw [if_pos q]
    cases y with
    | none => exact VI_in hD hV hl
    | some z => exact rv_inN
  · rw [if_neg q]
    exact VI_in hD hV hl
/-- a fragment's body, that puts a value out -/
theorem KB_mk {r l N src : Nat} {y : Option Int32} {B : Nat → Nat} {M : Nat} {S : Nat → Nat} {op : Nat} {cn : List en} {V : Nat → Nat → Option rv} {o : ost} {ra rd : Nat → Int32} {sp : Nat → Bool} {FG : Nat → kfr} (hK : KB u r l y src) (hv : rv_in (u_D u) (vw y (e_vl (u_D u) B V l N))) (he : (o_v src (vw y (e_vl (u_D u) B V l N)) o).1 = nI 0) : ∃ ra1 rd1, SB u (jbd (mj_r (u_G u) r 8)) (N, B, M, S, lc, ln, op, cn) (V, o, ra, rd, sp, FG) (nI 0) (V, (o_v src (vw y (e_vl (u_D u) B V l N)) o).2, ra1, rd1, sp, FG) := by
  obtain ⟨h0, h10, hE, T, p, hn, hT, hp, rfl⟩ := hK
  have s := SB.put (u := u) (N := N) (B := B) (M := M) (S := S) (lc := lc) (ln := ln) (op := op) (ch := cn) (V := V) (o := o) (ra := ra) (rd := rd) (sp := sp) (FG := FG) hn hT hp hv (KE_f hE)
  rw [he] at s
  exact ⟨_, _, SB.cons h0 s (by rw [h10]; exact SB.nil)⟩
/-- a kept fragment, as its body -/
theorem xk_k {r d : Nat} {S S' : Int32} (hW : NW u Z b) (hln : ∀ j, j < lc → ln j < 10) (hD : da (u_D u) (u_I u)) (hz : KN u r d) (h : xr u ch S S' (jbd (mj_r (u_G u) r 8))) : xk u ch lc ln S S' (jtg r) := fun m V o ra rd sp FG s1 hV hO hF hS a2 => by
  have hSF := SF_tag hW hln (Or.inr (Or.inl ⟨rfl, hz⟩)) (VI_VK hV) hF a2
  obtain ⟨hd, hd3, T, p, l0, w, src, n0, hT0, hp0, hpr, hK⟩ := hz
  have hl := KB_l hK
  have hin := vw_in (y := w) (B := fun _ => 0) hD hV hl
  rcases K_tag n0 hT0 hp0 hpr hd3 hd hK hW.2.1 (fun s => Nat.zero_le s) (hV.1 1 l0 (Nat.le_refl 1)) (VI_in (B := fun _ => 0) hD hV hl).1.1 (Nat.le_refl 1) hF a2 with ⟨q, -⟩ | ⟨x1, x2, x3, x4⟩ | ⟨x1, x2, x3, x4⟩
  · exact absurd q (by decide)
  · obtain ⟨z1, z2, -⟩ := x3 rfl
    obtain ⟨ra1, rd1, i, hi⟩ := KB_mk (lc := lc) (ln := ln) (M := 0) (S := fun _ => 0) (op := 0) (cn := []) (ra := ra) (rd := rd) (sp := sp) (FG := FG) hK hin x2.symm
    obtain ⟨c1, -⟩ := h i 1 _ _ _ _ _ _ _ V o ra rd sp FG _ (Nat.le_refl 1) (fun s => Nat.zero_le s) hV hO hS hi
    rw [z1, z2]
    exact ⟨c1, hV, hSF⟩
  · exact absurd x3 (by decide)
theorem xk_o {r k d : Nat} {S S' : Int32} (hW : NW u Z b) (hln : ∀ j, j < lc → ln j < 10) (hk : (k = 0 ∧ TZ u Z r) ∨ (k = 1 ∧ KN u r d) ∨ (k = 2 ∧ (∃ T p, nd u T r p 64) ∧ mj_i (u_G u) r 3 = nI d ∧ d < 10)) (h : xr u ch S S' (jtg r)) : xk u ch lc ln S S' (jtg r) := fun m V o ra rd sp FG s1 hV hO hF hS a2 => by
  obtain ⟨c1, c2⟩ := h m 1 _ _ _ _ _ _ _ V o ra rd sp FG s1 (Nat.le_refl 1) (fun s => Nat.zero_le s) hV hO hS a2
  exact ⟨c1, c2, SF_tag hW hln hk (VI_VK hV) hF a2⟩
/-- letters that are set are told -/
def gdS (w : Nat → Nat) (ch : Int32) (L : List (Nat × Nat)) : Prop := ∀ x, x ∈ L → w (x.1 + 1) = 37 → bt ch (w (x.1 + 2) - 97)
theorem xk_all (hS : cs_S G) (hWx : tx_W w n) (hw : u_w u T = w) (hT : T < 10) (hA : ∀ a, A a → mj_k G a = mj_k (u_G u) a ∧ (∀ j, mj_r G a j = mj_r (u_G u) a j) ∧ ∀ j, mj_i G a j = mj_i (u_G u) a j) (hD : da (u_D u) (u_I u)) (hDT : ∀ l, l < 26 → tme (u_D u l)) (hW : NW u Z b) (hln : ∀ j, j < lc → ln j < 10) (hP : ∀ {k : Nat} {b : Int32} {r p m : Nat} {L1 : List (Nat × Nat)}, tb_t k A (u_G u) (nI T) b r w p m L1 → ∀ x, x ∈ L1 → w (x.1 + 1) ≠ 107) : ∀ {k b r p q L l}, tb_B k A (u_G u) (nI T) b r w p q L → RB u Z l r → q ≤ n → gdS w ch L → ∀ (S : Int32) (dep : Nat), s8 S → dep ≤ p → ∃ S', s8 S' ∧ (∀ d K, 3 * (q - p) + 60 ≤ d → K S' G → Fo_through_16 d ch (nI dep) S r G K) ∧ xk u ch lc ln S S' (jbd r) ∧ (ne8 S → ne8 S')
  | 0, _, _, _, _, _, _, h, _, _, _ => h.elim
  | k + 1, b0, r, p, q, L, l, h, hR, hq, hg => by
    have hn := hWx.1
    intro S dep hs hdep
    rcases h with ⟨rfl, rfl, -⟩ | ⟨hAr, h2, h3, h4, h5, h6, h7, h7', h8, h9, h10⟩ | ⟨hAr, h2, h3, h4, h5, h6, h7, h8, e, m, L1, L2, he, hH, h125, rfl, h13, h14⟩
    · refine ⟨S, hs, fun d K hd hK => ?_, xk_nil, id⟩
      obtain ⟨d, rfl⟩ : ∃ e, d = e + 1 := ⟨d - 1, by omega⟩
      exact w_Fo_through_16 hS (z_bt rfl hK)
    · -- a literal
      have hl := tb_le h10
      have hpn : p < n := tx_in hWx h7'
      cases l with
      | nil => exact absurd hR h2
      | cons x l =>
        obtain ⟨kk, d0⟩ := x
        obtain ⟨-, hR2, hk⟩ := hR
        obtain ⟨g1, g2, g3⟩ := hA r hAr
        obtain ⟨S1, s1, s2, s3, s4⟩ := xs_litr (ch := ch) hS hWx hw hT hpn (g1.trans h3) ((g3 0).trans h8) ((g3 5).trans h9) h8 h4 h5 hs
        obtain ⟨S', t1, t2, t3, t4⟩ := xk_all hS hWx hw hT hA hD hDT hW hln hP h10 hR2 hq hg S1 dep s1 (by omega)
        refine ⟨S', t1, fun d K hd hK => ?_, xk_cons (xk_o hW hln hk s3) t3 h2, fun q => t4 (s4 q)⟩
        obtain ⟨d, rfl⟩ : ∃ e, d = e + 1 := ⟨d - 1, by omega⟩
        refine w_Fo_through_16 hS (z_bf h2 (s2 _ _ _ (by omega) ⟨g1.trans h3, ?_⟩))
        rw [g2 10]
        exact t2 (d + 1) K (by omega) hK
    · -- a tag
      have hl := tb_le h13
      have ht : tb_t k A (u_G u) (nI T) b0 r w p m L1 := ⟨h2, h3, h4, h5, h6, h7, h8, e, he, hH, h125, h14⟩
      have hpm : p + 3 ≤ m := by
        rcases h14 with ⟨-, rfl, -⟩ | ⟨-, -, -, q1, a2, -, -, -, rfl⟩ | ⟨-, q1, q2, La, Lb, a2, -, -, -, a6, -, -, -, rfl, -⟩
        · omega
        · have := tb_le a2
          omega
        · have := tb_le a2
          have := tb_le a6
          omega
      have hwl := tx_le hWx (p + 1)
      have hg1 : gdT w ch L1 := fun x hx => ⟨hP ht x hx, hg x (List.mem_cons_of_mem _ (List.mem_append.mpr (Or.inl hx)))⟩
      have hg2 : gdS w ch L2 := fun x hx => hg x (List.mem_cons_of_mem _ (List.mem_append.mpr (Or.inr hx)))
      cases l with
      | nil => exact absurd hR h2
      | cons x l =>
        obtain ⟨kk, d0⟩ := x
        obtain ⟨-, hR2, hk⟩ := hR
        obtain ⟨g1, g2, g3⟩ := hA r hAr
        have one : ∃ S1, s8 S1 ∧ (∀ d K, 3 * (m - p) + 58 ≤ d → K S1 G → Fo_behind d r S ch (nI dep) G K) ∧ xk u ch lc ln S S1 (jtg r) ∧ (ne8 S → ne8 S1) := by
          by_cases c7 : w (p + 1) = 107
          · rcases hk with ⟨-, hz⟩ | ⟨-, hz⟩ | ⟨-, ⟨T1, p1, hz⟩, -⟩
            · exact absurd c7 (hz _ (by omega) h8).2.1
            · obtain ⟨b', q1, a2, a3, a4, rfl⟩ : ∃ b' q1, tb_B k A (u_G u) (nI T) b' (mj_r (u_G u) r 8) w (e + 1) q1 L1 ∧ w q1 = 123 ∧ w (q1 + 1) = 59 ∧ m = q1 + 3 := by
                rcases h14 with ⟨a, -⟩ | ⟨-, -, -, q1, a1, a2, a3, a4, a5⟩ | ⟨a, -⟩
                · exact absurd (by unfold tx_B; omega) a
                · exact ⟨_, q1, a1, a2, a3, a5⟩
                · omega
              have hle := tb_le a2
              have hq1 : q1 < n := tx_in hWx (by omega)
              obtain ⟨S1, t1, t2, t3, t4⟩ := xs_thr hS (by omega) (xs_bod (ch := ch) hS hWx hw hT hA hD hDT a2 (Nat.le_of_lt hq1) hg1) S (dep + 1) hs (by omega)
              exact ⟨S1, t1, xc_tag hS hA hAr hWx ht c7 S1 (fun d K hd hK => ⟨fun q => absurd q (by decide), fun q => absurd q (by decide), fun q => absurd q (by decide), fun q => absurd q (by decide), fun q => absurd q (by decide), fun _ => t2 d K (by omega) hK, fun q => absurd q (by decide)⟩), xk_k hW hln hD hz t3, t4⟩
            · exact absurd (nkd (c7 ▸ h8) hz.2.2.2.2.2 (by decide) (by decide)) (by decide)
          · obtain ⟨S1, s1, s2, s3, s4⟩ := xs_tag (dep := dep) hS hWx hw hT hA hD hDT hAr ht hs hdep hg1 c7 (hg (p, r) (List.mem_cons_self ..)) (fun h hq hg => xs_bod hS hWx hw hT hA hD hDT h hq hg)
            exact ⟨S1, s1, s2, xk_o hW hln hk s3, s4⟩
        obtain ⟨S1, s1, s2, s3, s4⟩ := one
        obtain ⟨S', t1, t2, t3, t4⟩ := xk_all hS hWx hw hT hA hD hDT hW hln hP h13 hR2 hq hg2 S1 dep s1 (by omega)
        refine ⟨S', t1, fun d K hd hK => ?_, xk_cons s3 t3 h2, fun q => t4 (s4 q)⟩
        obtain ⟨d, rfl⟩ : ∃ e, d = e + 1 := ⟨d - 1, by omega⟩
        refine w_Fo_through_16 hS (z_bf h2 (s2 d _ (by omega) ⟨g1.trans h3, ?_⟩))
        rw [g2 10]
        exact t2 (d + 1) K (by omega) hK
end E0E
