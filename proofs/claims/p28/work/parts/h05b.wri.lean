/-! TEMPLATES written -/
/-- what is typed: pieces, behind {<1} or nothing -/
def pre4 (w : Nat → Nat) (p0 : Nat) : Prop := p0 = 0 ∨ (p0 = 4 ∧ w 1 = 60 ∧ w 2 = 49 ∧ w 3 = 125)
def TX (s : lst) (p0 : Nat) (ls : List (List Nat)) : Prop := LT (ls_w s) (ls_n s) ls p0 ∧ (∀ l, l ∈ ls → l ∈ lp_t) ∧ pre4 (ls_w s) p0
section H05B
variable {s : lst} {H H1 H' : mj_G} {d k c m n p0 : Nat} {w : Nat → Nat} {x : Int32} {ls : List (List Nat)} {P : mj_O → mj_G → Prop}
theorem pre4_p (h : pre4 w p0) : ∀ j, j < p0 → w j = 123 → ¬ tx_T (w (j + 1)) := fun j hj h1 h2 => by
  rcases h with rfl | ⟨rfl, a, b, c⟩
  · omega
  · have : j = 0 ∨ j = 1 ∨ j = 2 ∨ j = 3 := by omega
    rcases this with rfl | rfl | rfl | rfl
    · have h3 : tx_T 60 := a ▸ h2
      unfold tx_T at h3
      omega
    · omega
    · omega
    · omega
theorem TX_n {l : List Nat} (hl : l ∈ lp_t) (hn : ls_n s + l.length ≤ 80) : ls_n (tyw l s) = ls_n s + l.length ∧ ls_w (tyw l s) = wap (ls_w s) (ls_n s) l := by
  rw [tyw_p l (lp_c hl).2 hn]
  exact ⟨rfl, rfl⟩
theorem TX_p {l : List Nat} (h : TX s p0 ls) (hl : l ∈ lp_t) (hn : ls_n s + l.length ≤ 80) : TX (tyw l s) p0 (ls ++ [l]) := by
  obtain ⟨e1, e2⟩ := TX_n (s := s) hl hn
  obtain ⟨h1, h2, h3⟩ := h
  have hp := LT_le h1
  refine ⟨?_, fun y hy => ?_, ?_⟩
  · rw [e1, e2]
    exact LT_ap h1
  · rcases List.mem_append.mp hy with q | q
    · exact h2 y q
    · rw [List.mem_singleton.mp q]
      exact hl
  · rcases h3 with q | ⟨q, a, b, c⟩
    · exact Or.inl q
    · refine Or.inr ⟨q, ?_, ?_, ?_⟩
      · rw [e2, wap_lt _ (by omega)]; exact a
      · rw [e2, wap_lt _ (by omega)]; exact b
      · rw [e2, wap_lt _ (by omega)]; exact c
theorem TX_I (hs : LQ s) (h : TX s p0 ls) : ∀ j, ls_w s j = 123 → tx_T (ls_w s (j + 1)) → inst (ls_w s) j := hI_of hs.2.1 h.1 h.2.1 (pre4_p h.2.2) (by omega)
/-- one more character behind them -/
theorem TX_c (hs : LQ (tyf c s)) (h : TX s p0 ls) : ∀ j, ls_w (tyf c s) j = 123 → tx_T (ls_w (tyf c s) (j + 1)) → inst (ls_w (tyf c s)) j := by
  by_cases q : 32 ≤ c ∧ c ≤ 126 ∧ ls_n s < 80
  · have e : tyf c s = ls_z s (ls_n s + 1) (g_u (ls_w s) (ls_n s) c) (ls_k s) := if_pos q
    rw [e] at hs ⊢
    have hp := LT_le h.1
    have hw : ∀ j, j < ls_n s → g_u (ls_w s) (ls_n s) c j = ls_w s j := fun j hj => g_un (by omega)
    refine hI_of (p0 := p0) (m := ls_n s) hs.2.1 (LT_cg hw h.1) h.2.1 (pre4_p ?_) (Nat.le_refl _)
    rcases h.2.2 with q | ⟨q, a, b, c⟩
    · exact Or.inl q
    · exact Or.inr ⟨q, (hw 1 (by omega)).trans a, (hw 2 (by omega)).trans b, (hw 3 (by omega)).trans c⟩
  · have e : tyf c s = s := if_neg q
    rw [e] at hs ⊢
    exact TX_I hs h
theorem n25 : (Int8.ofInt (25)).toInt32 = nI 25 := by decide +kernel
theorem lo_25 (z : Int32) : ∃ i, i < 25 ∧ lo z ((Int8.ofInt (25)).toInt32) = nI i := by
  rw [n25]
  exact lo_n z (by decide) (by decide)
/-- template(x) of what is typed -/
theorem w_111 (hI : ∀ j, ls_w s j = 123 → tx_T (ls_w s (j + 1)) → inst (ls_w s) j) (hd : 1200 ≤ d) (hs : OB k s H) : RX (d + 4) 14008 111 (fun _ => [none, none, none, none, none]) (fun a => [.inl x, .inl (Int32.ofInt (0)), .inr (.inr a)]) H (fun o H' => ∃ s' v', o = .inl (some (.inl v')) ∧ OB (k + 1000) s' H') := by
  obtain ⟨s', res, H', h1, -, h3, h4⟩ := k_tpl (x := x) (d := d + 2) hI (by omega) hs
  have hr := dw_0 (x1 := Int32.ofInt (0)) (x3 := Int32.ofInt (0)) (x4 := Int32.ofInt (0)) (by decide +kernel) h4 h3
  refine RX_b (fun a G Q _ h => rk_14008_111 h) ?_
  refine RX_c hr (fun a G Q T _ h hk => rc_14008_113 (R := fun v' G1 => wdv res = v' ∧ T G1) (rc_i h) (fun v' G1 hR => by
    obtain ⟨rfl, hT⟩ := hR
    exact hk G1 hT)) ?_
  exact RX_e (fun a G Q h => rk_14008_116 h) ⟨s', wdv res, rfl, h1⟩
theorem w_83 {v odd : Int32} (hI : ∀ j, ls_w s j = 123 → tx_T (ls_w s (j + 1)) → inst (ls_w s) j) (hd : 1200 ≤ d) (hs : OB k s H) : RX (d + 4) 14008 83 (fun a => [some (.inr (.inr a)), some (.inl v), some (.inl odd), none, none]) (fun _ => []) H (fun o H' => ∃ s' v', o = .inl (some (.inl v')) ∧ OB (k + 1000) s' H') := by
  by_cases q : odd = (0 : Int32)
  · refine RX_b (fun a G Q _ h => rk_14008_83 (fun _ => h) (fun q' => absurd q q')) ?_
    refine RX_b (fun a G Q _ h => rk_14008_103 h) ?_
    refine RX_b (fun a G Q _ h => rc_14008_108 (R := fun v' G1 => lo (v >>> (((Int8.ofInt (9)).toInt32) &&& 31)) (Int32.ofInt (4)) = v' ∧ G = G1) (q_low (by decide +kernel)) (fun v' G1 hR => by
      obtain ⟨rfl, rfl⟩ := hR
      exact h)) ?_
    exact w_111 hI hd hs
  · refine RX_b (fun a G Q _ h => rk_14008_83 (fun q' => absurd q' q) (fun _ => h)) ?_
    refine RX_b (fun a G Q _ h => rk_14008_89 h) ?_
    refine RX_b (fun a G Q _ h => rc_14008_95 (R := fun v' G1 => lo (v >>> (((Int8.ofInt (9)).toInt32) &&& 31)) ((Int8.ofInt (12)).toInt32) = v' ∧ G = G1) (q_low (by decide +kernel)) (fun v' G1 hR => by
      obtain ⟨rfl, rfl⟩ := hR
      exact h)) ?_
    refine RX_b (fun a G Q _ h => rk_14008_98 h) ?_
    exact w_111 hI hd hs
theorem w_62 {v odd : Int32} (hX : TX s p0 ls) (hd : 1200 ≤ d) (hs : OB k s H) : RX (d + 4) 14008 62 (fun a => [some (.inr (.inr a)), some (.inl v), some (.inl odd), none, none]) (fun _ => []) H (fun o H' => ∃ s' v', o = .inl (some (.inl v')) ∧ OB (k + 1001) s' H') := by
  by_cases q : odd = (0 : Int32)
  · refine RX_b (fun a G Q _ h => rk_14008_62 (fun _ => h) (fun q' => absurd q q')) ?_
    refine RX_m (w_83 (TX_I hs.1 hX) hd hs) ?_
    rintro o G ⟨s', v', h1, h2⟩
    exact ⟨s', v', h1, OB_m h2 (by omega)⟩
  · refine RX_b (fun a G Q _ h => rk_14008_62 (fun q' => absurd q' q) (fun _ => h)) ?_
    refine RX_b (fun a G Q _ h => rk_14008_66 h) ?_
    refine RX_b (fun a G Q _ h => rc_14008_75 (R := fun v' G1 => lo (v >>> (((Int8.ofInt (6)).toInt32) &&& 31)) ((Int8.ofInt (100)).toInt32) = v' ∧ G = G1) (q_low (by decide +kernel)) (fun v' G1 hR => by
      obtain ⟨rfl, rfl⟩ := hR
      exact h)) ?_
    refine RX_b (fun a G Q _ h => rk_14008_78 h) ?_
    obtain ⟨v1, H1, h1, h2⟩ := t_type (d := d + 2) (x := (Int8.ofInt (32)).toInt32 + lo (v >>> (((Int8.ofInt (6)).toInt32) &&& 31)) ((Int8.ofInt (100)).toInt32)) (by omega) hs
    refine RX_c h2 (fun a G Q T _ h hk => rc_14008_79 (R := fun v' G1 => v1 = v' ∧ T G1) (rc_i h) (fun v' G1 hR => by
      obtain ⟨rfl, hT⟩ := hR
      exact hk G1 hT)) ?_
    refine RX_b (fun a G Q _ h => rk_14008_82 h) ?_
    refine RX_m (w_83 (TX_c h1.1 hX) hd h1) ?_
    rintro o G ⟨s', v', h1, h2⟩
    exact ⟨s', v', h1, OB_m h2 (by omega)⟩
theorem w_loop {v odd : Int32} {B k0 C : Nat} (hB : B ≤ 80) (hC : C ≤ 4) (hd : 1200 ≤ d) : ∀ (m j k : Nat) (s : lst) (H : mj_G) (ls : List (List Nat)), j + m = C → k + 24 * m ≤ k0 → ls_n s + 18 * m ≤ B → TX s p0 ls → OB k s H → RX (d + 4) 14008 33 (fun a => [some (.inr (.inr a)), some (.inl v), some (.inl odd), some (.inl (nI C)), some (.inl (nI j))]) (fun _ => []) H (fun o H' => ∃ s' v', o = .inl (some (.inl v')) ∧ OB (k0 + 1001) s' H')
  | 0, j, k, s, H, ls, hj, hk, hn, hX, hs => by
    refine RX_b (fun a G Q _ h => rk_14008_33 (fun _ => h) (fun q => absurd (by rw [z_le (by omega) (by omega)]; omega) q)) ?_
    exact w_62 hX hd (OB_m hs (by omega))
  | m + 1, j, k, s, H, ls, hj, hk, hn, hX, hs => by
    refine RX_b (fun a G Q _ h => rk_14008_33 (fun q => absurd q (by rw [z_le (by omega) (by omega)]; omega)) (fun _ => h)) ?_
    refine RX_b (fun a G Q _ h => rk_14008_39 rfl h) ?_
    obtain ⟨i, hi, e⟩ := lo_25 (v >>> ((((Int32.ofInt (3)) * (nI j)) + (Int32.ofInt (5))) &&& 31))
    refine RX_b (fun a G Q _ h => rc_14008_50 (R := fun v' G1 => lo (v >>> ((((Int32.ofInt (3)) * (nI j)) + (Int32.ofInt (5))) &&& 31)) ((Int8.ofInt (25)).toInt32) = v' ∧ G = G1) (q_low (by decide +kernel)) (fun v' G1 hR => by
      obtain ⟨rfl, rfl⟩ := hR
      rw [e]
      exact h)) ?_
    obtain ⟨H1, h1, h2⟩ := t_pat hi hd hs
    have hl := lp_i hi
    have hlen := (lp_c hl).1
    obtain ⟨e1, -⟩ := TX_n (s := s) hl (by omega)
    refine RX_c h2 (fun a G Q T _ h hk => rc_14008_53 h hk) ?_
    refine RX_b (fun a G Q _ h => rk_14008_56 h) ?_
    have e3 : nI j + Int32.ofInt (1) = nI (j + 1) := z_add j 1
    rw [e3]
    exact w_loop hB hC hd m (j + 1) (k + 24) _ H1 _ (by omega) (by omega) (by rw [e1]; omega) (TX_p hX hl (by omega)) h1
theorem tl_w : tyl (2067542397 : Int64) byl = [123, 60, 49, 125] := by decide +kernel
theorem t_writes {v odd : Int32} (hd : 1200 ≤ d) (hs : OB k s H) : ∃ s' v' H', OB (k + 1106) s' H' ∧ RV (d + 4) 14008 [some (.inl v), some (.inl odd), none, none] (.inl (some (.inl v'))) H H' := by
  have h : RX (d + 4) 14008 0 (fun a => [some (.inr (.inr a)), some (.inl v), some (.inl odd), none, none]) (fun _ => []) H (fun o H' => ∃ s' v', o = .inl (some (.inl v')) ∧ OB (k + 1106) s' H') := by
    refine RX_b (fun a G Q _ h => rk_14008_0 h) ?_
    obtain ⟨s1, res, H1, h1, ⟨rfl, rfl⟩, h3, h4⟩ := k_wipe (d := d + 3) (by omega) hs
    refine RX_c h4 (fun a G Q T hk13 h hk => rc_14008_1 (R := fun v' G1 => nI (ls_n s) = v' ∧ T G1) hk13 (rc_i h) (fun v' G1 hR => by
      obtain ⟨rfl, hT⟩ := hR
      exact hk G1 hT)) ?_
    obtain ⟨r, hr, e⟩ := and_n (v >>> (((Int8.ofInt (7)).toInt32) &&& 31)) (m := 3) (by decide)
    have fin : ∀ (s2 : lst) (H2 : mj_G) (p0 : Nat) (ls : List (List Nat)), TX s2 p0 ls → ls_n s2 ≤ 4 → OB (k + 9) s2 H2 → RX (d + 4) 14008 21 (fun a => [some (.inr (.inr a)), some (.inl v), some (.inl odd), none, none]) (fun _ => []) H2 (fun o H' => ∃ s' v', o = .inl (some (.inl v')) ∧ OB (k + 1106) s' H') := fun s2 H2 p0 ls hX hn hs2 => by
      refine RX_b (fun a G Q _ h => rk_14008_21 rfl h) ?_
      have e1 : Int32.ofInt (1) + (v >>> (((Int8.ofInt (7)).toInt32) &&& 31) &&& Int32.ofInt (3)) = nI (1 + r) := by
        rw [show Int32.ofInt (3) = nI 3 from rfl, e, ← z_add]
        rfl
      rw [e1]
      exact w_loop (B := 80) (k0 := k + 105) (C := 1 + r) (Nat.le_refl _) (by omega) hd (1 + r) 0 (k + 9) s2 H2 ls (by omega) (by omega) (by omega) hX hs2
    by_cases q : ((v) >>> ((Int32.ofInt (4)) &&& 31)) &&& ((Int8.ofInt (7)).toInt32) = (0 : Int32)
    · refine RX_b (fun a G Q _ h => rk_14008_4 rfl (fun q' => absurd q q') (fun _ => h)) ?_
      refine RX_b (fun a G Q _ h => rk_14008_14 h) ?_
      obtain ⟨H2, g1, g2⟩ := t_types (d := d + 1) (y := (2067542397 : Int64)) (by omega) h1
      refine RX_c g2 (fun a G Q T _ h hk => rc_14008_18 h hk) ?_
      rw [tl_w] at g1
      have e2 : tyw [123, 60, 49, 125] (ls_z s 0 (fun _ => 0) (ls_k s)) = ls_z (ls_z s 0 (fun _ => 0) (ls_k s)) (0 + 4) (wap (fun _ => 0) 0 [123, 60, 49, 125]) (ls_k s) := tyw_p _ (fun c hc => by
        have : c = 123 ∨ c = 60 ∨ c = 49 ∨ c = 125 := by simpa using hc
        omega) (by show 0 + 4 ≤ 80; decide)
      rw [e2] at g1
      have hX4 : TX (ls_z (ls_z s 0 (fun _ => 0) (ls_k s)) (0 + 4) (wap (fun _ => 0) 0 [123, 60, 49, 125]) (ls_k s)) 4 [] := ⟨rfl, fun l hl => absurd hl List.not_mem_nil, Or.inr ⟨rfl, rfl, rfl, rfl⟩⟩
      exact fin _ H2 4 [] hX4 (Nat.le_refl 4) (OB_m g1 (by omega))
    · refine RX_b (fun a G Q _ h => rk_14008_4 rfl (fun _ => h) (fun q' => absurd q' q)) ?_
      have hX0 : TX (ls_z s 0 (fun _ => 0) (ls_k s)) 0 [] := ⟨rfl, fun l hl => absurd hl List.not_mem_nil, Or.inl rfl⟩
      exact fin _ H1 0 [] hX0 (Nat.zero_le 4) (OB_m h1 (by omega))
  obtain ⟨o, H', ⟨s', v', rfl, h1⟩, h2⟩ := RX_v h
  exact ⟨s', v', H', h1, h2⟩
end H05B
