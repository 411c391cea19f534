/-! THE BEGINNING, read off (wip/tools/gen9zzzm.py) -/
def zi (v : mv_I) (x : Int32) : Bool := match v with | .inl y => decide (y = x) | .inr _ => false
theorem zi_e {ρ : Nat → Int32} {v : mv_I} {x : Int32} (h : zi v x = true) : mv_dI ρ v = x := by
  cases v with
  | inl y => exact of_decide_eq_true h
  | inr k => exact absurd h (by show ¬ (false = true); decide)
section BM
variable {ρ : Nat → Int32} {t : Nat}
set_option maxRecDepth 1000000 in
theorem bm_r7_c : zb_all 10 (fun t => Nat.beq (mv_rc mw_h_a2.2.2 (7) (t)) (1594 + 8 * t)) = true := by decide +kernel
theorem bm_r7 (h : t < 10) : mj_r (mv_dG ρ mw_h_a2) (7) (t) = 1594 + 8 * t := zb_e (zb_of bm_r7_c t h)
set_option maxRecDepth 1000000 in
theorem bm_rt0_c : zb_all 10 (fun t => Nat.beq (mv_rc mw_h_a2.2.2 (1594 + 8 * t) (0)) (0)) = true := by decide +kernel
theorem bm_rt0 (h : t < 10) : mj_r (mv_dG ρ mw_h_a2) (1594 + 8 * t) (0) = 0 := zb_e (zb_of bm_rt0_c t h)
set_option maxRecDepth 1000000 in
theorem bm_rt4_c : zb_all 10 (fun t => Nat.beq (mv_rc mw_h_a2.2.2 (1594 + 8 * t) (4)) (1595 + 8 * t)) = true := by decide +kernel
theorem bm_rt4 (h : t < 10) : mj_r (mv_dG ρ mw_h_a2) (1594 + 8 * t) (4) = 1595 + 8 * t := zb_e (zb_of bm_rt4_c t h)
set_option maxRecDepth 1000000 in
theorem bm_rt5_c : zb_all 10 (fun t => Nat.beq (mv_rc mw_h_a2.2.2 (1594 + 8 * t) (5)) (1596 + 8 * t)) = true := by decide +kernel
theorem bm_rt5 (h : t < 10) : mj_r (mv_dG ρ mw_h_a2) (1594 + 8 * t) (5) = 1596 + 8 * t := zb_e (zb_of bm_rt5_c t h)
set_option maxRecDepth 1000000 in
theorem bm_rd_c : zb_all 26 (fun t => Nat.beq (mv_rc mw_h_a2.2.2 (12) (t)) (15 + 2 * t)) = true := by decide +kernel
theorem bm_rd (h : t < 26) : mj_r (mv_dG ρ mw_h_a2) (12) (t) = 15 + 2 * t := zb_e (zb_of bm_rd_c t h)
set_option maxRecDepth 1000000 in
theorem bm_rf3_c : zb_all 20 (fun t => Nat.beq (mv_rc mw_h_a2.2.2 (1674 + 2 * t) (3)) (2)) = true := by decide +kernel
theorem bm_rf3 (h : t < 20) : mj_r (mv_dG ρ mw_h_a2) (1674 + 2 * t) (3) = 2 := zb_e (zb_of bm_rf3_c t h)
set_option maxRecDepth 1000000 in
theorem bm_rg_c : zb_all 10 (fun t => Nat.beq (mv_rc mw_h_a2.2.2 (1597 + 8 * t) (0)) (0)) = true := by decide +kernel
theorem bm_rg (h : t < 10) : mj_r (mv_dG ρ mw_h_a2) (1597 + 8 * t) (0) = 0 := zb_e (zb_of bm_rg_c t h)
set_option maxRecDepth 1000000 in
theorem bm_v7_c : zb_all 320 (fun t => Nat.beq (mv_rc mw_h_a2.2.2 (67 + 2 * t) (7)) (2)) = true := by decide +kernel
theorem bm_v7 (h : t < 320) : mj_r (mv_dG ρ mw_h_a2) (67 + 2 * t) (7) = 2 := zb_e (zb_of bm_v7_c t h)
set_option maxRecDepth 1000000 in
theorem bm_s7_c : zb_all 40 (fun t => Nat.beq (mv_rc mw_h_a2.2.2 (1509 + 2 * t) (7)) (2)) = true := by decide +kernel
theorem bm_s7 (h : t < 40) : mj_r (mv_dG ρ mw_h_a2) (1509 + 2 * t) (7) = 2 := zb_e (zb_of bm_s7_c t h)
set_option maxRecDepth 1000000 in
theorem bm_f18_c : zb_all 200 (fun t => Nat.beq (mv_rc mw_h_a2.2.2 (707 + 4 * t) (18)) (0)) = true := by decide +kernel
theorem bm_f18 (h : t < 200) : mj_r (mv_dG ρ mw_h_a2) (707 + 4 * t) (18) = 0 := zb_e (zb_of bm_f18_c t h)
set_option maxRecDepth 1000000 in
theorem bm_fk_c : zb_all 520 (fun t => Nat.beq (mv_rc mw_h_a2.2.2 (fg_a t) (t % 26)) (0)) = true := by decide +kernel
theorem bm_fk (h : t < 520) : mj_r (mv_dG ρ mw_h_a2) (fg_a t) (t % 26) = 0 := zb_e (zb_of bm_fk_c t h)
set_option maxRecDepth 1000000 in
theorem bm_b4_c : zb_all 100 (fun t => Nat.beq (mv_rc mw_h_a2.2.2 (1595 + 8 * (t / 10)) (t % 10)) (0)) = true := by decide +kernel
theorem bm_b4 (h : t < 100) : mj_r (mv_dG ρ mw_h_a2) (1595 + 8 * (t / 10)) (t % 10) = 0 := zb_e (zb_of bm_b4_c t h)
set_option maxRecDepth 1000000 in
theorem bm_b5_c : zb_all 100 (fun t => Nat.beq (mv_rc mw_h_a2.2.2 (1596 + 8 * (t / 10)) (t % 10)) (0)) = true := by decide +kernel
theorem bm_b5 (h : t < 100) : mj_r (mv_dG ρ mw_h_a2) (1596 + 8 * (t / 10)) (t % 10) = 0 := zb_e (zb_of bm_b5_c t h)
set_option maxRecDepth 1000000 in
theorem bm_o0_c : zb_all 1 (fun t => Nat.beq (mv_rc mw_h_a2.2.2 (1589) (0)) (1590)) = true := by decide +kernel
theorem bm_o0 (h : t < 1) : mj_r (mv_dG ρ mw_h_a2) (1589) (0) = 1590 := zb_e (zb_of bm_o0_c t h)
set_option maxRecDepth 1000000 in
theorem bm_o2_c : zb_all 1 (fun t => Nat.beq (mv_rc mw_h_a2.2.2 (1589) (2)) (1591)) = true := by decide +kernel
theorem bm_o2 (h : t < 1) : mj_r (mv_dG ρ mw_h_a2) (1589) (2) = 1591 := zb_e (zb_of bm_o2_c t h)
set_option maxRecDepth 1000000 in
theorem bm_kt_c : zb_all 10 (fun t => Nat.beq (mv_kc mw_h_a2.2.2 (1594 + 8 * t)) (11)) = true := by decide +kernel
theorem bm_kt (h : t < 10) : mj_k (mv_dG ρ mw_h_a2) (1594 + 8 * t) = 11 := zb_e (zb_of bm_kt_c t h)
set_option maxRecDepth 1000000 in
theorem bm_k4_c : zb_all 10 (fun t => Nat.beq (mv_kc mw_h_a2.2.2 (1595 + 8 * t)) (35)) = true := by decide +kernel
theorem bm_k4 (h : t < 10) : mj_k (mv_dG ρ mw_h_a2) (1595 + 8 * t) = 35 := zb_e (zb_of bm_k4_c t h)
set_option maxRecDepth 1000000 in
theorem bm_k5_c : zb_all 10 (fun t => Nat.beq (mv_kc mw_h_a2.2.2 (1596 + 8 * t)) (35)) = true := by decide +kernel
theorem bm_k5 (h : t < 10) : mj_k (mv_dG ρ mw_h_a2) (1596 + 8 * t) = 35 := zb_e (zb_of bm_k5_c t h)
set_option maxRecDepth 1000000 in
theorem bm_kd_c : zb_all 26 (fun t => Nat.beq (mv_kc mw_h_a2.2.2 (15 + 2 * t)) (12)) = true := by decide +kernel
theorem bm_kd (h : t < 26) : mj_k (mv_dG ρ mw_h_a2) (15 + 2 * t) = 12 := zb_e (zb_of bm_kd_c t h)
set_option maxRecDepth 1000000 in
theorem bm_kf_c : zb_all 20 (fun t => Nat.beq (mv_kc mw_h_a2.2.2 (1674 + 2 * t)) (12)) = true := by decide +kernel
theorem bm_kf (h : t < 20) : mj_k (mv_dG ρ mw_h_a2) (1674 + 2 * t) = 12 := zb_e (zb_of bm_kf_c t h)
set_option maxRecDepth 1000000 in
theorem bm_kg_c : zb_all 520 (fun t => Nat.beq (mv_kc mw_h_a2.2.2 (fg_a t)) (41)) = true := by decide +kernel
theorem bm_kg (h : t < 520) : mj_k (mv_dG ρ mw_h_a2) (fg_a t) = 41 := zb_e (zb_of bm_kg_c t h)
set_option maxRecDepth 1000000 in
theorem bm_k2_c : zb_all 1 (fun t => Nat.beq (mv_kc mw_h_a2.2.2 (2)) (22)) = true := by decide +kernel
theorem bm_k2 (h : t < 1) : mj_k (mv_dG ρ mw_h_a2) (2) = 22 := zb_e (zb_of bm_k2_c t h)
set_option maxRecDepth 1000000 in
theorem bm_k1_c : zb_all 1 (fun t => Nat.beq (mv_kc mw_h_a2.2.2 (1)) (20)) = true := by decide +kernel
theorem bm_k1 (h : t < 1) : mj_k (mv_dG ρ mw_h_a2) (1) = 20 := zb_e (zb_of bm_k1_c t h)
set_option maxRecDepth 1000000 in
theorem bm_l4_c : zb_all 10 (fun t => Nat.beq (mv_lc mw_h_a2.2.2 (1595 + 8 * t)) (10)) = true := by decide +kernel
theorem bm_l4 (h : t < 10) : mj_l (mv_dG ρ mw_h_a2) (1595 + 8 * t) = 10 := (bg_l (by omega)).trans (zb_e (zb_of bm_l4_c t h))
set_option maxRecDepth 1000000 in
theorem bm_l5_c : zb_all 10 (fun t => Nat.beq (mv_lc mw_h_a2.2.2 (1596 + 8 * t)) (10)) = true := by decide +kernel
theorem bm_l5 (h : t < 10) : mj_l (mv_dG ρ mw_h_a2) (1596 + 8 * t) = 10 := (bg_l (by omega)).trans (zb_e (zb_of bm_l5_c t h))
set_option maxRecDepth 1000000 in
theorem bm_lg_c : zb_all 520 (fun t => Nat.beq (mv_lc mw_h_a2.2.2 (fg_a t)) (26)) = true := by decide +kernel
theorem bm_lg (h : t < 520) : mj_l (mv_dG ρ mw_h_a2) (fg_a t) = 26 := (bg_l (by unfold fg_a; omega)).trans (zb_e (zb_of bm_lg_c t h))
set_option maxRecDepth 1000000 in
theorem bm_it1_c : zb_all 10 (fun t => zi (mv_ic mw_h_a2.2.2 (1594 + 8 * t) (1)) (Int32.ofInt (-1))) = true := by decide +kernel
theorem bm_it1 (h : t < 10) : mj_i (mv_dG ρ mw_h_a2) (1594 + 8 * t) (1) = Int32.ofInt (-1) := (bg_i (by omega)).trans (zi_e (zb_of bm_it1_c t h))
set_option maxRecDepth 1000000 in
theorem bm_it3_c : zb_all 10 (fun t => zi (mv_ic mw_h_a2.2.2 (1594 + 8 * t) (3)) (0)) = true := by decide +kernel
theorem bm_it3 (h : t < 10) : mj_i (mv_dG ρ mw_h_a2) (1594 + 8 * t) (3) = 0 := (bg_i (by omega)).trans (zi_e (zb_of bm_it3_c t h))
set_option maxRecDepth 1000000 in
theorem bm_id0_c : zb_all 26 (fun t => zi (mv_ic mw_h_a2.2.2 (15 + 2 * t) (0)) (nI 1)) = true := by decide +kernel
theorem bm_id0 (h : t < 26) : mj_i (mv_dG ρ mw_h_a2) (15 + 2 * t) (0) = nI 1 := (bg_i (by omega)).trans (zi_e (zb_of bm_id0_c t h))
set_option maxRecDepth 1000000 in
theorem bm_id2_c : zb_all 26 (fun t => zi (mv_ic mw_h_a2.2.2 (15 + 2 * t) (2)) (nI 0)) = true := by decide +kernel
theorem bm_id2 (h : t < 26) : mj_i (mv_dG ρ mw_h_a2) (15 + 2 * t) (2) = nI 0 := (bg_i (by omega)).trans (zi_e (zb_of bm_id2_c t h))
set_option maxRecDepth 1000000 in
theorem bm_if0_c : zb_all 20 (fun t => zi (mv_ic mw_h_a2.2.2 (1674 + 2 * t) (0)) (nI 4)) = true := by decide +kernel
theorem bm_if0 (h : t < 20) : mj_i (mv_dG ρ mw_h_a2) (1674 + 2 * t) (0) = nI 4 := (bg_i (by omega)).trans (zi_e (zb_of bm_if0_c t h))
set_option maxRecDepth 1000000 in
theorem bm_if2_c : zb_all 20 (fun t => zi (mv_ic mw_h_a2.2.2 (1674 + 2 * t) (2)) (nI 1)) = true := by decide +kernel
theorem bm_if2 (h : t < 20) : mj_i (mv_dG ρ mw_h_a2) (1674 + 2 * t) (2) = nI 1 := (bg_i (by omega)).trans (zi_e (zb_of bm_if2_c t h))
set_option maxRecDepth 1000000 in
theorem bm_if4_c : zb_all 20 (fun t => zi (mv_ic mw_h_a2.2.2 (1674 + 2 * t) (4)) (nI 0)) = true := by decide +kernel
theorem bm_if4 (h : t < 20) : mj_i (mv_dG ρ mw_h_a2) (1674 + 2 * t) (4) = nI 0 := (bg_i (by omega)).trans (zi_e (zb_of bm_if4_c t h))
set_option maxRecDepth 1000000 in
theorem bm_i66_c : zb_all 1 (fun t => zi (mv_ic mw_h_a2.2.2 (6) (6)) (nI 1000)) = true := by decide +kernel
theorem bm_i66 (h : t < 1) : mj_i (mv_dG ρ mw_h_a2) (6) (6) = nI 1000 := (bg_i (by decide)).trans (zi_e (zb_of bm_i66_c t h))
set_option maxRecDepth 1000000 in
theorem bm_i67_c : zb_all 1 (fun t => zi (mv_ic mw_h_a2.2.2 (6) (7)) (nI 0)) = true := by decide +kernel
theorem bm_i67 (h : t < 1) : mj_i (mv_dG ρ mw_h_a2) (6) (7) = nI 0 := (bg_i (by decide)).trans (zi_e (zb_of bm_i67_c t h))
set_option maxRecDepth 1000000 in
theorem bm_i68_c : zb_all 1 (fun t => zi (mv_ic mw_h_a2.2.2 (6) (8)) (nI 0)) = true := by decide +kernel
theorem bm_i68 (h : t < 1) : mj_i (mv_dG ρ mw_h_a2) (6) (8) = nI 0 := (bg_i (by decide)).trans (zi_e (zb_of bm_i68_c t h))
set_option maxRecDepth 1000000 in
theorem bm_i31_c : zb_all 1 (fun t => zi (mv_ic mw_h_a2.2.2 (3) (1)) (nI 0)) = true := by decide +kernel
theorem bm_i31 (h : t < 1) : mj_i (mv_dG ρ mw_h_a2) (3) (1) = nI 0 := (bg_i (by decide)).trans (zi_e (zb_of bm_i31_c t h))
set_option maxRecDepth 1000000 in
theorem bm_i5_c : zb_all 26 (fun t => zi (mv_ic mw_h_a2.2.2 (5) (t)) (nI 15)) = true := by decide +kernel
theorem bm_i5 (h : t < 26) : mj_i (mv_dG ρ mw_h_a2) (5) (t) = nI 15 := (bg_i (by decide)).trans (zi_e (zb_of bm_i5_c t h))
set_option maxRecDepth 1000000 in
theorem bm_io1_c : zb_all 1 (fun t => zi (mv_ic mw_h_a2.2.2 (1589) (1)) (nI 0)) = true := by decide +kernel
theorem bm_io1 (h : t < 1) : mj_i (mv_dG ρ mw_h_a2) (1589) (1) = nI 0 := (bg_i (by decide)).trans (zi_e (zb_of bm_io1_c t h))
set_option maxRecDepth 1000000 in
theorem bm_io3_c : zb_all 1 (fun t => zi (mv_ic mw_h_a2.2.2 (1589) (3)) (nI 0)) = true := by decide +kernel
theorem bm_io3 (h : t < 1) : mj_i (mv_dG ρ mw_h_a2) (1589) (3) = nI 0 := (bg_i (by decide)).trans (zi_e (zb_of bm_io3_c t h))
set_option maxRecDepth 1000000 in
theorem bm_io5_c : zb_all 1 (fun t => zi (mv_ic mw_h_a2.2.2 (1589) (5)) (nI 0)) = true := by decide +kernel
theorem bm_io5 (h : t < 1) : mj_i (mv_dG ρ mw_h_a2) (1589) (5) = nI 0 := (bg_i (by decide)).trans (zi_e (zb_of bm_io5_c t h))
set_option maxRecDepth 1000000 in
theorem bm_i92_c : zb_all 1 (fun t => zi (mv_ic mw_h_a2.2.2 (1592) (0)) (nI 0)) = true := by decide +kernel
theorem bm_i92 (h : t < 1) : mj_i (mv_dG ρ mw_h_a2) (1592) (0) = nI 0 := (bg_i (by decide)).trans (zi_e (zb_of bm_i92_c t h))
set_option maxRecDepth 1000000 in
theorem bm_m17_c : zb_all 10 (fun t => zi (mv_ic mw_h_a2.2.2 (1717) (t)) (nI 0)) = true := by decide +kernel
theorem bm_m17 (h : t < 10) : mj_i (mv_dG ρ mw_h_a2) (1717) (t) = nI 0 := (bg_i (by decide)).trans (zi_e (zb_of bm_m17_c t h))
set_option maxRecDepth 1000000 in
theorem bm_m19_c : zb_all 20 (fun t => zi (mv_ic mw_h_a2.2.2 (1719) (t)) (nI 0)) = true := by decide +kernel
theorem bm_m19 (h : t < 20) : mj_i (mv_dG ρ mw_h_a2) (1719) (t) = nI 0 := (bg_i (by decide)).trans (zi_e (zb_of bm_m19_c t h))
set_option maxRecDepth 1000000 in
theorem bm_m20_c : zb_all 26 (fun t => zi (mv_ic mw_h_a2.2.2 (1720) (t)) (nI 0)) = true := by decide +kernel
theorem bm_m20 (h : t < 26) : mj_i (mv_dG ρ mw_h_a2) (1720) (t) = nI 0 := (bg_i (by decide)).trans (zi_e (zb_of bm_m20_c t h))
set_option maxRecDepth 1000000 in
theorem bm_m67_c : zb_all 1 (fun t => zi (mv_ic mw_h_a2.2.2 (1714) (67)) (nI 1000)) = true := by decide +kernel
theorem bm_m67 (h : t < 1) : mj_i (mv_dG ρ mw_h_a2) (1714) (67) = nI 1000 := (bg_i (by decide)).trans (zi_e (zb_of bm_m67_c t h))
set_option maxRecDepth 1000000 in
theorem bm_m61_c : zb_all 1 (fun t => zi (mv_ic mw_h_a2.2.2 (1714) (61)) (nI 0)) = true := by decide +kernel
theorem bm_m61 (h : t < 1) : mj_i (mv_dG ρ mw_h_a2) (1714) (61) = nI 0 := (bg_i (by decide)).trans (zi_e (zb_of bm_m61_c t h))
set_option maxRecDepth 1000000 in
theorem bm_m62_c : zb_all 1 (fun t => zi (mv_ic mw_h_a2.2.2 (1714) (62)) (nI 0)) = true := by decide +kernel
theorem bm_m62 (h : t < 1) : mj_i (mv_dG ρ mw_h_a2) (1714) (62) = nI 0 := (bg_i (by decide)).trans (zi_e (zb_of bm_m62_c t h))
set_option maxRecDepth 1000000 in
theorem bm_m64_c : zb_all 1 (fun t => zi (mv_ic mw_h_a2.2.2 (1714) (64)) (nI 0)) = true := by decide +kernel
theorem bm_m64 (h : t < 1) : mj_i (mv_dG ρ mw_h_a2) (1714) (64) = nI 0 := (bg_i (by decide)).trans (zi_e (zb_of bm_m64_c t h))
set_option maxRecDepth 1000000 in
theorem bm_m68_c : zb_all 1 (fun t => zi (mv_ic mw_h_a2.2.2 (1714) (68)) (nI 0)) = true := by decide +kernel
theorem bm_m68 (h : t < 1) : mj_i (mv_dG ρ mw_h_a2) (1714) (68) = nI 0 := (bg_i (by decide)).trans (zi_e (zb_of bm_m68_c t h))
set_option maxRecDepth 1000000 in
theorem bm_m69_c : zb_all 1 (fun t => zi (mv_ic mw_h_a2.2.2 (1714) (69)) (nI 0)) = true := by decide +kernel
theorem bm_m69 (h : t < 1) : mj_i (mv_dG ρ mw_h_a2) (1714) (69) = nI 0 := (bg_i (by decide)).trans (zi_e (zb_of bm_m69_c t h))
set_option maxRecDepth 1000000 in
theorem bm_m2_c : zb_all 1 (fun t => zi (mv_ic mw_h_a2.2.2 (1714) (2)) (nI 0)) = true := by decide +kernel
theorem bm_m2 (h : t < 1) : mj_i (mv_dG ρ mw_h_a2) (1714) (2) = nI 0 := (bg_i (by decide)).trans (zi_e (zb_of bm_m2_c t h))
set_option maxRecDepth 1000000 in
theorem bm_m49_c : zb_all 10 (fun t => zi (mv_ic mw_h_a2.2.2 (1749) (t)) (nI 0)) = true := by decide +kernel
theorem bm_m49 (h : t < 10) : mj_i (mv_dG ρ mw_h_a2) (1749) (t) = nI 0 := (bg_i (by decide)).trans (zi_e (zb_of bm_m49_c t h))
set_option maxRecDepth 1000000 in
theorem bm_m60_c : zb_all 1 (fun t => zi (mv_ic mw_h_a2.2.2 (1760) (0)) (nI 0)) = true := by decide +kernel
theorem bm_m60 (h : t < 1) : mj_i (mv_dG ρ mw_h_a2) (1760) (0) = nI 0 := (bg_i (by decide)).trans (zi_e (zb_of bm_m60_c t h))
set_option maxRecDepth 1000000 in
theorem bm_m63_c : zb_all 26 (fun t => zi (mv_ic mw_h_a2.2.2 (1763) (t)) (nI 15)) = true := by decide +kernel
theorem bm_m63 (h : t < 26) : mj_i (mv_dG ρ mw_h_a2) (1763) (t) = nI 15 := (bg_i (by decide)).trans (zi_e (zb_of bm_m63_c t h))
set_option maxRecDepth 1000000 in
theorem bm_hb1 : zb_all 1768 (fun a => !(Nat.beq (mv_kc mw_h_a2.2.2 a) 12) || (zi (mv_ic mw_h_a2.2.2 a 2) 0 || zi (mv_ic mw_h_a2.2.2 a 2) 1)) = true := by decide +kernel
set_option maxRecDepth 1000000 in
theorem bm_hb2 : zb_all 1768 (fun a => !(Nat.beq (mv_kc mw_h_a2.2.2 a) 22) || Nat.ble (mv_lc mw_h_a2.2.2 a) 10000) = true := by decide +kernel
set_option maxRecDepth 1000000 in
theorem bm_p1 : pw 1 2 (mv_dG (fun _ => 0) mw_h_a2) = 2120 := by decide +kernel
set_option maxRecDepth 1000000 in
theorem bm_p2 : pw 300 8 (mv_dG (fun _ => 0) mw_h_a2) = 328160 := by decide +kernel
theorem bm_pw {x y : Nat} : pw x y (mv_dG ρ mw_h_a2) = pw x y (mv_dG (fun _ => 0) mw_h_a2) := pw_c (fun _ _ => rfl) (fun _ _ => rfl) (fun _ _ => rfl) (fun _ _ => ⟨rfl, fun _ => rfl⟩)
theorem bm_hb : hb (mv_dG ρ mw_h_a2) := by
  refine ⟨fun a h => ?_, fun a h => ?_⟩
  · by_cases q : a < 1768
    · have q1 : a ≠ 1 := fun e => by rw [e, bm_k1 (t := 0) (by decide)] at h; exact absurd h (by decide)
      have h1 := zb_n (zb_of bm_hb1 a q) h
      rw [Bool.or_eq_true] at h1
      rw [bg_i q1]
      exact h1.elim (fun h2 => Or.inl (zi_e h2)) (fun h2 => Or.inr (zi_e h2))
    · rw [bg_k, bg_k0 (by omega)] at h
      exact absurd h (by decide)
  · by_cases q : a < 1768
    · have q1 : a ≠ 1 := fun e => by rw [e, bm_k1 (t := 0) (by decide)] at h; exact absurd h (by decide)
      rw [bg_l q1]
      exact Nat.le_of_ble_eq_true (zb_n (zb_of bm_hb2 a q) h)
    · rw [bg_k, bg_k0 (by omega)] at h
      exact absurd h (by decide)
end BM
