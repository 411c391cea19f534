/-! TAGS ARE READ -/
section MT
variable {G : mj_G} {d : Nat} {f : mm_F} {K : Bool → mm_F → Prop}
theorem mh_61 : mh_H 61 G d f K = mh_E G d f K := if_pos (by decide)
theorem mh_63 : mh_H 63 G d f K = mh_E G d f K := if_pos (by decide)
theorem mh_42 : mh_H 42 G d f K = m_takesLetter G d f (fun v f1 => mm_br (v = true) (mh_E G d f1 K) (K false f1)) := (if_neg (by decide)).trans (if_pos (by decide))
theorem mh_43 : mh_H 43 G d f K = mh_P G d f K := (if_neg (by decide)).trans ((if_neg (by decide)).trans ((if_neg (by decide)).trans ((if_neg (by decide)).trans (if_pos (by decide)))))
theorem mh_35 : mh_H 35 G d f K = m_takesDigit G d f (fun v f1 => mm_br (v = true) (mh_P G d f1 K) (K false f1)) := (if_neg (by decide)).trans ((if_neg (by decide)).trans ((if_neg (by decide)).trans (if_pos (by decide))))
theorem mh_107 : mh_H 107 G d f K = m_takesDigit G d f (fun v f1 => mm_br (v = true) (mh_P G d f1 K) (K false f1)) := (if_neg (by decide)).trans ((if_neg (by decide)).trans ((if_neg (by decide)).trans (if_pos (by decide))))
theorem mh_94 : mh_H 94 G d f K = mh_P G d f K := (if_neg (by decide)).trans ((if_neg (by decide)).trans ((if_neg (by decide)).trans ((if_neg (by decide)).trans (if_pos (by decide)))))
theorem mh_126 : mh_H 126 G d f K = mh_P G d f K := (if_neg (by decide)).trans ((if_neg (by decide)).trans ((if_neg (by decide)).trans ((if_neg (by decide)).trans (if_pos (by decide)))))
theorem mh_45 : mh_H 45 G d f K = mh_P G d f K := (if_neg (by decide)).trans ((if_neg (by decide)).trans ((if_neg (by decide)).trans ((if_neg (by decide)).trans (if_pos (by decide)))))
theorem mh_64 : mh_H 64 G d f K = m_takesDigit G d f (fun v f1 => mm_br (v = true) (mh_P G d f1 K) (K false f1)) := (if_neg (by decide)).trans ((if_neg (by decide)).trans ((if_neg (by decide)).trans (if_pos (by decide))))
theorem mh_36 : mh_H 36 G d f K = m_takesDigit G d f (fun v f1 => mm_br (v = true) (m_takesParameters G d f1 (fun v f2 => mm_br (v = true) (K true f2) (K false f2))) (K false f1)) := (if_neg (by decide)).trans ((if_neg (by decide)).trans ((if_neg (by decide)).trans ((if_neg (by decide)).trans ((if_neg (by decide)).trans (if_pos (by decide))))))
theorem mh_33 : mh_H 33 G d f K = m_takesDigit G d f (fun v f1 => mm_br (v = true) (m_takesArguments G d f1 (fun v f2 => mm_br (v = true) (K true f2) (K false f2))) (K false f1)) := (if_neg (by decide)).trans ((if_neg (by decide)).trans ((if_neg (by decide)).trans ((if_neg (by decide)).trans ((if_neg (by decide)).trans (if_neg (by decide))))))
theorem mh_38 : mh_H 38 G d f K = m_takesDigit G d f (fun v f1 => mm_br (v = true) (m_takesArguments G d f1 (fun v f2 => mm_br (v = true) (K true f2) (K false f2))) (K false f1)) := (if_neg (by decide)).trans ((if_neg (by decide)).trans ((if_neg (by decide)).trans ((if_neg (by decide)).trans ((if_neg (by decide)).trans (if_neg (by decide))))))
theorem mh_37 : mh_H 37 G d f K = m_takesLetter G d f (fun v f1 => mm_br (v = true) (mh_E G d f1 K) (K false f1)) := (if_neg (by decide)).trans (if_pos (by decide))
theorem mh_116 : mh_H 116 G d f K = m_takesDigit G d f (fun v f1 => mm_br (v = true) (mh_E G d f1 K) (K false f1)) := (if_neg (by decide)).trans ((if_neg (by decide)).trans (if_pos (by decide)))
theorem mb_61 : mb_H 61 G d f K = K true f := (if_neg (by decide)).trans ((if_neg (by decide)).trans (if_neg (by decide)))
theorem mb_63 : mb_H 63 G d f K = m_takesChoice G d f (fun v f1 => mm_br (v = true) (K true f1) (K false f1)) := if_pos (by decide)
theorem mb_42 : mb_H 42 G d f K = m_takesChoice G d f (fun v f1 => mm_br (v = true) (K true f1) (K false f1)) := if_pos (by decide)
theorem mb_43 : mb_H 43 G d f K = m_takesBody G d (nI 1) (nI 0) f (fun v f1 => mm_br (v = nI 3) (m_takesClosed G d f1 (fun v f2 => mm_br (v = true) (K true f2) (K false f2))) (K false f1)) := (if_neg (by decide)).trans (if_pos (by decide))
theorem mb_35 : mb_H 35 G d f K = m_takesClosed G d f (fun v f1 => mm_br (v = true) (K true f1) (K false f1)) := (if_neg (by decide)).trans ((if_neg (by decide)).trans (if_pos (by decide)))
theorem mb_107 : mb_H 107 G d f K = m_takesClosed G d f (fun v f1 => mm_br (v = true) (K true f1) (K false f1)) := (if_neg (by decide)).trans ((if_neg (by decide)).trans (if_pos (by decide)))
theorem mb_94 : mb_H 94 G d f K = K true f := (if_neg (by decide)).trans ((if_neg (by decide)).trans (if_neg (by decide)))
theorem mb_126 : mb_H 126 G d f K = K true f := (if_neg (by decide)).trans ((if_neg (by decide)).trans (if_neg (by decide)))
theorem mb_45 : mb_H 45 G d f K = K true f := (if_neg (by decide)).trans ((if_neg (by decide)).trans (if_neg (by decide)))
theorem mb_64 : mb_H 64 G d f K = K true f := (if_neg (by decide)).trans ((if_neg (by decide)).trans (if_neg (by decide)))
theorem mb_36 : mb_H 36 G d f K = m_takesClosed G d f (fun v f1 => mm_br (v = true) (K true f1) (K false f1)) := (if_neg (by decide)).trans ((if_neg (by decide)).trans (if_pos (by decide)))
theorem mb_33 : mb_H 33 G d f K = K true f := (if_neg (by decide)).trans ((if_neg (by decide)).trans (if_neg (by decide)))
theorem mb_38 : mb_H 38 G d f K = m_takesClosed G d f (fun v f1 => mm_br (v = true) (K true f1) (K false f1)) := (if_neg (by decide)).trans ((if_neg (by decide)).trans (if_pos (by decide)))
theorem mb_37 : mb_H 37 G d f K = K true f := (if_neg (by decide)).trans ((if_neg (by decide)).trans (if_neg (by decide)))
theorem mb_116 : mb_H 116 G d f K = K true f := (if_neg (by decide)).trans ((if_neg (by decide)).trans (if_neg (by decide)))
theorem mh_rb {b : Bool} (h : mm_br (b = true) (K true f) (K false f)) : K b f := by
  cases b with
  | true => exact h.1 rfl
  | false => exact h.2 (by decide)
end MT
section TG
variable {w : Nat → Nat} {n : Nat}
/-- the model at a tag -/
theorem c_takesTag {p d : Nat} {G : mj_G} {f : mm_F} {K : Bool → mm_F → Prop} (hS : mm_S G) (hW : tx_W w n) (hT : pt_T f w n) (hd : 1 ≤ d) (hp : p + 1 ≤ n) (h : tx_T (w (p + 1)) → mh_H (w (p + 1)) G d (pt_a f (p + 2)) (fun b f1 => bif b then mb_H (w (p + 1)) G d f1 K else K false f1)) (h0 : ¬ tx_T (w (p + 1)) → K false (pt_a f (p + 1))) : m_takesTag G (d + 1) (pt_a f (p + 1)) K := by
  refine w_m_takesTag hS ?_
  by_cases c61 : w (p + 1) = 61
  · have h := h (by unfold tx_T; omega)
    rw [c61] at h
    simp only [mh_61, mb_61] at h
    refine c_takes hS hW hT hd hp (by decide) (fun _ => z_bt rfl ?_) (fun q => absurd c61 q)
    exact h
  by_cases c63 : w (p + 1) = 63
  · have h := h (by unfold tx_T; omega)
    rw [c63] at h
    simp only [mh_63, mb_63] at h
    refine c_takes hS hW hT hd hp (by decide) (fun q => absurd q c61) (fun _ => z_bf (by decide) ?_)
    refine c_takes hS hW hT hd hp (by decide) (fun _ => z_bt rfl ?_) (fun q => absurd c63 q)
    exact h
  by_cases c42 : w (p + 1) = 42
  · have h := h (by unfold tx_T; omega)
    rw [c42] at h
    simp only [mh_42, mb_42] at h
    refine c_takes hS hW hT hd hp (by decide) (fun q => absurd q c61) (fun _ => z_bf (by decide) ?_)
    refine c_takes hS hW hT hd hp (by decide) (fun q => absurd q c63) (fun _ => z_bf (by decide) ?_)
    refine c_takes hS hW hT hd hp (by decide) (fun _ => z_bt rfl ?_) (fun q => absurd c42 q)
    exact h
  by_cases c43 : w (p + 1) = 43
  · have h := h (by unfold tx_T; omega)
    rw [c43] at h
    simp only [mh_43, mb_43] at h
    refine c_takes hS hW hT hd hp (by decide) (fun q => absurd q c61) (fun _ => z_bf (by decide) ?_)
    refine c_takes hS hW hT hd hp (by decide) (fun q => absurd q c63) (fun _ => z_bf (by decide) ?_)
    refine c_takes hS hW hT hd hp (by decide) (fun q => absurd q c42) (fun _ => z_bf (by decide) ?_)
    refine c_takes hS hW hT hd hp (by decide) (fun _ => z_bt rfl ?_) (fun q => absurd c43 q)
    exact h
  by_cases c35 : w (p + 1) = 35
  · have h := h (by unfold tx_T; omega)
    rw [c35] at h
    simp only [mh_35, mb_35] at h
    refine c_takes hS hW hT hd hp (by decide) (fun q => absurd q c61) (fun _ => z_bf (by decide) ?_)
    refine c_takes hS hW hT hd hp (by decide) (fun q => absurd q c63) (fun _ => z_bf (by decide) ?_)
    refine c_takes hS hW hT hd hp (by decide) (fun q => absurd q c42) (fun _ => z_bf (by decide) ?_)
    refine c_takes hS hW hT hd hp (by decide) (fun q => absurd q c43) (fun _ => z_bf (by decide) ?_)
    refine c_takes hS hW hT hd hp (by decide) (fun _ => z_bt rfl ?_) (fun q => absurd c35 q)
    exact w_m_takesTag_173 hS h
  by_cases c107 : w (p + 1) = 107
  · have h := h (by unfold tx_T; omega)
    rw [c107] at h
    simp only [mh_107, mb_107] at h
    refine c_takes hS hW hT hd hp (by decide) (fun q => absurd q c61) (fun _ => z_bf (by decide) ?_)
    refine c_takes hS hW hT hd hp (by decide) (fun q => absurd q c63) (fun _ => z_bf (by decide) ?_)
    refine c_takes hS hW hT hd hp (by decide) (fun q => absurd q c42) (fun _ => z_bf (by decide) ?_)
    refine c_takes hS hW hT hd hp (by decide) (fun q => absurd q c43) (fun _ => z_bf (by decide) ?_)
    refine c_takes hS hW hT hd hp (by decide) (fun q => absurd q c35) (fun _ => z_bf (by decide) ?_)
    refine c_takes hS hW hT hd hp (by decide) (fun _ => z_bt rfl ?_) (fun q => absurd c107 q)
    exact w_m_takesTag_173 hS h
  by_cases c94 : w (p + 1) = 94
  · have h := h (by unfold tx_T; omega)
    rw [c94] at h
    simp only [mh_94, mb_94] at h
    refine c_takes hS hW hT hd hp (by decide) (fun q => absurd q c61) (fun _ => z_bf (by decide) ?_)
    refine c_takes hS hW hT hd hp (by decide) (fun q => absurd q c63) (fun _ => z_bf (by decide) ?_)
    refine c_takes hS hW hT hd hp (by decide) (fun q => absurd q c42) (fun _ => z_bf (by decide) ?_)
    refine c_takes hS hW hT hd hp (by decide) (fun q => absurd q c43) (fun _ => z_bf (by decide) ?_)
    refine c_takes hS hW hT hd hp (by decide) (fun q => absurd q c35) (fun _ => z_bf (by decide) ?_)
    refine c_takes hS hW hT hd hp (by decide) (fun q => absurd q c107) (fun _ => z_bf (by decide) ?_)
    refine c_takes hS hW hT hd hp (by decide) (fun _ => z_bt rfl ?_) (fun q => absurd c94 q)
    exact c_takes_m h (fun b f hb => mh_rb hb)
  by_cases c126 : w (p + 1) = 126
  · have h := h (by unfold tx_T; omega)
    rw [c126] at h
    simp only [mh_126, mb_126] at h
    refine c_takes hS hW hT hd hp (by decide) (fun q => absurd q c61) (fun _ => z_bf (by decide) ?_)
    refine c_takes hS hW hT hd hp (by decide) (fun q => absurd q c63) (fun _ => z_bf (by decide) ?_)
    refine c_takes hS hW hT hd hp (by decide) (fun q => absurd q c42) (fun _ => z_bf (by decide) ?_)
    refine c_takes hS hW hT hd hp (by decide) (fun q => absurd q c43) (fun _ => z_bf (by decide) ?_)
    refine c_takes hS hW hT hd hp (by decide) (fun q => absurd q c35) (fun _ => z_bf (by decide) ?_)
    refine c_takes hS hW hT hd hp (by decide) (fun q => absurd q c107) (fun _ => z_bf (by decide) ?_)
    refine c_takes hS hW hT hd hp (by decide) (fun q => absurd q c94) (fun _ => z_bf (by decide) ?_)
    refine c_takes hS hW hT hd hp (by decide) (fun _ => z_bt rfl ?_) (fun q => absurd c126 q)
    exact c_takes_m h (fun b f hb => mh_rb hb)
  by_cases c45 : w (p + 1) = 45
  · have h := h (by unfold tx_T; omega)
    rw [c45] at h
    simp only [mh_45, mb_45] at h
    refine c_takes hS hW hT hd hp (by decide) (fun q => absurd q c61) (fun _ => z_bf (by decide) ?_)
    refine c_takes hS hW hT hd hp (by decide) (fun q => absurd q c63) (fun _ => z_bf (by decide) ?_)
    refine c_takes hS hW hT hd hp (by decide) (fun q => absurd q c42) (fun _ => z_bf (by decide) ?_)
    refine c_takes hS hW hT hd hp (by decide) (fun q => absurd q c43) (fun _ => z_bf (by decide) ?_)
    refine c_takes hS hW hT hd hp (by decide) (fun q => absurd q c35) (fun _ => z_bf (by decide) ?_)
    refine c_takes hS hW hT hd hp (by decide) (fun q => absurd q c107) (fun _ => z_bf (by decide) ?_)
    refine c_takes hS hW hT hd hp (by decide) (fun q => absurd q c94) (fun _ => z_bf (by decide) ?_)
    refine c_takes hS hW hT hd hp (by decide) (fun q => absurd q c126) (fun _ => z_bf (by decide) ?_)
    refine c_takes hS hW hT hd hp (by decide) (fun _ => z_bt rfl ?_) (fun q => absurd c45 q)
    exact c_takes_m h (fun b f hb => mh_rb hb)
  by_cases c64 : w (p + 1) = 64
  · have h := h (by unfold tx_T; omega)
    rw [c64] at h
    simp only [mh_64, mb_64] at h
    refine c_takes hS hW hT hd hp (by decide) (fun q => absurd q c61) (fun _ => z_bf (by decide) ?_)
    refine c_takes hS hW hT hd hp (by decide) (fun q => absurd q c63) (fun _ => z_bf (by decide) ?_)
    refine c_takes hS hW hT hd hp (by decide) (fun q => absurd q c42) (fun _ => z_bf (by decide) ?_)
    refine c_takes hS hW hT hd hp (by decide) (fun q => absurd q c43) (fun _ => z_bf (by decide) ?_)
    refine c_takes hS hW hT hd hp (by decide) (fun q => absurd q c35) (fun _ => z_bf (by decide) ?_)
    refine c_takes hS hW hT hd hp (by decide) (fun q => absurd q c107) (fun _ => z_bf (by decide) ?_)
    refine c_takes hS hW hT hd hp (by decide) (fun q => absurd q c94) (fun _ => z_bf (by decide) ?_)
    refine c_takes hS hW hT hd hp (by decide) (fun q => absurd q c126) (fun _ => z_bf (by decide) ?_)
    refine c_takes hS hW hT hd hp (by decide) (fun q => absurd q c45) (fun _ => z_bf (by decide) ?_)
    refine c_takes hS hW hT hd hp (by decide) (fun _ => z_bt rfl ?_) (fun q => absurd c64 q)
    exact h
  by_cases c36 : w (p + 1) = 36
  · have h := h (by unfold tx_T; omega)
    rw [c36] at h
    simp only [mh_36, mb_36] at h
    refine c_takes hS hW hT hd hp (by decide) (fun q => absurd q c61) (fun _ => z_bf (by decide) ?_)
    refine c_takes hS hW hT hd hp (by decide) (fun q => absurd q c63) (fun _ => z_bf (by decide) ?_)
    refine c_takes hS hW hT hd hp (by decide) (fun q => absurd q c42) (fun _ => z_bf (by decide) ?_)
    refine c_takes hS hW hT hd hp (by decide) (fun q => absurd q c43) (fun _ => z_bf (by decide) ?_)
    refine c_takes hS hW hT hd hp (by decide) (fun q => absurd q c35) (fun _ => z_bf (by decide) ?_)
    refine c_takes hS hW hT hd hp (by decide) (fun q => absurd q c107) (fun _ => z_bf (by decide) ?_)
    refine c_takes hS hW hT hd hp (by decide) (fun q => absurd q c94) (fun _ => z_bf (by decide) ?_)
    refine c_takes hS hW hT hd hp (by decide) (fun q => absurd q c126) (fun _ => z_bf (by decide) ?_)
    refine c_takes hS hW hT hd hp (by decide) (fun q => absurd q c45) (fun _ => z_bf (by decide) ?_)
    refine c_takes hS hW hT hd hp (by decide) (fun q => absurd q c64) (fun _ => z_bf (by decide) ?_)
    refine c_takes hS hW hT hd hp (by decide) (fun _ => z_bt rfl ?_) (fun q => absurd c36 q)
    exact h
  by_cases c33 : w (p + 1) = 33
  · have h := h (by unfold tx_T; omega)
    rw [c33] at h
    simp only [mh_33, mb_33] at h
    refine c_takes hS hW hT hd hp (by decide) (fun q => absurd q c61) (fun _ => z_bf (by decide) ?_)
    refine c_takes hS hW hT hd hp (by decide) (fun q => absurd q c63) (fun _ => z_bf (by decide) ?_)
    refine c_takes hS hW hT hd hp (by decide) (fun q => absurd q c42) (fun _ => z_bf (by decide) ?_)
    refine c_takes hS hW hT hd hp (by decide) (fun q => absurd q c43) (fun _ => z_bf (by decide) ?_)
    refine c_takes hS hW hT hd hp (by decide) (fun q => absurd q c35) (fun _ => z_bf (by decide) ?_)
    refine c_takes hS hW hT hd hp (by decide) (fun q => absurd q c107) (fun _ => z_bf (by decide) ?_)
    refine c_takes hS hW hT hd hp (by decide) (fun q => absurd q c94) (fun _ => z_bf (by decide) ?_)
    refine c_takes hS hW hT hd hp (by decide) (fun q => absurd q c126) (fun _ => z_bf (by decide) ?_)
    refine c_takes hS hW hT hd hp (by decide) (fun q => absurd q c45) (fun _ => z_bf (by decide) ?_)
    refine c_takes hS hW hT hd hp (by decide) (fun q => absurd q c64) (fun _ => z_bf (by decide) ?_)
    refine c_takes hS hW hT hd hp (by decide) (fun q => absurd q c36) (fun _ => z_bf (by decide) ?_)
    refine c_takes hS hW hT hd hp (by decide) (fun _ => z_bt rfl ?_) (fun q => absurd c33 q)
    exact h
  by_cases c38 : w (p + 1) = 38
  · have h := h (by unfold tx_T; omega)
    rw [c38] at h
    simp only [mh_38, mb_38] at h
    refine c_takes hS hW hT hd hp (by decide) (fun q => absurd q c61) (fun _ => z_bf (by decide) ?_)
    refine c_takes hS hW hT hd hp (by decide) (fun q => absurd q c63) (fun _ => z_bf (by decide) ?_)
    refine c_takes hS hW hT hd hp (by decide) (fun q => absurd q c42) (fun _ => z_bf (by decide) ?_)
    refine c_takes hS hW hT hd hp (by decide) (fun q => absurd q c43) (fun _ => z_bf (by decide) ?_)
    refine c_takes hS hW hT hd hp (by decide) (fun q => absurd q c35) (fun _ => z_bf (by decide) ?_)
    refine c_takes hS hW hT hd hp (by decide) (fun q => absurd q c107) (fun _ => z_bf (by decide) ?_)
    refine c_takes hS hW hT hd hp (by decide) (fun q => absurd q c94) (fun _ => z_bf (by decide) ?_)
    refine c_takes hS hW hT hd hp (by decide) (fun q => absurd q c126) (fun _ => z_bf (by decide) ?_)
    refine c_takes hS hW hT hd hp (by decide) (fun q => absurd q c45) (fun _ => z_bf (by decide) ?_)
    refine c_takes hS hW hT hd hp (by decide) (fun q => absurd q c64) (fun _ => z_bf (by decide) ?_)
    refine c_takes hS hW hT hd hp (by decide) (fun q => absurd q c36) (fun _ => z_bf (by decide) ?_)
    refine c_takes hS hW hT hd hp (by decide) (fun q => absurd q c33) (fun _ => z_bf (by decide) ?_)
    refine c_takes hS hW hT hd hp (by decide) (fun _ => z_bt rfl ?_) (fun q => absurd c38 q)
    exact h
  by_cases c37 : w (p + 1) = 37
  · have h := h (by unfold tx_T; omega)
    rw [c37] at h
    simp only [mh_37, mb_37] at h
    refine c_takes hS hW hT hd hp (by decide) (fun q => absurd q c61) (fun _ => z_bf (by decide) ?_)
    refine c_takes hS hW hT hd hp (by decide) (fun q => absurd q c63) (fun _ => z_bf (by decide) ?_)
    refine c_takes hS hW hT hd hp (by decide) (fun q => absurd q c42) (fun _ => z_bf (by decide) ?_)
    refine c_takes hS hW hT hd hp (by decide) (fun q => absurd q c43) (fun _ => z_bf (by decide) ?_)
    refine c_takes hS hW hT hd hp (by decide) (fun q => absurd q c35) (fun _ => z_bf (by decide) ?_)
    refine c_takes hS hW hT hd hp (by decide) (fun q => absurd q c107) (fun _ => z_bf (by decide) ?_)
    refine c_takes hS hW hT hd hp (by decide) (fun q => absurd q c94) (fun _ => z_bf (by decide) ?_)
    refine c_takes hS hW hT hd hp (by decide) (fun q => absurd q c126) (fun _ => z_bf (by decide) ?_)
    refine c_takes hS hW hT hd hp (by decide) (fun q => absurd q c45) (fun _ => z_bf (by decide) ?_)
    refine c_takes hS hW hT hd hp (by decide) (fun q => absurd q c64) (fun _ => z_bf (by decide) ?_)
    refine c_takes hS hW hT hd hp (by decide) (fun q => absurd q c36) (fun _ => z_bf (by decide) ?_)
    refine c_takes hS hW hT hd hp (by decide) (fun q => absurd q c33) (fun _ => z_bf (by decide) ?_)
    refine c_takes hS hW hT hd hp (by decide) (fun q => absurd q c38) (fun _ => z_bf (by decide) ?_)
    refine c_takes hS hW hT hd hp (by decide) (fun _ => z_bt rfl ?_) (fun q => absurd c37 q)
    exact h
  by_cases c116 : w (p + 1) = 116
  · have h := h (by unfold tx_T; omega)
    rw [c116] at h
    simp only [mh_116, mb_116] at h
    refine c_takes hS hW hT hd hp (by decide) (fun q => absurd q c61) (fun _ => z_bf (by decide) ?_)
    refine c_takes hS hW hT hd hp (by decide) (fun q => absurd q c63) (fun _ => z_bf (by decide) ?_)
    refine c_takes hS hW hT hd hp (by decide) (fun q => absurd q c42) (fun _ => z_bf (by decide) ?_)
    refine c_takes hS hW hT hd hp (by decide) (fun q => absurd q c43) (fun _ => z_bf (by decide) ?_)
    refine c_takes hS hW hT hd hp (by decide) (fun q => absurd q c35) (fun _ => z_bf (by decide) ?_)
    refine c_takes hS hW hT hd hp (by decide) (fun q => absurd q c107) (fun _ => z_bf (by decide) ?_)
    refine c_takes hS hW hT hd hp (by decide) (fun q => absurd q c94) (fun _ => z_bf (by decide) ?_)
    refine c_takes hS hW hT hd hp (by decide) (fun q => absurd q c126) (fun _ => z_bf (by decide) ?_)
    refine c_takes hS hW hT hd hp (by decide) (fun q => absurd q c45) (fun _ => z_bf (by decide) ?_)
    refine c_takes hS hW hT hd hp (by decide) (fun q => absurd q c64) (fun _ => z_bf (by decide) ?_)
    refine c_takes hS hW hT hd hp (by decide) (fun q => absurd q c36) (fun _ => z_bf (by decide) ?_)
    refine c_takes hS hW hT hd hp (by decide) (fun q => absurd q c33) (fun _ => z_bf (by decide) ?_)
    refine c_takes hS hW hT hd hp (by decide) (fun q => absurd q c38) (fun _ => z_bf (by decide) ?_)
    refine c_takes hS hW hT hd hp (by decide) (fun q => absurd q c37) (fun _ => z_bf (by decide) ?_)
    refine c_takes hS hW hT hd hp (by decide) (fun _ => z_bt rfl ?_) (fun q => absurd c116 q)
    exact h
  have h1 := h0 (by unfold tx_T; omega)
  refine c_takes hS hW hT hd hp (by decide) (fun q => absurd q c61) (fun _ => z_bf (by decide) ?_)
  refine c_takes hS hW hT hd hp (by decide) (fun q => absurd q c63) (fun _ => z_bf (by decide) ?_)
  refine c_takes hS hW hT hd hp (by decide) (fun q => absurd q c42) (fun _ => z_bf (by decide) ?_)
  refine c_takes hS hW hT hd hp (by decide) (fun q => absurd q c43) (fun _ => z_bf (by decide) ?_)
  refine c_takes hS hW hT hd hp (by decide) (fun q => absurd q c35) (fun _ => z_bf (by decide) ?_)
  refine c_takes hS hW hT hd hp (by decide) (fun q => absurd q c107) (fun _ => z_bf (by decide) ?_)
  refine c_takes hS hW hT hd hp (by decide) (fun q => absurd q c94) (fun _ => z_bf (by decide) ?_)
  refine c_takes hS hW hT hd hp (by decide) (fun q => absurd q c126) (fun _ => z_bf (by decide) ?_)
  refine c_takes hS hW hT hd hp (by decide) (fun q => absurd q c45) (fun _ => z_bf (by decide) ?_)
  refine c_takes hS hW hT hd hp (by decide) (fun q => absurd q c64) (fun _ => z_bf (by decide) ?_)
  refine c_takes hS hW hT hd hp (by decide) (fun q => absurd q c36) (fun _ => z_bf (by decide) ?_)
  refine c_takes hS hW hT hd hp (by decide) (fun q => absurd q c33) (fun _ => z_bf (by decide) ?_)
  refine c_takes hS hW hT hd hp (by decide) (fun q => absurd q c38) (fun _ => z_bf (by decide) ?_)
  refine c_takes hS hW hT hd hp (by decide) (fun q => absurd q c37) (fun _ => z_bf (by decide) ?_)
  refine c_takes hS hW hT hd hp (by decide) (fun q => absurd q c116) (fun _ => z_bf (by decide) ?_)
  exact h1
end TG
