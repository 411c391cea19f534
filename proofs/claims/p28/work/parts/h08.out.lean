/-! THE OUTPUT IS SO (wip/p28/genh08.py) -/
section H08
variable {s : lst} {H H1 H' Gm : mj_G} {d k t : Nat}
def q_lead (x0 x1 : Int32) : Int32 := (if (x0) = (Int32.ofInt (4)) then (if (x0) = (Int32.ofInt (3)) then (if (x1) = ((Int8.ofInt (34)).toInt32) then Int32.ofInt (4) else x0) else (if (x0) = (Int32.ofInt (5)) then (if (x1) = ((Int8.ofInt (34)).toInt32) then Int32.ofInt (4) else x0) else (if (x0) = (Int32.ofInt (2)) then (if (x1) = ((Int8.ofInt (62)).toInt32) then (if (x0) = (Int32.ofInt (2)) then Int32.ofInt (0) else (Int8.ofInt (6)).toInt32) else (if (x1) = ((Int8.ofInt (34)).toInt32) then (x0) + (Int32.ofInt (1)) else x0)) else (if (x0) = (Int32.ofInt (4)) then (if (x1) = ((Int8.ofInt (62)).toInt32) then (if (x0) = (Int32.ofInt (2)) then Int32.ofInt (0) else (Int8.ofInt (6)).toInt32) else (if (x1) = ((Int8.ofInt (34)).toInt32) then (x0) + (Int32.ofInt (1)) else x0)) else (if (x0) = (Int32.ofInt (1)) then (if (x1) = ((Int8.ofInt (62)).toInt32) then Int32.ofInt (0) else (if (x1) = ((Int8.ofInt (115)).toInt32) then Int32.ofInt (4) else Int32.ofInt (2))) else (if (x0) = ((0 : Int32)) then (if (x1) = ((Int8.ofInt (60)).toInt32) then Int32.ofInt (1) else Int32.ofInt (0)) else (if (x1) = ((Int8.ofInt (39)).toInt32) then ((Int8.ofInt (13)).toInt32) - (x0) else (if (x0) = ((Int8.ofInt (6)).toInt32) then (if (x1) = ((Int8.ofInt (60)).toInt32) then Int32.ofInt (1) else x0) else x0)))))))) else (if (x0) = (Int32.ofInt (5)) then (if (x0) = (Int32.ofInt (3)) then (if (x1) = ((Int8.ofInt (34)).toInt32) then Int32.ofInt (4) else x0) else (if (x0) = (Int32.ofInt (5)) then (if (x1) = ((Int8.ofInt (34)).toInt32) then Int32.ofInt (4) else x0) else (if (x0) = (Int32.ofInt (2)) then (if (x1) = ((Int8.ofInt (62)).toInt32) then (if (x0) = (Int32.ofInt (2)) then Int32.ofInt (0) else (Int8.ofInt (6)).toInt32) else (if (x1) = ((Int8.ofInt (34)).toInt32) then (x0) + (Int32.ofInt (1)) else x0)) else (if (x0) = (Int32.ofInt (4)) then (if (x1) = ((Int8.ofInt (62)).toInt32) then (if (x0) = (Int32.ofInt (2)) then Int32.ofInt (0) else (Int8.ofInt (6)).toInt32) else (if (x1) = ((Int8.ofInt (34)).toInt32) then (x0) + (Int32.ofInt (1)) else x0)) else (if (x0) = (Int32.ofInt (1)) then (if (x1) = ((Int8.ofInt (62)).toInt32) then Int32.ofInt (0) else (if (x1) = ((Int8.ofInt (115)).toInt32) then Int32.ofInt (4) else Int32.ofInt (2))) else (if (x0) = ((0 : Int32)) then (if (x1) = ((Int8.ofInt (60)).toInt32) then Int32.ofInt (1) else Int32.ofInt (0)) else (if (x1) = ((Int8.ofInt (39)).toInt32) then ((Int8.ofInt (13)).toInt32) - (x0) else (if (x0) = ((Int8.ofInt (6)).toInt32) then (if (x1) = ((Int8.ofInt (60)).toInt32) then Int32.ofInt (1) else x0) else x0)))))))) else (if (x0) = (Int32.ofInt (3)) then (if (x1) = ((Int8.ofInt (34)).toInt32) then Int32.ofInt (2) else x0) else (if (x0) = (Int32.ofInt (5)) then (if (x1) = ((Int8.ofInt (34)).toInt32) then Int32.ofInt (2) else x0) else (if (x0) = (Int32.ofInt (2)) then (if (x1) = ((Int8.ofInt (62)).toInt32) then (if (x0) = (Int32.ofInt (2)) then Int32.ofInt (0) else (Int8.ofInt (6)).toInt32) else (if (x1) = ((Int8.ofInt (34)).toInt32) then (x0) + (Int32.ofInt (1)) else x0)) else (if (x0) = (Int32.ofInt (4)) then (if (x1) = ((Int8.ofInt (62)).toInt32) then (if (x0) = (Int32.ofInt (2)) then Int32.ofInt (0) else (Int8.ofInt (6)).toInt32) else (if (x1) = ((Int8.ofInt (34)).toInt32) then (x0) + (Int32.ofInt (1)) else x0)) else (if (x0) = (Int32.ofInt (1)) then (if (x1) = ((Int8.ofInt (62)).toInt32) then Int32.ofInt (0) else (if (x1) = ((Int8.ofInt (115)).toInt32) then Int32.ofInt (4) else Int32.ofInt (2))) else (if (x0) = ((0 : Int32)) then (if (x1) = ((Int8.ofInt (60)).toInt32) then Int32.ofInt (1) else Int32.ofInt (0)) else (if (x1) = ((Int8.ofInt (39)).toInt32) then ((Int8.ofInt (13)).toInt32) - (x0) else (if (x0) = ((Int8.ofInt (6)).toInt32) then (if (x1) = ((Int8.ofInt (60)).toInt32) then Int32.ofInt (1) else x0) else x0))))))))))
set_option maxHeartbeats 4000000 in
theorem q_leadX {x0 x1 : Int32} {G : mj_G} : rj_X d 14010 0 [some (.inl x0), some (.inl x1), none] [] G (fun o G1 => ∃ v, o = .inl (some (.inl v)) ∧ (q_lead x0 x1 = v ∧ G = G1)) := by
  by_cases q1 : (x0) = (Int32.ofInt (4))
  · refine rk_14010_0 (fun _ => ?_) (fun q' => absurd q1 q')
    refine rk_14010_10 ?_
    by_cases q2 : (x0) = (Int32.ofInt (3))
    · refine rk_14010_15 (fun _ => ?_) (fun q' => absurd q2 q')
      by_cases q3 : (x1) = ((Int8.ofInt (34)).toInt32)
      · refine rk_14010_26 (fun q' => absurd q3 q') (fun _ => ?_)
        refine rk_14010_32 ?_
        exact rk_14010_37 ⟨_, rfl, by unfold q_lead; rw [if_pos q1, if_pos q2, if_pos q3], rfl⟩
      · refine rk_14010_26 (fun _ => ?_) (fun q' => absurd q' q3)
        refine rk_14010_36 ?_
        exact rk_14010_37 ⟨_, rfl, by unfold q_lead; rw [if_pos q1, if_pos q2, if_neg q3], rfl⟩
    · refine rk_14010_15 (fun q' => absurd q' q2) (fun _ => ?_)
      by_cases q4 : (x0) = (Int32.ofInt (5))
      · refine rk_14010_21 (fun q' => absurd q4 q') (fun _ => ?_)
        by_cases q5 : (x1) = ((Int8.ofInt (34)).toInt32)
        · refine rk_14010_26 (fun q' => absurd q5 q') (fun _ => ?_)
          refine rk_14010_32 ?_
          exact rk_14010_37 ⟨_, rfl, by unfold q_lead; rw [if_pos q1, if_neg q2, if_pos q4, if_pos q5], rfl⟩
        · refine rk_14010_26 (fun _ => ?_) (fun q' => absurd q' q5)
          refine rk_14010_36 ?_
          exact rk_14010_37 ⟨_, rfl, by unfold q_lead; rw [if_pos q1, if_neg q2, if_pos q4, if_neg q5], rfl⟩
      · refine rk_14010_21 (fun _ => ?_) (fun q' => absurd q' q4)
        by_cases q6 : (x0) = (Int32.ofInt (2))
        · refine rk_14010_38 (fun _ => ?_) (fun q' => absurd q6 q')
          by_cases q7 : (x1) = ((Int8.ofInt (62)).toInt32)
          · refine rk_14010_48 (fun q' => absurd q7 q') (fun _ => ?_)
            by_cases q8 : (x0) = (Int32.ofInt (2))
            · refine rk_14010_54 (fun q' => absurd q8 q') (fun _ => ?_)
              refine rk_14010_59 ?_
              exact rk_14010_81 ⟨_, rfl, by unfold q_lead; rw [if_pos q1, if_neg q2, if_neg q4, if_pos q6, if_pos q7, if_pos q8], rfl⟩
            · refine rk_14010_54 (fun _ => ?_) (fun q' => absurd q' q8)
              refine rk_14010_63 ?_
              exact rk_14010_81 ⟨_, rfl, by unfold q_lead; rw [if_pos q1, if_neg q2, if_neg q4, if_pos q6, if_pos q7, if_neg q8], rfl⟩
          · refine rk_14010_48 (fun _ => ?_) (fun q' => absurd q' q7)
            by_cases q9 : (x1) = ((Int8.ofInt (34)).toInt32)
            · refine rk_14010_68 (fun q' => absurd q9 q') (fun _ => ?_)
              refine rk_14010_74 ?_
              exact rk_14010_81 ⟨_, rfl, by unfold q_lead; rw [if_pos q1, if_neg q2, if_neg q4, if_pos q6, if_neg q7, if_pos q9], rfl⟩
            · refine rk_14010_68 (fun _ => ?_) (fun q' => absurd q' q9)
              refine rk_14010_80 ?_
              exact rk_14010_81 ⟨_, rfl, by unfold q_lead; rw [if_pos q1, if_neg q2, if_neg q4, if_pos q6, if_neg q7, if_neg q9], rfl⟩
        · refine rk_14010_38 (fun q' => absurd q' q6) (fun _ => ?_)
          by_cases q10 : (x0) = (Int32.ofInt (4))
          · refine rk_14010_43 (fun q' => absurd q10 q') (fun _ => ?_)
            by_cases q11 : (x1) = ((Int8.ofInt (62)).toInt32)
            · refine rk_14010_48 (fun q' => absurd q11 q') (fun _ => ?_)
              by_cases q12 : (x0) = (Int32.ofInt (2))
              · refine rk_14010_54 (fun q' => absurd q12 q') (fun _ => ?_)
                refine rk_14010_59 ?_
                exact rk_14010_81 ⟨_, rfl, by unfold q_lead; rw [if_pos q1, if_neg q2, if_neg q4, if_neg q6, if_pos q10, if_pos q11, if_pos q12], rfl⟩
              · refine rk_14010_54 (fun _ => ?_) (fun q' => absurd q' q12)
                refine rk_14010_63 ?_
                exact rk_14010_81 ⟨_, rfl, by unfold q_lead; rw [if_pos q1, if_neg q2, if_neg q4, if_neg q6, if_pos q10, if_pos q11, if_neg q12], rfl⟩
            · refine rk_14010_48 (fun _ => ?_) (fun q' => absurd q' q11)
              by_cases q13 : (x1) = ((Int8.ofInt (34)).toInt32)
              · refine rk_14010_68 (fun q' => absurd q13 q') (fun _ => ?_)
                refine rk_14010_74 ?_
                exact rk_14010_81 ⟨_, rfl, by unfold q_lead; rw [if_pos q1, if_neg q2, if_neg q4, if_neg q6, if_pos q10, if_neg q11, if_pos q13], rfl⟩
              · refine rk_14010_68 (fun _ => ?_) (fun q' => absurd q' q13)
                refine rk_14010_80 ?_
                exact rk_14010_81 ⟨_, rfl, by unfold q_lead; rw [if_pos q1, if_neg q2, if_neg q4, if_neg q6, if_pos q10, if_neg q11, if_neg q13], rfl⟩
          · refine rk_14010_43 (fun _ => ?_) (fun q' => absurd q' q10)
            by_cases q14 : (x0) = (Int32.ofInt (1))
            · refine rk_14010_82 (fun q' => absurd q14 q') (fun _ => ?_)
              by_cases q15 : (x1) = ((Int8.ofInt (62)).toInt32)
              · refine rk_14010_87 (fun q' => absurd q15 q') (fun _ => ?_)
                refine rk_14010_93 ?_
                exact rk_14010_108 ⟨_, rfl, by unfold q_lead; rw [if_pos q1, if_neg q2, if_neg q4, if_neg q6, if_neg q10, if_pos q14, if_pos q15], rfl⟩
              · refine rk_14010_87 (fun _ => ?_) (fun q' => absurd q' q15)
                by_cases q16 : (x1) = ((Int8.ofInt (115)).toInt32)
                · refine rk_14010_97 (fun q' => absurd q16 q') (fun _ => ?_)
                  refine rk_14010_103 ?_
                  exact rk_14010_108 ⟨_, rfl, by unfold q_lead; rw [if_pos q1, if_neg q2, if_neg q4, if_neg q6, if_neg q10, if_pos q14, if_neg q15, if_pos q16], rfl⟩
                · refine rk_14010_97 (fun _ => ?_) (fun q' => absurd q' q16)
                  refine rk_14010_107 ?_
                  exact rk_14010_108 ⟨_, rfl, by unfold q_lead; rw [if_pos q1, if_neg q2, if_neg q4, if_neg q6, if_neg q10, if_pos q14, if_neg q15, if_neg q16], rfl⟩
            · refine rk_14010_82 (fun _ => ?_) (fun q' => absurd q' q14)
              by_cases q17 : (x0) = ((0 : Int32))
              · refine rk_14010_109 (fun q' => absurd q17 q') (fun _ => ?_)
                by_cases q18 : (x1) = ((Int8.ofInt (60)).toInt32)
                · refine rk_14010_113 (fun q' => absurd q18 q') (fun _ => ?_)
                  refine rk_14010_119 ?_
                  exact rk_14010_124 ⟨_, rfl, by unfold q_lead; rw [if_pos q1, if_neg q2, if_neg q4, if_neg q6, if_neg q10, if_neg q14, if_pos q17, if_pos q18], rfl⟩
                · refine rk_14010_113 (fun _ => ?_) (fun q' => absurd q' q18)
                  refine rk_14010_123 ?_
                  exact rk_14010_124 ⟨_, rfl, by unfold q_lead; rw [if_pos q1, if_neg q2, if_neg q4, if_neg q6, if_neg q10, if_neg q14, if_pos q17, if_neg q18], rfl⟩
              · refine rk_14010_109 (fun _ => ?_) (fun q' => absurd q' q17)
                by_cases q19 : (x1) = ((Int8.ofInt (39)).toInt32)
                · refine rk_14010_125 (fun q' => absurd q19 q') (fun _ => ?_)
                  refine rk_14010_131 ?_
                  exact rk_14010_155 ⟨_, rfl, by unfold q_lead; rw [if_pos q1, if_neg q2, if_neg q4, if_neg q6, if_neg q10, if_neg q14, if_neg q17, if_pos q19], rfl⟩
                · refine rk_14010_125 (fun _ => ?_) (fun q' => absurd q' q19)
                  by_cases q20 : (x0) = ((Int8.ofInt (6)).toInt32)
                  · refine rk_14010_138 (fun q' => absurd q20 q') (fun _ => ?_)
                    by_cases q21 : (x1) = ((Int8.ofInt (60)).toInt32)
                    · refine rk_14010_144 (fun q' => absurd q21 q') (fun _ => ?_)
                      refine rk_14010_150 ?_
                      exact rk_14010_155 ⟨_, rfl, by unfold q_lead; rw [if_pos q1, if_neg q2, if_neg q4, if_neg q6, if_neg q10, if_neg q14, if_neg q17, if_neg q19, if_pos q20, if_pos q21], rfl⟩
                    · refine rk_14010_144 (fun _ => ?_) (fun q' => absurd q' q21)
                      refine rk_14010_154 ?_
                      exact rk_14010_155 ⟨_, rfl, by unfold q_lead; rw [if_pos q1, if_neg q2, if_neg q4, if_neg q6, if_neg q10, if_neg q14, if_neg q17, if_neg q19, if_pos q20, if_neg q21], rfl⟩
                  · refine rk_14010_138 (fun _ => ?_) (fun q' => absurd q' q20)
                    refine rk_14010_154 ?_
                    exact rk_14010_155 ⟨_, rfl, by unfold q_lead; rw [if_pos q1, if_neg q2, if_neg q4, if_neg q6, if_neg q10, if_neg q14, if_neg q17, if_neg q19, if_neg q20], rfl⟩
  · refine rk_14010_0 (fun q' => absurd q' q1) (fun _ => ?_)
    by_cases q22 : (x0) = (Int32.ofInt (5))
    · refine rk_14010_5 (fun q' => absurd q22 q') (fun _ => ?_)
      refine rk_14010_10 ?_
      by_cases q23 : (x0) = (Int32.ofInt (3))
      · refine rk_14010_15 (fun _ => ?_) (fun q' => absurd q23 q')
        by_cases q24 : (x1) = ((Int8.ofInt (34)).toInt32)
        · refine rk_14010_26 (fun q' => absurd q24 q') (fun _ => ?_)
          refine rk_14010_32 ?_
          exact rk_14010_37 ⟨_, rfl, by unfold q_lead; rw [if_neg q1, if_pos q22, if_pos q23, if_pos q24], rfl⟩
        · refine rk_14010_26 (fun _ => ?_) (fun q' => absurd q' q24)
          refine rk_14010_36 ?_
          exact rk_14010_37 ⟨_, rfl, by unfold q_lead; rw [if_neg q1, if_pos q22, if_pos q23, if_neg q24], rfl⟩
      · refine rk_14010_15 (fun q' => absurd q' q23) (fun _ => ?_)
        by_cases q25 : (x0) = (Int32.ofInt (5))
        · refine rk_14010_21 (fun q' => absurd q25 q') (fun _ => ?_)
          by_cases q26 : (x1) = ((Int8.ofInt (34)).toInt32)
          · refine rk_14010_26 (fun q' => absurd q26 q') (fun _ => ?_)
            refine rk_14010_32 ?_
            exact rk_14010_37 ⟨_, rfl, by unfold q_lead; rw [if_neg q1, if_pos q22, if_neg q23, if_pos q25, if_pos q26], rfl⟩
          · refine rk_14010_26 (fun _ => ?_) (fun q' => absurd q' q26)
            refine rk_14010_36 ?_
            exact rk_14010_37 ⟨_, rfl, by unfold q_lead; rw [if_neg q1, if_pos q22, if_neg q23, if_pos q25, if_neg q26], rfl⟩
        · refine rk_14010_21 (fun _ => ?_) (fun q' => absurd q' q25)
          by_cases q27 : (x0) = (Int32.ofInt (2))
          · refine rk_14010_38 (fun _ => ?_) (fun q' => absurd q27 q')
            by_cases q28 : (x1) = ((Int8.ofInt (62)).toInt32)
            · refine rk_14010_48 (fun q' => absurd q28 q') (fun _ => ?_)
              by_cases q29 : (x0) = (Int32.ofInt (2))
              · refine rk_14010_54 (fun q' => absurd q29 q') (fun _ => ?_)
                refine rk_14010_59 ?_
                exact rk_14010_81 ⟨_, rfl, by unfold q_lead; rw [if_neg q1, if_pos q22, if_neg q23, if_neg q25, if_pos q27, if_pos q28, if_pos q29], rfl⟩
              · refine rk_14010_54 (fun _ => ?_) (fun q' => absurd q' q29)
                refine rk_14010_63 ?_
                exact rk_14010_81 ⟨_, rfl, by unfold q_lead; rw [if_neg q1, if_pos q22, if_neg q23, if_neg q25, if_pos q27, if_pos q28, if_neg q29], rfl⟩
            · refine rk_14010_48 (fun _ => ?_) (fun q' => absurd q' q28)
              by_cases q30 : (x1) = ((Int8.ofInt (34)).toInt32)
              · refine rk_14010_68 (fun q' => absurd q30 q') (fun _ => ?_)
                refine rk_14010_74 ?_
                exact rk_14010_81 ⟨_, rfl, by unfold q_lead; rw [if_neg q1, if_pos q22, if_neg q23, if_neg q25, if_pos q27, if_neg q28, if_pos q30], rfl⟩
              · refine rk_14010_68 (fun _ => ?_) (fun q' => absurd q' q30)
                refine rk_14010_80 ?_
                exact rk_14010_81 ⟨_, rfl, by unfold q_lead; rw [if_neg q1, if_pos q22, if_neg q23, if_neg q25, if_pos q27, if_neg q28, if_neg q30], rfl⟩
          · refine rk_14010_38 (fun q' => absurd q' q27) (fun _ => ?_)
            by_cases q31 : (x0) = (Int32.ofInt (4))
            · refine rk_14010_43 (fun q' => absurd q31 q') (fun _ => ?_)
              by_cases q32 : (x1) = ((Int8.ofInt (62)).toInt32)
              · refine rk_14010_48 (fun q' => absurd q32 q') (fun _ => ?_)
                by_cases q33 : (x0) = (Int32.ofInt (2))
                · refine rk_14010_54 (fun q' => absurd q33 q') (fun _ => ?_)
                  refine rk_14010_59 ?_
                  exact rk_14010_81 ⟨_, rfl, by unfold q_lead; rw [if_neg q1, if_pos q22, if_neg q23, if_neg q25, if_neg q27, if_pos q31, if_pos q32, if_pos q33], rfl⟩
                · refine rk_14010_54 (fun _ => ?_) (fun q' => absurd q' q33)
                  refine rk_14010_63 ?_
                  exact rk_14010_81 ⟨_, rfl, by unfold q_lead; rw [if_neg q1, if_pos q22, if_neg q23, if_neg q25, if_neg q27, if_pos q31, if_pos q32, if_neg q33], rfl⟩
              · refine rk_14010_48 (fun _ => ?_) (fun q' => absurd q' q32)
                by_cases q34 : (x1) = ((Int8.ofInt (34)).toInt32)
                · refine rk_14010_68 (fun q' => absurd q34 q') (fun _ => ?_)
                  refine rk_14010_74 ?_
                  exact rk_14010_81 ⟨_, rfl, by unfold q_lead; rw [if_neg q1, if_pos q22, if_neg q23, if_neg q25, if_neg q27, if_pos q31, if_neg q32, if_pos q34], rfl⟩
                · refine rk_14010_68 (fun _ => ?_) (fun q' => absurd q' q34)
                  refine rk_14010_80 ?_
                  exact rk_14010_81 ⟨_, rfl, by unfold q_lead; rw [if_neg q1, if_pos q22, if_neg q23, if_neg q25, if_neg q27, if_pos q31, if_neg q32, if_neg q34], rfl⟩
            · refine rk_14010_43 (fun _ => ?_) (fun q' => absurd q' q31)
              by_cases q35 : (x0) = (Int32.ofInt (1))
              · refine rk_14010_82 (fun q' => absurd q35 q') (fun _ => ?_)
                by_cases q36 : (x1) = ((Int8.ofInt (62)).toInt32)
                · refine rk_14010_87 (fun q' => absurd q36 q') (fun _ => ?_)
                  refine rk_14010_93 ?_
                  exact rk_14010_108 ⟨_, rfl, by unfold q_lead; rw [if_neg q1, if_pos q22, if_neg q23, if_neg q25, if_neg q27, if_neg q31, if_pos q35, if_pos q36], rfl⟩
                · refine rk_14010_87 (fun _ => ?_) (fun q' => absurd q' q36)
                  by_cases q37 : (x1) = ((Int8.ofInt (115)).toInt32)
                  · refine rk_14010_97 (fun q' => absurd q37 q') (fun _ => ?_)
                    refine rk_14010_103 ?_
                    exact rk_14010_108 ⟨_, rfl, by unfold q_lead; rw [if_neg q1, if_pos q22, if_neg q23, if_neg q25, if_neg q27, if_neg q31, if_pos q35, if_neg q36, if_pos q37], rfl⟩
                  · refine rk_14010_97 (fun _ => ?_) (fun q' => absurd q' q37)
                    refine rk_14010_107 ?_
                    exact rk_14010_108 ⟨_, rfl, by unfold q_lead; rw [if_neg q1, if_pos q22, if_neg q23, if_neg q25, if_neg q27, if_neg q31, if_pos q35, if_neg q36, if_neg q37], rfl⟩
              · refine rk_14010_82 (fun _ => ?_) (fun q' => absurd q' q35)
                by_cases q38 : (x0) = ((0 : Int32))
                · refine rk_14010_109 (fun q' => absurd q38 q') (fun _ => ?_)
                  by_cases q39 : (x1) = ((Int8.ofInt (60)).toInt32)
                  · refine rk_14010_113 (fun q' => absurd q39 q') (fun _ => ?_)
                    refine rk_14010_119 ?_
                    exact rk_14010_124 ⟨_, rfl, by unfold q_lead; rw [if_neg q1, if_pos q22, if_neg q23, if_neg q25, if_neg q27, if_neg q31, if_neg q35, if_pos q38, if_pos q39], rfl⟩
                  · refine rk_14010_113 (fun _ => ?_) (fun q' => absurd q' q39)
                    refine rk_14010_123 ?_
                    exact rk_14010_124 ⟨_, rfl, by unfold q_lead; rw [if_neg q1, if_pos q22, if_neg q23, if_neg q25, if_neg q27, if_neg q31, if_neg q35, if_pos q38, if_neg q39], rfl⟩
                · refine rk_14010_109 (fun _ => ?_) (fun q' => absurd q' q38)
                  by_cases q40 : (x1) = ((Int8.ofInt (39)).toInt32)
                  · refine rk_14010_125 (fun q' => absurd q40 q') (fun _ => ?_)
                    refine rk_14010_131 ?_
                    exact rk_14010_155 ⟨_, rfl, by unfold q_lead; rw [if_neg q1, if_pos q22, if_neg q23, if_neg q25, if_neg q27, if_neg q31, if_neg q35, if_neg q38, if_pos q40], rfl⟩
                  · refine rk_14010_125 (fun _ => ?_) (fun q' => absurd q' q40)
                    by_cases q41 : (x0) = ((Int8.ofInt (6)).toInt32)
                    · refine rk_14010_138 (fun q' => absurd q41 q') (fun _ => ?_)
                      by_cases q42 : (x1) = ((Int8.ofInt (60)).toInt32)
                      · refine rk_14010_144 (fun q' => absurd q42 q') (fun _ => ?_)
                        refine rk_14010_150 ?_
                        exact rk_14010_155 ⟨_, rfl, by unfold q_lead; rw [if_neg q1, if_pos q22, if_neg q23, if_neg q25, if_neg q27, if_neg q31, if_neg q35, if_neg q38, if_neg q40, if_pos q41, if_pos q42], rfl⟩
                      · refine rk_14010_144 (fun _ => ?_) (fun q' => absurd q' q42)
                        refine rk_14010_154 ?_
                        exact rk_14010_155 ⟨_, rfl, by unfold q_lead; rw [if_neg q1, if_pos q22, if_neg q23, if_neg q25, if_neg q27, if_neg q31, if_neg q35, if_neg q38, if_neg q40, if_pos q41, if_neg q42], rfl⟩
                    · refine rk_14010_138 (fun _ => ?_) (fun q' => absurd q' q41)
                      refine rk_14010_154 ?_
                      exact rk_14010_155 ⟨_, rfl, by unfold q_lead; rw [if_neg q1, if_pos q22, if_neg q23, if_neg q25, if_neg q27, if_neg q31, if_neg q35, if_neg q38, if_neg q40, if_neg q41], rfl⟩
    · refine rk_14010_5 (fun _ => ?_) (fun q' => absurd q' q22)
      refine rk_14010_14 ?_
      by_cases q43 : (x0) = (Int32.ofInt (3))
      · refine rk_14010_15 (fun _ => ?_) (fun q' => absurd q43 q')
        by_cases q44 : (x1) = ((Int8.ofInt (34)).toInt32)
        · refine rk_14010_26 (fun q' => absurd q44 q') (fun _ => ?_)
          refine rk_14010_32 ?_
          exact rk_14010_37 ⟨_, rfl, by unfold q_lead; rw [if_neg q1, if_neg q22, if_pos q43, if_pos q44], rfl⟩
        · refine rk_14010_26 (fun _ => ?_) (fun q' => absurd q' q44)
          refine rk_14010_36 ?_
          exact rk_14010_37 ⟨_, rfl, by unfold q_lead; rw [if_neg q1, if_neg q22, if_pos q43, if_neg q44], rfl⟩
      · refine rk_14010_15 (fun q' => absurd q' q43) (fun _ => ?_)
        by_cases q45 : (x0) = (Int32.ofInt (5))
        · refine rk_14010_21 (fun q' => absurd q45 q') (fun _ => ?_)
          by_cases q46 : (x1) = ((Int8.ofInt (34)).toInt32)
          · refine rk_14010_26 (fun q' => absurd q46 q') (fun _ => ?_)
            refine rk_14010_32 ?_
            exact rk_14010_37 ⟨_, rfl, by unfold q_lead; rw [if_neg q1, if_neg q22, if_neg q43, if_pos q45, if_pos q46], rfl⟩
          · refine rk_14010_26 (fun _ => ?_) (fun q' => absurd q' q46)
            refine rk_14010_36 ?_
            exact rk_14010_37 ⟨_, rfl, by unfold q_lead; rw [if_neg q1, if_neg q22, if_neg q43, if_pos q45, if_neg q46], rfl⟩
        · refine rk_14010_21 (fun _ => ?_) (fun q' => absurd q' q45)
          by_cases q47 : (x0) = (Int32.ofInt (2))
          · refine rk_14010_38 (fun _ => ?_) (fun q' => absurd q47 q')
            by_cases q48 : (x1) = ((Int8.ofInt (62)).toInt32)
            · refine rk_14010_48 (fun q' => absurd q48 q') (fun _ => ?_)
              by_cases q49 : (x0) = (Int32.ofInt (2))
              · refine rk_14010_54 (fun q' => absurd q49 q') (fun _ => ?_)
                refine rk_14010_59 ?_
                exact rk_14010_81 ⟨_, rfl, by unfold q_lead; rw [if_neg q1, if_neg q22, if_neg q43, if_neg q45, if_pos q47, if_pos q48, if_pos q49], rfl⟩
              · refine rk_14010_54 (fun _ => ?_) (fun q' => absurd q' q49)
                refine rk_14010_63 ?_
                exact rk_14010_81 ⟨_, rfl, by unfold q_lead; rw [if_neg q1, if_neg q22, if_neg q43, if_neg q45, if_pos q47, if_pos q48, if_neg q49], rfl⟩
            · refine rk_14010_48 (fun _ => ?_) (fun q' => absurd q' q48)
              by_cases q50 : (x1) = ((Int8.ofInt (34)).toInt32)
              · refine rk_14010_68 (fun q' => absurd q50 q') (fun _ => ?_)
                refine rk_14010_74 ?_
                exact rk_14010_81 ⟨_, rfl, by unfold q_lead; rw [if_neg q1, if_neg q22, if_neg q43, if_neg q45, if_pos q47, if_neg q48, if_pos q50], rfl⟩
              · refine rk_14010_68 (fun _ => ?_) (fun q' => absurd q' q50)
                refine rk_14010_80 ?_
                exact rk_14010_81 ⟨_, rfl, by unfold q_lead; rw [if_neg q1, if_neg q22, if_neg q43, if_neg q45, if_pos q47, if_neg q48, if_neg q50], rfl⟩
          · refine rk_14010_38 (fun q' => absurd q' q47) (fun _ => ?_)
            by_cases q51 : (x0) = (Int32.ofInt (4))
            · refine rk_14010_43 (fun q' => absurd q51 q') (fun _ => ?_)
              by_cases q52 : (x1) = ((Int8.ofInt (62)).toInt32)
              · refine rk_14010_48 (fun q' => absurd q52 q') (fun _ => ?_)
                by_cases q53 : (x0) = (Int32.ofInt (2))
                · refine rk_14010_54 (fun q' => absurd q53 q') (fun _ => ?_)
                  refine rk_14010_59 ?_
                  exact rk_14010_81 ⟨_, rfl, by unfold q_lead; rw [if_neg q1, if_neg q22, if_neg q43, if_neg q45, if_neg q47, if_pos q51, if_pos q52, if_pos q53], rfl⟩
                · refine rk_14010_54 (fun _ => ?_) (fun q' => absurd q' q53)
                  refine rk_14010_63 ?_
                  exact rk_14010_81 ⟨_, rfl, by unfold q_lead; rw [if_neg q1, if_neg q22, if_neg q43, if_neg q45, if_neg q47, if_pos q51, if_pos q52, if_neg q53], rfl⟩
              · refine rk_14010_48 (fun _ => ?_) (fun q' => absurd q' q52)
                by_cases q54 : (x1) = ((Int8.ofInt (34)).toInt32)
                · refine rk_14010_68 (fun q' => absurd q54 q') (fun _ => ?_)
                  refine rk_14010_74 ?_
                  exact rk_14010_81 ⟨_, rfl, by unfold q_lead; rw [if_neg q1, if_neg q22, if_neg q43, if_neg q45, if_neg q47, if_pos q51, if_neg q52, if_pos q54], rfl⟩
                · refine rk_14010_68 (fun _ => ?_) (fun q' => absurd q' q54)
                  refine rk_14010_80 ?_
                  exact rk_14010_81 ⟨_, rfl, by unfold q_lead; rw [if_neg q1, if_neg q22, if_neg q43, if_neg q45, if_neg q47, if_pos q51, if_neg q52, if_neg q54], rfl⟩
            · refine rk_14010_43 (fun _ => ?_) (fun q' => absurd q' q51)
              by_cases q55 : (x0) = (Int32.ofInt (1))
              · refine rk_14010_82 (fun q' => absurd q55 q') (fun _ => ?_)
                by_cases q56 : (x1) = ((Int8.ofInt (62)).toInt32)
                · refine rk_14010_87 (fun q' => absurd q56 q') (fun _ => ?_)
                  refine rk_14010_93 ?_
                  exact rk_14010_108 ⟨_, rfl, by unfold q_lead; rw [if_neg q1, if_neg q22, if_neg q43, if_neg q45, if_neg q47, if_neg q51, if_pos q55, if_pos q56], rfl⟩
                · refine rk_14010_87 (fun _ => ?_) (fun q' => absurd q' q56)
                  by_cases q57 : (x1) = ((Int8.ofInt (115)).toInt32)
                  · refine rk_14010_97 (fun q' => absurd q57 q') (fun _ => ?_)
                    refine rk_14010_103 ?_
                    exact rk_14010_108 ⟨_, rfl, by unfold q_lead; rw [if_neg q1, if_neg q22, if_neg q43, if_neg q45, if_neg q47, if_neg q51, if_pos q55, if_neg q56, if_pos q57], rfl⟩
                  · refine rk_14010_97 (fun _ => ?_) (fun q' => absurd q' q57)
                    refine rk_14010_107 ?_
                    exact rk_14010_108 ⟨_, rfl, by unfold q_lead; rw [if_neg q1, if_neg q22, if_neg q43, if_neg q45, if_neg q47, if_neg q51, if_pos q55, if_neg q56, if_neg q57], rfl⟩
              · refine rk_14010_82 (fun _ => ?_) (fun q' => absurd q' q55)
                by_cases q58 : (x0) = ((0 : Int32))
                · refine rk_14010_109 (fun q' => absurd q58 q') (fun _ => ?_)
                  by_cases q59 : (x1) = ((Int8.ofInt (60)).toInt32)
                  · refine rk_14010_113 (fun q' => absurd q59 q') (fun _ => ?_)
                    refine rk_14010_119 ?_
                    exact rk_14010_124 ⟨_, rfl, by unfold q_lead; rw [if_neg q1, if_neg q22, if_neg q43, if_neg q45, if_neg q47, if_neg q51, if_neg q55, if_pos q58, if_pos q59], rfl⟩
                  · refine rk_14010_113 (fun _ => ?_) (fun q' => absurd q' q59)
                    refine rk_14010_123 ?_
                    exact rk_14010_124 ⟨_, rfl, by unfold q_lead; rw [if_neg q1, if_neg q22, if_neg q43, if_neg q45, if_neg q47, if_neg q51, if_neg q55, if_pos q58, if_neg q59], rfl⟩
                · refine rk_14010_109 (fun _ => ?_) (fun q' => absurd q' q58)
                  by_cases q60 : (x1) = ((Int8.ofInt (39)).toInt32)
                  · refine rk_14010_125 (fun q' => absurd q60 q') (fun _ => ?_)
                    refine rk_14010_131 ?_
                    exact rk_14010_155 ⟨_, rfl, by unfold q_lead; rw [if_neg q1, if_neg q22, if_neg q43, if_neg q45, if_neg q47, if_neg q51, if_neg q55, if_neg q58, if_pos q60], rfl⟩
                  · refine rk_14010_125 (fun _ => ?_) (fun q' => absurd q' q60)
                    by_cases q61 : (x0) = ((Int8.ofInt (6)).toInt32)
                    · refine rk_14010_138 (fun q' => absurd q61 q') (fun _ => ?_)
                      by_cases q62 : (x1) = ((Int8.ofInt (60)).toInt32)
                      · refine rk_14010_144 (fun q' => absurd q62 q') (fun _ => ?_)
                        refine rk_14010_150 ?_
                        exact rk_14010_155 ⟨_, rfl, by unfold q_lead; rw [if_neg q1, if_neg q22, if_neg q43, if_neg q45, if_neg q47, if_neg q51, if_neg q55, if_neg q58, if_neg q60, if_pos q61, if_pos q62], rfl⟩
                      · refine rk_14010_144 (fun _ => ?_) (fun q' => absurd q' q62)
                        refine rk_14010_154 ?_
                        exact rk_14010_155 ⟨_, rfl, by unfold q_lead; rw [if_neg q1, if_neg q22, if_neg q43, if_neg q45, if_neg q47, if_neg q51, if_neg q55, if_neg q58, if_neg q60, if_pos q61, if_neg q62], rfl⟩
                    · refine rk_14010_138 (fun _ => ?_) (fun q' => absurd q' q61)
                      refine rk_14010_154 ?_
                      exact rk_14010_155 ⟨_, rfl, by unfold q_lead; rw [if_neg q1, if_neg q22, if_neg q43, if_neg q45, if_neg q47, if_neg q51, if_neg q55, if_neg q58, if_neg q60, if_neg q61], rfl⟩
theorem q_leadA : ((List.range 8).all fun a => (List.range 128).all fun b => decide (q_lead (nI a) (nI b) = nI (ld a b))) = true := by decide +kernel
theorem q_leadn {a b : Nat} {G : mj_G} (ha : a < 8) (hb : b < 128) : rj_X d 14010 0 [some (.inl (nI a)), some (.inl (nI b)), none] [] G (fun o G1 => ∃ v, o = .inl (some (.inl v)) ∧ (nI (ld a b) = v ∧ G = G1)) := by
  have h := of_decide_eq_true (List.all_eq_true.mp (List.all_eq_true.mp q_leadA a (List.mem_range.mpr ha)) b (List.mem_range.mpr hb))
  rw [← h]
  exact q_leadX
theorem s_189 (hd : 1200 ≤ d) (hs : OB k s H) : RX (d + 3) 14011 189 (fun a => [some (.inr (.inr a)), none, none, some (.inl (nI (o_n (ls_o s)))), none, some (.inl (Int32.ofInt (1))), none, none]) (fun _ => []) H (fun o H' => ∃ s', o = .inl (some (.inl (Int32.ofInt (1)))) ∧ OB (k + 6) s' H') := by
  have h300 : o_n (ls_o s) ≤ 300 := hs.1.2.2.2.1.1
  refine RX_b (fun a G Q _ h => rk_14011_189 (fun q => absurd q (by decide +kernel)) (fun _ => h)) ?_
  refine RX_b (fun a G Q _ h => rk_14011_194 h) ?_
  obtain ⟨s1, y1, H1, g1, ⟨e1, f1⟩, -, r1⟩ := k_kept (d := d + 2) (by omega) hs
  rw [e1] at g1
  rw [f1] at r1
  refine RX_c r1 (fun a G Q T k13 h hk => rc_14011_195 (R := fun v' G1 => nI (kp (ls_F s) 10) = v' ∧ T G1) k13 (rc_i h) (fun v' G1 hR => by
    obtain ⟨rfl, hT⟩ := hR
    exact hk G1 hT)) ?_
  have hkp := kp_le (ls_F s) 10
  refine RX_b (fun a G Q _ h => rk_14011_198 (fun q => absurd q (by rw [show (0 : Int32) = nI 0 from rfl, z_lt (by omega) (by decide)]; omega)) (fun _ => h)) ?_
  refine RX_b (fun a G Q _ h => rk_14011_201 h) ?_
  obtain ⟨s2, y2, H2, g2, ⟨e2, f2⟩, -, r2⟩ := k_kept (d := d + 2) (by omega) g1
  rw [e2] at g2
  rw [f2] at r2
  refine RX_c r2 (fun a G Q T k13 h hk => rc_14011_202 (R := fun v' G1 => nI (kp (ls_F s) 10) = v' ∧ T G1) k13 (rc_i h) (fun v' G1 hR => by
    obtain ⟨rfl, hT⟩ := hR
    exact hk G1 hT)) ?_
  refine RX_b (fun a G Q _ h => rk_14011_205 (fun q => absurd q (by rw [show (Int8.ofInt (10)).toInt32 = nI 10 by decide +kernel, z_lt (by decide) (by omega)]; omega)) (fun _ => h)) ?_
  refine RX_b (fun a G Q _ h => rk_14011_210 h) ?_
  obtain ⟨s3, y3, H3, g3, ⟨e3, f3⟩, -, r3⟩ := k_spent (d := d + 2) (by omega) g2
  rw [e3] at g3
  rw [f3] at r3
  refine RX_c r3 (fun a G Q T k13 h hk => rc_14011_211 (R := fun v' G1 => nI (ls_t s) = v' ∧ T G1) k13 (rc_i h) (fun v' G1 hR => by
    obtain ⟨rfl, hT⟩ := hR
    exact hk G1 hT)) ?_
  have ht : ls_t s ≤ 2000 := hs.1.2.2.2.2.2.2
  refine RX_b (fun a G Q _ h => rk_14011_214 (fun q => absurd q (by rw [show (0 : Int32) = nI 0 from rfl, z_lt (by omega) (by decide)]; omega)) (fun _ => h)) ?_
  refine RX_b (fun a G Q _ h => rk_14011_217 h) ?_
  have m1 := (mn2_le (a := o_n (ls_o s)) (b := ls_b s)).1
  have m2 := (ak_le (a := o_c (ls_o s)) (b := ls_c s) (N := mn2 (o_n (ls_o s)) (ls_b s)) (m := mn2 (o_n (ls_o s)) (ls_b s)) (i := 0) (by omega)).1
  have m3 := al2_le (a := o_c (ls_o s)) (b := ls_c s) (n := o_n (ls_o s)) (m := ls_b s) (mn2 (o_n (ls_o s)) (ls_b s) - ak (o_c (ls_o s)) (ls_c s) (mn2 (o_n (ls_o s)) (ls_b s)) (mn2 (o_n (ls_o s)) (ls_b s)) 0) 0
  obtain ⟨s4, y4, H4, g4, ⟨e4, f4⟩, -, r4⟩ := k_alike (d := d + 2) (by omega) g3
  rw [e4] at g4
  rw [f4] at r4
  refine RX_c r4 (fun a G Q T k13 h hk => rc_14011_218 (R := fun v' G1 => nI (ak (o_c (ls_o s)) (ls_c s) (mn2 (o_n (ls_o s)) (ls_b s)) (mn2 (o_n (ls_o s)) (ls_b s)) 0) = v' ∧ T G1) k13 (rc_i h) (fun v' G1 hR => by
    obtain ⟨rfl, hT⟩ := hR
    exact hk G1 hT)) ?_
  refine RX_b (fun a G Q _ h => rk_14011_221 (fun q => absurd q (by rw [z_lt (by omega) (by omega)]; omega)) (fun _ => h)) ?_
  refine RX_b (fun a G Q _ h => rk_14011_225 h) ?_
  obtain ⟨s5, y5, H5, g5, ⟨e5, f5⟩, -, r5⟩ := k_alike (d := d + 2) (by omega) g4
  rw [e5] at g5
  rw [f5] at r5
  refine RX_c r5 (fun a G Q T k13 h hk => rc_14011_226 (R := fun v' G1 => nI (ak (o_c (ls_o s)) (ls_c s) (mn2 (o_n (ls_o s)) (ls_b s)) (mn2 (o_n (ls_o s)) (ls_b s)) 0) = v' ∧ T G1) k13 (rc_i h) (fun v' G1 hR => by
    obtain ⟨rfl, hT⟩ := hR
    exact hk G1 hT)) ?_
  refine RX_b (fun a G Q _ h => rk_14011_229 h) ?_
  obtain ⟨s6, y6, H6, g6, ⟨e6, f6⟩, -, r6⟩ := k_alikeAtEnd (d := d + 2) (by omega) g5
  rw [e6] at g6
  rw [f6] at r6
  refine RX_c r6 (fun a G Q T k13 h hk => rc_14011_230 (R := fun v' G1 => nI (al2 (o_c (ls_o s)) (ls_c s) (o_n (ls_o s)) (ls_b s) (mn2 (o_n (ls_o s)) (ls_b s) - ak (o_c (ls_o s)) (ls_c s) (mn2 (o_n (ls_o s)) (ls_b s)) (mn2 (o_n (ls_o s)) (ls_b s)) 0) 0) = v' ∧ T G1) k13 (rc_i h) (fun v' G1 hR => by
    obtain ⟨rfl, hT⟩ := hR
    exact hk G1 hT)) ?_
  refine RX_b (fun a G Q _ h => rk_14011_233 (fun q => absurd q (by rw [z_add, z_lt (by omega) (by omega)]; omega)) (fun _ => h)) ?_
  refine RX_b (fun a G Q _ h => rk_14011_238 h) ?_
  exact RX_e (fun a G Q h => rk_14011_243 (Or.inr rfl) h) ⟨s, rfl, OB_m g6 (by omega)⟩
theorem s_89 (hd : 1200 ≤ d) (hs : OB k s H) : ∀ m j, j + m = o_n (ls_o s) → RX (d + 3) 14011 89 (fun a => [some (.inr (.inr a)), none, none, some (.inl (nI (o_n (ls_o s)))), some (.inl (nI (o_x (ls_o s) j))), some (.inl (Int32.ofInt (1))), some (.inl (nI j)), none]) (fun _ => []) H (fun o H' => ∃ s', o = .inl (some (.inl (Int32.ofInt (1)))) ∧ OB (k + 6) s' H')
  | 0, j, hj => by
    have h300 : o_n (ls_o s) ≤ 300 := hs.1.2.2.2.1.1
    refine RX_b (fun a G Q _ h => rk_14011_89 (fun _ => h) (fun q => absurd (by rw [z_le (by omega) (by omega)]; omega) q)) ?_
    exact s_189 hd hs
  | m + 1, j, hj => by
    have h300 : o_n (ls_o s) ≤ 300 := hs.1.2.2.2.1.1
    have hjn : j < o_n (ls_o s) := by omega
    obtain ⟨z1, z2, z3, z4, -⟩ := hs.1.2.2.2.1.2.2 j hjn
    have x8 := o_x8 hs.1.2.2.2.1 (i := j) (by omega)
    obtain ⟨T0, p0, w1, w2, w3⟩ := hs.2.1.2.2.2.2.1 j hjn
    refine RX_b (fun a G Q _ h => rk_14011_89 (fun q => absurd q (by rw [z_le (by omega) (by omega)]; omega)) (fun _ => h)) ?_
    refine RX_b (fun a G Q _ h => rk_14011_95 (fun q => absurd q (by decide +kernel)) (fun _ => h)) ?_
    refine RX_b (fun a G Q _ h => rk_14011_100 h) ?_
    refine RX_c (pc' := 106) (k_outv hjn (d := d + 2) (by omega) hs) (fun a G Q T k13 h hk => rj_X_callP rfl rfl rfl (Nat.le_of_ble_eq_true rfl) (And.intro (Nat.le_of_ble_eq_true rfl) k13) h (fun o G1 hP => by
      obtain ⟨rfl, hT⟩ := hP
      exact hk G1 hT)) ?_
    refine RX_b (fun a G Q _ h => rk_14011_106 h) ?_
    refine RX_b (fun a G Q _ h => rc_14011_112 (R := fun v' G1 => nI (ld (o_x (ls_o s) j) (o_c (ls_o s) j % 128)) = v' ∧ G = G1) (q_leadn x8 (by omega)) (fun v' G1 hR => by
      obtain ⟨rfl, rfl⟩ := hR
      exact h)) ?_
    rw [← z4]
    refine RX_b (fun a G Q _ h => rk_14011_115 h) ?_
    refine RX_c (pc' := 123) (k_outAv hjn (d := d + 2) (by omega) hs) (fun a G Q T k13 h hk => rj_X_callP rfl rfl rfl (Nat.le_of_ble_eq_true rfl) (And.intro (Nat.le_of_ble_eq_true rfl) k13) h (fun o G1 hP => by
      obtain ⟨rfl, hT⟩ := hP
      exact hk G1 hT)) ?_
    refine RX_b (fun a G Q _ h => rk_14011_123 (fun q => absurd rfl q) (fun _ => h)) ?_
    refine RX_b (fun a G Q _ h => rk_14011_128 h) ?_
    rw [show nI j + Int32.ofInt (1) = nI (j + 1) from z_add j 1]
    refine RX_c (pc' := 136) (k_ctx (x := j + 1) (by omega) (d := d + 2) (by omega) hs) (fun a G Q T k13 h hk => rj_X_callP rfl rfl rfl (Nat.le_of_ble_eq_true rfl) (And.intro (Nat.le_of_ble_eq_true rfl) k13) h (fun o G1 hP => by
      obtain ⟨rfl, hT⟩ := hP
      exact hk G1 hT)) ?_
    refine RX_b (fun a G Q _ h => rk_14011_136 (fun q => absurd rfl q) (fun _ => h)) ?_
    refine RX_b (fun a G Q _ h => rk_14011_141 h) ?_
    refine RX_c (pc' := 147) (k_srcv hjn (d := d + 2) (by omega) hs) (fun a G Q T k13 h hk => rj_X_callP rfl rfl rfl (Nat.le_of_ble_eq_true rfl) (And.intro (Nat.le_of_ble_eq_true rfl) k13) h (fun o G1 hP => by
      obtain ⟨rfl, hT⟩ := hP
      exact hk G1 hT)) ?_
    refine RX_b (fun a G Q _ h => rk_14011_147 (fun q => absurd q (by rw [show (0 : Int32) = nI 0 from rfl, z_lt (by omega) (by decide)]; omega)) (fun _ => h)) ?_
    refine RX_b (fun a G Q _ h => rk_14011_150 h) ?_
    refine RX_c (pc' := 156) (k_srcv hjn (d := d + 2) (by omega) hs) (fun a G Q T k13 h hk => rj_X_callP rfl rfl rfl (Nat.le_of_ble_eq_true rfl) (And.intro (Nat.le_of_ble_eq_true rfl) k13) h (fun o G1 hP => by
      obtain ⟨rfl, hT⟩ := hP
      exact hk G1 hT)) ?_
    refine RX_b (fun a G Q _ h => rk_14011_156 (fun q => absurd q (by rw [show (Int16.ofInt (1000)).toInt32 = nI 1000 by decide +kernel, z_le (by decide) (by omega)]; omega)) (fun _ => h)) ?_
    refine RX_b (fun a G Q _ h => rk_14011_162 h) ?_
    refine RX_c (pc' := 168) (k_srcv hjn (d := d + 2) (by omega) hs) (fun a G Q T k13 h hk => rj_X_callP rfl rfl rfl (Nat.le_of_ble_eq_true rfl) (And.intro (Nat.le_of_ble_eq_true rfl) k13) h (fun o G1 hP => by
      obtain ⟨rfl, hT⟩ := hP
      exact hk G1 hT)) ?_
    have e100 : nI (o_c (ls_o s) j / 262144) - nI (o_c (ls_o s) j / 262144) / ((Int8.ofInt (100)).toInt32) * ((Int8.ofInt (100)).toInt32) = nI p0 := by
      rw [show (Int8.ofInt (100)).toInt32 = nI 100 by decide +kernel, z_dv (by omega) (by decide), z_mul, z_sub (by omega)]
      congr 1
      omega
    refine RX_b (fun a G Q _ h => rk_14011_168 (by decide +kernel) e100 (fun q => absurd q (by rw [show (Int8.ofInt (80)).toInt32 = nI 80 by decide +kernel, z_le (by decide) (by omega)]; omega)) (fun _ => h)) ?_
    refine RX_b (fun a G Q _ h => rk_14011_176 h) ?_
    refine RX_b (fun a G Q _ h => rk_14011_181 h) ?_
    rw [show nI j + Int32.ofInt (1) = nI (j + 1) from z_add j 1]
    exact s_89 hd hs m (j + 1) (by omega)
theorem s_41 (hd : 1200 ≤ d) (hs : OB k s H) : RX (d + 3) 14011 41 (fun a => [some (.inr (.inr a)), none, none, some (.inl (nI (o_n (ls_o s)))), some (.inl (Int32.ofInt (0))), none, none, none]) (fun _ => []) H (fun o H' => ∃ s', o = .inl (some (.inl (Int32.ofInt (1)))) ∧ OB (k + 20) s' H') := by
  have h300 : o_n (ls_o s) ≤ 300 := hs.1.2.2.2.1.1
  have hx0 : o_x (ls_o s) 0 = 0 := hs.1.2.2.2.1.2.1
  refine RX_b (fun a G Q _ h => rk_14011_41 h) ?_
  have r0 := k_ctx (x := 0) (Nat.zero_le _) (d := d + 2) (by omega) hs
  rw [hx0] at r0
  refine RX_c (pc' := 46) r0 (fun a G Q T k13 h hk => rj_X_callP rfl rfl rfl (Nat.le_of_ble_eq_true rfl) (And.intro (Nat.le_of_ble_eq_true rfl) k13) h (fun o G1 hP => by
    obtain ⟨rfl, hT⟩ := hP
    exact hk G1 hT)) ?_
  refine RX_b (fun a G Q _ h => rk_14011_46 (fun q => absurd rfl q) (fun _ => h)) ?_
  refine RX_b (fun a G Q _ h => rk_14011_49 h) ?_
  obtain ⟨s1, y1, H1, g1, ⟨e1, -, f1⟩, u1, r1⟩ := k_out (x := nI (o_n (ls_o s))) (d := d + 1) (by omega) hs
  rw [e1] at g1
  rw [f1 _ (Nat.le_refl _) (by omega) rfl] at r1
  have t1 := dw_7 (x1 := (Int8.ofInt (7)).toInt32) (x3 := Int32.ofInt (0)) (x4 := Int32.ofInt (0)) (by decide +kernel) r1 (fun e q => by cases q; exact Or.inr (Or.inr rfl))
  refine RX_c t1 (fun a G Q T _ h hk => rc_14011_55 (R := fun v' G1 => (-9999999 : Int32) = v' ∧ T G1) (rc_i h) (fun v' G1 hR => by
    obtain ⟨rfl, hT⟩ := hR
    exact hk G1 hT)) ?_
  refine RX_b (fun a G Q _ h => rk_14011_58 (fun q => absurd rfl q) (fun _ => h)) ?_
  refine RX_b (fun a G Q _ h => rk_14011_63 h) ?_
  rw [show nI (o_n (ls_o s)) + Int32.ofInt (1) = nI (o_n (ls_o s) + 1) from z_add _ 1]
  obtain ⟨s2, y2, H2, g2, ⟨e2, -, f2⟩, u2, r2⟩ := k_context (x := nI (o_n (ls_o s) + 1)) (d := d + 1) (by omega) g1
  rw [e2] at g2
  rw [f2 _ (Nat.lt_succ_self _) (by omega) rfl] at r2
  have t2 := dw_10 (x1 := (Int8.ofInt (10)).toInt32) (x3 := Int32.ofInt (0)) (x4 := Int32.ofInt (0)) (by decide +kernel) r2 (fun e q => by cases q; exact Or.inr (Or.inr rfl))
  refine RX_c t2 (fun a G Q T _ h hk => rc_14011_71 (R := fun v' G1 => (-9999999 : Int32) = v' ∧ T G1) (rc_i h) (fun v' G1 hR => by
    obtain ⟨rfl, hT⟩ := hR
    exact hk G1 hT)) ?_
  refine RX_b (fun a G Q _ h => rk_14011_74 (fun q => absurd rfl q) (fun _ => h)) ?_
  refine RX_b (fun a G Q _ h => rk_14011_79 h) ?_
  refine RX_b (fun a G Q _ h => rk_14011_84 h) ?_
  have h89 := s_89 hd g2 (o_n (ls_o s)) 0 (by omega)
  rw [hx0] at h89
  refine RX_m h89 ?_
  rintro o G ⟨s3, a1, a2⟩
  exact ⟨s3, a1, OB_m a2 (by omega)⟩
theorem nn_lt {n : Nat} {x : Int32} (hn : n < 2 ^ 31) (hx : x < nI 0) : ¬ nI n < x := fun q => by
  rw [Int32.lt_iff_toInt_lt] at q hx
  rw [nI_toInt hn] at q
  rw [nI_toInt (by decide)] at hx
  omega
theorem t_out (hM : mm_S Gm) (ht : t < 10) (hd : 1200 ≤ d) (hs : OB k s H) : ∃ s' H', OB (k + 20) s' H' ∧ RV (d + 3) 14011 [some (.inl (nI t)), none, none, none, none, none, none] (.inl (some (.inl (Int32.ofInt (1))))) H H' := by
  have h : RX (d + 3) 14011 0 (fun a => [some (.inr (.inr a)), some (.inl (nI t)), none, none, none, none, none, none]) (fun _ => []) H (fun o H' => ∃ s', o = .inl (some (.inl (Int32.ofInt (1)))) ∧ OB (k + 20) s' H') := by
    refine RX_b (fun a G Q _ h => rk_14011_0 h) ?_
    obtain ⟨x1, e, o', st, hts, FG, H1, g1, -, he, -, r1⟩ := k_ren hM ht (d := d + 1) (by omega) hs
    have t1 := dw_6 (x1 := (Int8.ofInt (6)).toInt32) (x3 := Int32.ofInt (0)) (x4 := Int32.ofInt (0)) (res := .inl (if e = nI 0 then nI (o_n o') else e)) (by decide +kernel) r1 (fun e q => by cases q)
    refine RX_c t1 (fun a G Q T _ h hk => rc_14011_6 (R := fun v' G1 => (if e = nI 0 then nI (o_n o') else e) = v' ∧ T G1) (rc_i h) (fun v' G1 hR => by
      obtain ⟨rfl, hT⟩ := hR
      exact hk G1 hT)) ?_
    have h300 : o_n (ls_o (ls_rr s x1 e o' st hts FG)) ≤ 300 := g1.1.2.2.2.1.1
    have h41 := s_41 hd g1
    by_cases q0 : e = nI 0
    · have e2 : ls_o (ls_rr s x1 e o' st hts FG) = o' := if_pos q0
      rw [e2] at h300 h41
      rw [if_pos q0]
      refine RX_b (fun a G Q _ h => rk_14011_9 (fun _ => h) (fun q => absurd (by rw [show (0 : Int32) = nI 0 from rfl, z_le (by decide) (by omega)]; omega) q)) ?_
      refine RX_b (fun a G Q _ h => rk_14011_18 h) ?_
      refine RX_b (fun a G Q _ h => rk_14011_19 (fun q => absurd q (nn_lt (by omega) (by decide +kernel))) (fun _ => h)) ?_
      refine RX_b (fun a G Q _ h => rk_14011_29 (fun q => absurd q (by rw [show (Int16.ofInt (300)).toInt32 = nI 300 by decide +kernel, z_lt (by decide) (by omega)]; omega)) (fun _ => h)) ?_
      refine RX_b (fun a G Q _ h => rk_14011_36 (fun q => absurd q (z_m1n (by omega))) (fun _ => h)) ?_
      exact h41
    · have e2 : ls_o (ls_rr s x1 e o' st hts FG) = o_z (ls_o s) := if_neg q0
      rw [e2, show nI (o_n (o_z (ls_o s))) = Int32.ofInt (0) from rfl] at h41
      rw [if_neg q0]
      have c1 : ¬ (0 : Int32) ≤ e ∧ ¬ e < (Int8.ofInt (-10)).toInt32 ∧ ¬ (Int16.ofInt (300)).toInt32 < e ∧ ¬ e = Int32.ofInt (-1) := by
        rcases he with rfl | rfl | rfl | rfl | rfl | rfl | rfl | rfl | rfl | rfl
        · exact absurd rfl q0
        · decide +kernel
        · decide +kernel
        · decide +kernel
        · decide +kernel
        · decide +kernel
        · decide +kernel
        · decide +kernel
        · decide +kernel
        · decide +kernel
      refine RX_b (fun a G Q _ h => rk_14011_9 (fun q => absurd q c1.1) (fun _ => h)) ?_
      refine RX_b (fun a G Q _ h => rk_14011_14 h) ?_
      refine RX_b (fun a G Q _ h => rk_14011_19 (fun q => absurd q c1.2.1) (fun _ => h)) ?_
      refine RX_b (fun a G Q _ h => rk_14011_29 (fun q => absurd q c1.2.2.1) (fun _ => h)) ?_
      refine RX_b (fun a G Q _ h => rk_14011_36 (fun q => absurd q c1.2.2.2) (fun _ => h)) ?_
      exact h41
  obtain ⟨o, H', ⟨s', rfl, h1⟩, h2⟩ := RX_v h
  exact ⟨s', H', h1, h2⟩
end H08
