/-! THE MODEL'S STATE: the ints of the cells 1714 .. 1766, as a function (wip/tools/gen35.py, wgen.py) -/
abbrev mm_F : Type := Nat → Nat → Int32
def mm_M (f : mm_F) (G : mj_G) : mj_G := (mj_n G, mj_u G, mj_k G, mj_l G, fun a k => if 1714 ≤ a ∧ a ≤ 1766 then f a k else mj_i G a k, mj_r G, mj_j G)
def mm_tb : List (Nat × Nat × Nat × Nat) := [(1, 1715, 20, 80), (4, 1716, 20, 800), (5, 1717, 20, 10), (6, 1718, 20, 1600), (7, 1719, 20, 20), (8, 1720, 20, 26), (9, 1721, 20, 26), (10, 1722, 20, 26), (11, 1723, 20, 1040), (12, 1724, 20, 208), (13, 1725, 20, 208), (14, 1726, 20, 208), (15, 1727, 20, 8320), (16, 1728, 20, 380), (17, 1729, 20, 380), (18, 1730, 20, 380), (19, 1731, 23, 380), (20, 1732, 20, 114000), (24, 1733, 20, 400), (25, 1734, 20, 400), (28, 1735, 20, 320), (29, 1736, 20, 320), (31, 1737, 20, 140), (32, 1738, 20, 14), (35, 1739, 20, 14), (36, 1740, 20, 14), (37, 1741, 20, 14), (38, 1742, 20, 14), (39, 1743, 20, 14), (40, 1744, 20, 14), (45, 1745, 20, 12), (46, 1746, 20, 12), (47, 1747, 20, 12), (48, 1748, 23, 12), (49, 1749, 20, 10), (50, 1750, 20, 100), (51, 1751, 20, 10), (52, 1752, 20, 10), (53, 1753, 23, 10), (54, 1754, 20, 10), (55, 1755, 20, 10), (56, 1756, 20, 50960), (57, 1757, 20, 3000), (58, 1758, 20, 10), (59, 1759, 20, 300), (60, 1760, 20, 301), (63, 1761, 20, 300), (65, 1762, 20, 33600), (71, 1763, 20, 26), (72, 1764, 20, 26), (73, 1765, 20, 780), (76, 1766, 20, 40)]
/-- the rows of the model lie where they were made -/
def mm_S (G : mj_G) : Prop := mj_k G 1714 = 14 ∧ ∀ p, p ∈ mm_tb → mj_r G 1714 p.1 = p.2.1 ∧ mj_k G p.2.1 = p.2.2.1 ∧ mj_l G p.2.1 = p.2.2.2
theorem mm_k0 {f : mm_F} {G : mj_G} (hS : mm_S G) : mj_k (mm_M f G) 1714 = 14 := hS.1
/-- written -/
theorem mm_r1 {f : mm_F} {G : mj_G} (hS : mm_S G) : mj_r (mm_M f G) 1714 1 = 1715 := (hS.2 (1, 1715, 20, 80) (by decide)).1
theorem mm_k1715 {f : mm_F} {G : mj_G} (hS : mm_S G) : mj_k (mm_M f G) 1715 = 20 := (hS.2 (1, 1715, 20, 80) (by decide)).2.1
theorem mm_l1715 {f : mm_F} {G : mj_G} (hS : mm_S G) : mj_l (mm_M f G) 1715 = 80 := (hS.2 (1, 1715, 20, 80) (by decide)).2.2
/-- templates -/
theorem mm_r4 {f : mm_F} {G : mj_G} (hS : mm_S G) : mj_r (mm_M f G) 1714 4 = 1716 := (hS.2 (4, 1716, 20, 800) (by decide)).1
theorem mm_k1716 {f : mm_F} {G : mj_G} (hS : mm_S G) : mj_k (mm_M f G) 1716 = 20 := (hS.2 (4, 1716, 20, 800) (by decide)).2.1
theorem mm_l1716 {f : mm_F} {G : mj_G} (hS : mm_S G) : mj_l (mm_M f G) 1716 = 800 := (hS.2 (4, 1716, 20, 800) (by decide)).2.2
/-- lengths -/
theorem mm_r5 {f : mm_F} {G : mj_G} (hS : mm_S G) : mj_r (mm_M f G) 1714 5 = 1717 := (hS.2 (5, 1717, 20, 10) (by decide)).1
theorem mm_k1717 {f : mm_F} {G : mj_G} (hS : mm_S G) : mj_k (mm_M f G) 1717 = 20 := (hS.2 (5, 1717, 20, 10) (by decide)).2.1
theorem mm_l1717 {f : mm_F} {G : mj_G} (hS : mm_S G) : mj_l (mm_M f G) 1717 = 10 := (hS.2 (5, 1717, 20, 10) (by decide)).2.2
/-- messages -/
theorem mm_r6 {f : mm_F} {G : mj_G} (hS : mm_S G) : mj_r (mm_M f G) 1714 6 = 1718 := (hS.2 (6, 1718, 20, 1600) (by decide)).1
theorem mm_k1718 {f : mm_F} {G : mj_G} (hS : mm_S G) : mj_k (mm_M f G) 1718 = 20 := (hS.2 (6, 1718, 20, 1600) (by decide)).2.1
theorem mm_l1718 {f : mm_F} {G : mj_G} (hS : mm_S G) : mj_l (mm_M f G) 1718 = 1600 := (hS.2 (6, 1718, 20, 1600) (by decide)).2.2
/-- messageLengths -/
theorem mm_r7 {f : mm_F} {G : mj_G} (hS : mm_S G) : mj_r (mm_M f G) 1714 7 = 1719 := (hS.2 (7, 1719, 20, 20) (by decide)).1
theorem mm_k1719 {f : mm_F} {G : mj_G} (hS : mm_S G) : mj_k (mm_M f G) 1719 = 20 := (hS.2 (7, 1719, 20, 20) (by decide)).2.1
theorem mm_l1719 {f : mm_F} {G : mj_G} (hS : mm_S G) : mj_l (mm_M f G) 1719 = 20 := (hS.2 (7, 1719, 20, 20) (by decide)).2.2
/-- dataKinds -/
theorem mm_r8 {f : mm_F} {G : mj_G} (hS : mm_S G) : mj_r (mm_M f G) 1714 8 = 1720 := (hS.2 (8, 1720, 20, 26) (by decide)).1
theorem mm_k1720 {f : mm_F} {G : mj_G} (hS : mm_S G) : mj_k (mm_M f G) 1720 = 20 := (hS.2 (8, 1720, 20, 26) (by decide)).2.1
theorem mm_l1720 {f : mm_F} {G : mj_G} (hS : mm_S G) : mj_l (mm_M f G) 1720 = 26 := (hS.2 (8, 1720, 20, 26) (by decide)).2.2
/-- dataNumbers -/
theorem mm_r9 {f : mm_F} {G : mj_G} (hS : mm_S G) : mj_r (mm_M f G) 1714 9 = 1721 := (hS.2 (9, 1721, 20, 26) (by decide)).1
theorem mm_k1721 {f : mm_F} {G : mj_G} (hS : mm_S G) : mj_k (mm_M f G) 1721 = 20 := (hS.2 (9, 1721, 20, 26) (by decide)).2.1
theorem mm_l1721 {f : mm_F} {G : mj_G} (hS : mm_S G) : mj_l (mm_M f G) 1721 = 26 := (hS.2 (9, 1721, 20, 26) (by decide)).2.2
/-- dataLengths -/
theorem mm_r10 {f : mm_F} {G : mj_G} (hS : mm_S G) : mj_r (mm_M f G) 1714 10 = 1722 := (hS.2 (10, 1722, 20, 26) (by decide)).1
theorem mm_k1722 {f : mm_F} {G : mj_G} (hS : mm_S G) : mj_k (mm_M f G) 1722 = 20 := (hS.2 (10, 1722, 20, 26) (by decide)).2.1
theorem mm_l1722 {f : mm_F} {G : mj_G} (hS : mm_S G) : mj_l (mm_M f G) 1722 = 26 := (hS.2 (10, 1722, 20, 26) (by decide)).2.2
/-- dataTexts -/
theorem mm_r11 {f : mm_F} {G : mj_G} (hS : mm_S G) : mj_r (mm_M f G) 1714 11 = 1723 := (hS.2 (11, 1723, 20, 1040) (by decide)).1
theorem mm_k1723 {f : mm_F} {G : mj_G} (hS : mm_S G) : mj_k (mm_M f G) 1723 = 20 := (hS.2 (11, 1723, 20, 1040) (by decide)).2.1
theorem mm_l1723 {f : mm_F} {G : mj_G} (hS : mm_S G) : mj_l (mm_M f G) 1723 = 1040 := (hS.2 (11, 1723, 20, 1040) (by decide)).2.2
/-- itemKinds -/
theorem mm_r12 {f : mm_F} {G : mj_G} (hS : mm_S G) : mj_r (mm_M f G) 1714 12 = 1724 := (hS.2 (12, 1724, 20, 208) (by decide)).1
theorem mm_k1724 {f : mm_F} {G : mj_G} (hS : mm_S G) : mj_k (mm_M f G) 1724 = 20 := (hS.2 (12, 1724, 20, 208) (by decide)).2.1
theorem mm_l1724 {f : mm_F} {G : mj_G} (hS : mm_S G) : mj_l (mm_M f G) 1724 = 208 := (hS.2 (12, 1724, 20, 208) (by decide)).2.2
/-- itemNumbers -/
theorem mm_r13 {f : mm_F} {G : mj_G} (hS : mm_S G) : mj_r (mm_M f G) 1714 13 = 1725 := (hS.2 (13, 1725, 20, 208) (by decide)).1
theorem mm_k1725 {f : mm_F} {G : mj_G} (hS : mm_S G) : mj_k (mm_M f G) 1725 = 20 := (hS.2 (13, 1725, 20, 208) (by decide)).2.1
theorem mm_l1725 {f : mm_F} {G : mj_G} (hS : mm_S G) : mj_l (mm_M f G) 1725 = 208 := (hS.2 (13, 1725, 20, 208) (by decide)).2.2
/-- itemLengths -/
theorem mm_r14 {f : mm_F} {G : mj_G} (hS : mm_S G) : mj_r (mm_M f G) 1714 14 = 1726 := (hS.2 (14, 1726, 20, 208) (by decide)).1
theorem mm_k1726 {f : mm_F} {G : mj_G} (hS : mm_S G) : mj_k (mm_M f G) 1726 = 20 := (hS.2 (14, 1726, 20, 208) (by decide)).2.1
theorem mm_l1726 {f : mm_F} {G : mj_G} (hS : mm_S G) : mj_l (mm_M f G) 1726 = 208 := (hS.2 (14, 1726, 20, 208) (by decide)).2.2
/-- itemTexts -/
theorem mm_r15 {f : mm_F} {G : mj_G} (hS : mm_S G) : mj_r (mm_M f G) 1714 15 = 1727 := (hS.2 (15, 1727, 20, 8320) (by decide)).1
theorem mm_k1727 {f : mm_F} {G : mj_G} (hS : mm_S G) : mj_k (mm_M f G) 1727 = 20 := (hS.2 (15, 1727, 20, 8320) (by decide)).2.1
theorem mm_l1727 {f : mm_F} {G : mj_G} (hS : mm_S G) : mj_l (mm_M f G) 1727 = 8320 := (hS.2 (15, 1727, 20, 8320) (by decide)).2.2
/-- kinds -/
theorem mm_r16 {f : mm_F} {G : mj_G} (hS : mm_S G) : mj_r (mm_M f G) 1714 16 = 1728 := (hS.2 (16, 1728, 20, 380) (by decide)).1
theorem mm_k1728 {f : mm_F} {G : mj_G} (hS : mm_S G) : mj_k (mm_M f G) 1728 = 20 := (hS.2 (16, 1728, 20, 380) (by decide)).2.1
theorem mm_l1728 {f : mm_F} {G : mj_G} (hS : mm_S G) : mj_l (mm_M f G) 1728 = 380 := (hS.2 (16, 1728, 20, 380) (by decide)).2.2
/-- numbers -/
theorem mm_r17 {f : mm_F} {G : mj_G} (hS : mm_S G) : mj_r (mm_M f G) 1714 17 = 1729 := (hS.2 (17, 1729, 20, 380) (by decide)).1
theorem mm_k1729 {f : mm_F} {G : mj_G} (hS : mm_S G) : mj_k (mm_M f G) 1729 = 20 := (hS.2 (17, 1729, 20, 380) (by decide)).2.1
theorem mm_l1729 {f : mm_F} {G : mj_G} (hS : mm_S G) : mj_l (mm_M f G) 1729 = 380 := (hS.2 (17, 1729, 20, 380) (by decide)).2.2
/-- sizes -/
theorem mm_r18 {f : mm_F} {G : mj_G} (hS : mm_S G) : mj_r (mm_M f G) 1714 18 = 1730 := (hS.2 (18, 1730, 20, 380) (by decide)).1
theorem mm_k1730 {f : mm_F} {G : mj_G} (hS : mm_S G) : mj_k (mm_M f G) 1730 = 20 := (hS.2 (18, 1730, 20, 380) (by decide)).2.1
theorem mm_l1730 {f : mm_F} {G : mj_G} (hS : mm_S G) : mj_l (mm_M f G) 1730 = 380 := (hS.2 (18, 1730, 20, 380) (by decide)).2.2
/-- areSafe -/
theorem mm_r19 {f : mm_F} {G : mj_G} (hS : mm_S G) : mj_r (mm_M f G) 1714 19 = 1731 := (hS.2 (19, 1731, 23, 380) (by decide)).1
theorem mm_k1731 {f : mm_F} {G : mj_G} (hS : mm_S G) : mj_k (mm_M f G) 1731 = 23 := (hS.2 (19, 1731, 23, 380) (by decide)).2.1
theorem mm_l1731 {f : mm_F} {G : mj_G} (hS : mm_S G) : mj_l (mm_M f G) 1731 = 380 := (hS.2 (19, 1731, 23, 380) (by decide)).2.2
/-- characters -/
theorem mm_r20 {f : mm_F} {G : mj_G} (hS : mm_S G) : mj_r (mm_M f G) 1714 20 = 1732 := (hS.2 (20, 1732, 20, 114000) (by decide)).1
theorem mm_k1732 {f : mm_F} {G : mj_G} (hS : mm_S G) : mj_k (mm_M f G) 1732 = 20 := (hS.2 (20, 1732, 20, 114000) (by decide)).2.1
theorem mm_l1732 {f : mm_F} {G : mj_G} (hS : mm_S G) : mj_l (mm_M f G) 1732 = 114000 := (hS.2 (20, 1732, 20, 114000) (by decide)).2.2
/-- behind -/
theorem mm_r24 {f : mm_F} {G : mj_G} (hS : mm_S G) : mj_r (mm_M f G) 1714 24 = 1733 := (hS.2 (24, 1733, 20, 400) (by decide)).1
theorem mm_k1733 {f : mm_F} {G : mj_G} (hS : mm_S G) : mj_k (mm_M f G) 1733 = 20 := (hS.2 (24, 1733, 20, 400) (by decide)).2.1
theorem mm_l1733 {f : mm_F} {G : mj_G} (hS : mm_S G) : mj_l (mm_M f G) 1733 = 400 := (hS.2 (24, 1733, 20, 400) (by decide)).2.2
/-- begins -/
theorem mm_r25 {f : mm_F} {G : mj_G} (hS : mm_S G) : mj_r (mm_M f G) 1714 25 = 1734 := (hS.2 (25, 1734, 20, 400) (by decide)).1
theorem mm_k1734 {f : mm_F} {G : mj_G} (hS : mm_S G) : mj_k (mm_M f G) 1734 = 20 := (hS.2 (25, 1734, 20, 400) (by decide)).2.1
theorem mm_l1734 {f : mm_F} {G : mj_G} (hS : mm_S G) : mj_l (mm_M f G) 1734 = 400 := (hS.2 (25, 1734, 20, 400) (by decide)).2.2
/-- variableScopes -/
theorem mm_r28 {f : mm_F} {G : mj_G} (hS : mm_S G) : mj_r (mm_M f G) 1714 28 = 1735 := (hS.2 (28, 1735, 20, 320) (by decide)).1
theorem mm_k1735 {f : mm_F} {G : mj_G} (hS : mm_S G) : mj_k (mm_M f G) 1735 = 20 := (hS.2 (28, 1735, 20, 320) (by decide)).2.1
theorem mm_l1735 {f : mm_F} {G : mj_G} (hS : mm_S G) : mj_l (mm_M f G) 1735 = 320 := (hS.2 (28, 1735, 20, 320) (by decide)).2.2
/-- variableNames -/
theorem mm_r29 {f : mm_F} {G : mj_G} (hS : mm_S G) : mj_r (mm_M f G) 1714 29 = 1736 := (hS.2 (29, 1736, 20, 320) (by decide)).1
theorem mm_k1736 {f : mm_F} {G : mj_G} (hS : mm_S G) : mj_k (mm_M f G) 1736 = 20 := (hS.2 (29, 1736, 20, 320) (by decide)).2.1
theorem mm_l1736 {f : mm_F} {G : mj_G} (hS : mm_S G) : mj_l (mm_M f G) 1736 = 320 := (hS.2 (29, 1736, 20, 320) (by decide)).2.2
/-- lines -/
theorem mm_r31 {f : mm_F} {G : mj_G} (hS : mm_S G) : mj_r (mm_M f G) 1714 31 = 1737 := (hS.2 (31, 1737, 20, 140) (by decide)).1
theorem mm_k1737 {f : mm_F} {G : mj_G} (hS : mm_S G) : mj_k (mm_M f G) 1737 = 20 := (hS.2 (31, 1737, 20, 140) (by decide)).2.1
theorem mm_l1737 {f : mm_F} {G : mj_G} (hS : mm_S G) : mj_l (mm_M f G) 1737 = 140 := (hS.2 (31, 1737, 20, 140) (by decide)).2.2
/-- lineLengths -/
theorem mm_r32 {f : mm_F} {G : mj_G} (hS : mm_S G) : mj_r (mm_M f G) 1714 32 = 1738 := (hS.2 (32, 1738, 20, 14) (by decide)).1
theorem mm_k1738 {f : mm_F} {G : mj_G} (hS : mm_S G) : mj_k (mm_M f G) 1738 = 20 := (hS.2 (32, 1738, 20, 14) (by decide)).2.1
theorem mm_l1738 {f : mm_F} {G : mj_G} (hS : mm_S G) : mj_l (mm_M f G) 1738 = 14 := (hS.2 (32, 1738, 20, 14) (by decide)).2.2
/-- callTemplates -/
theorem mm_r35 {f : mm_F} {G : mj_G} (hS : mm_S G) : mj_r (mm_M f G) 1714 35 = 1739 := (hS.2 (35, 1739, 20, 14) (by decide)).1
theorem mm_k1739 {f : mm_F} {G : mj_G} (hS : mm_S G) : mj_k (mm_M f G) 1739 = 20 := (hS.2 (35, 1739, 20, 14) (by decide)).2.1
theorem mm_l1739 {f : mm_F} {G : mj_G} (hS : mm_S G) : mj_l (mm_M f G) 1739 = 14 := (hS.2 (35, 1739, 20, 14) (by decide)).2.2
/-- callFroms -/
theorem mm_r36 {f : mm_F} {G : mj_G} (hS : mm_S G) : mj_r (mm_M f G) 1714 36 = 1740 := (hS.2 (36, 1740, 20, 14) (by decide)).1
theorem mm_k1740 {f : mm_F} {G : mj_G} (hS : mm_S G) : mj_k (mm_M f G) 1740 = 20 := (hS.2 (36, 1740, 20, 14) (by decide)).2.1
theorem mm_l1740 {f : mm_F} {G : mj_G} (hS : mm_S G) : mj_l (mm_M f G) 1740 = 14 := (hS.2 (36, 1740, 20, 14) (by decide)).2.2
/-- callTos -/
theorem mm_r37 {f : mm_F} {G : mj_G} (hS : mm_S G) : mj_r (mm_M f G) 1714 37 = 1741 := (hS.2 (37, 1741, 20, 14) (by decide)).1
theorem mm_k1741 {f : mm_F} {G : mj_G} (hS : mm_S G) : mj_k (mm_M f G) 1741 = 20 := (hS.2 (37, 1741, 20, 14) (by decide)).2.1
theorem mm_l1741 {f : mm_F} {G : mj_G} (hS : mm_S G) : mj_l (mm_M f G) 1741 = 14 := (hS.2 (37, 1741, 20, 14) (by decide)).2.2
/-- callScopes -/
theorem mm_r38 {f : mm_F} {G : mj_G} (hS : mm_S G) : mj_r (mm_M f G) 1714 38 = 1742 := (hS.2 (38, 1742, 20, 14) (by decide)).1
theorem mm_k1742 {f : mm_F} {G : mj_G} (hS : mm_S G) : mj_k (mm_M f G) 1742 = 20 := (hS.2 (38, 1742, 20, 14) (by decide)).2.1
theorem mm_l1742 {f : mm_F} {G : mj_G} (hS : mm_S G) : mj_l (mm_M f G) 1742 = 14 := (hS.2 (38, 1742, 20, 14) (by decide)).2.2
/-- callLines -/
theorem mm_r39 {f : mm_F} {G : mj_G} (hS : mm_S G) : mj_r (mm_M f G) 1714 39 = 1743 := (hS.2 (39, 1743, 20, 14) (by decide)).1
theorem mm_k1743 {f : mm_F} {G : mj_G} (hS : mm_S G) : mj_k (mm_M f G) 1743 = 20 := (hS.2 (39, 1743, 20, 14) (by decide)).2.1
theorem mm_l1743 {f : mm_F} {G : mj_G} (hS : mm_S G) : mj_l (mm_M f G) 1743 = 14 := (hS.2 (39, 1743, 20, 14) (by decide)).2.2
/-- callCalls -/
theorem mm_r40 {f : mm_F} {G : mj_G} (hS : mm_S G) : mj_r (mm_M f G) 1714 40 = 1744 := (hS.2 (40, 1744, 20, 14) (by decide)).1
theorem mm_k1744 {f : mm_F} {G : mj_G} (hS : mm_S G) : mj_k (mm_M f G) 1744 = 20 := (hS.2 (40, 1744, 20, 14) (by decide)).2.1
theorem mm_l1744 {f : mm_F} {G : mj_G} (hS : mm_S G) : mj_l (mm_M f G) 1744 = 14 := (hS.2 (40, 1744, 20, 14) (by decide)).2.2
/-- madeScopes -/
theorem mm_r45 {f : mm_F} {G : mj_G} (hS : mm_S G) : mj_r (mm_M f G) 1714 45 = 1745 := (hS.2 (45, 1745, 20, 12) (by decide)).1
theorem mm_k1745 {f : mm_F} {G : mj_G} (hS : mm_S G) : mj_k (mm_M f G) 1745 = 20 := (hS.2 (45, 1745, 20, 12) (by decide)).2.1
theorem mm_l1745 {f : mm_F} {G : mj_G} (hS : mm_S G) : mj_l (mm_M f G) 1745 = 12 := (hS.2 (45, 1745, 20, 12) (by decide)).2.2
/-- readAround -/
theorem mm_r46 {f : mm_F} {G : mj_G} (hS : mm_S G) : mj_r (mm_M f G) 1714 46 = 1746 := (hS.2 (46, 1746, 20, 12) (by decide)).1
theorem mm_k1746 {f : mm_F} {G : mj_G} (hS : mm_S G) : mj_k (mm_M f G) 1746 = 20 := (hS.2 (46, 1746, 20, 12) (by decide)).2.1
theorem mm_l1746 {f : mm_F} {G : mj_G} (hS : mm_S G) : mj_l (mm_M f G) 1746 = 12 := (hS.2 (46, 1746, 20, 12) (by decide)).2.2
/-- readData -/
theorem mm_r47 {f : mm_F} {G : mj_G} (hS : mm_S G) : mj_r (mm_M f G) 1714 47 = 1747 := (hS.2 (47, 1747, 20, 12) (by decide)).1
theorem mm_k1747 {f : mm_F} {G : mj_G} (hS : mm_S G) : mj_k (mm_M f G) 1747 = 20 := (hS.2 (47, 1747, 20, 12) (by decide)).2.1
theorem mm_l1747 {f : mm_F} {G : mj_G} (hS : mm_S G) : mj_l (mm_M f G) 1747 = 12 := (hS.2 (47, 1747, 20, 12) (by decide)).2.2
/-- areSpoilt -/
theorem mm_r48 {f : mm_F} {G : mj_G} (hS : mm_S G) : mj_r (mm_M f G) 1714 48 = 1748 := (hS.2 (48, 1748, 23, 12) (by decide)).1
theorem mm_k1748 {f : mm_F} {G : mj_G} (hS : mm_S G) : mj_k (mm_M f G) 1748 = 23 := (hS.2 (48, 1748, 23, 12) (by decide)).2.1
theorem mm_l1748 {f : mm_F} {G : mj_G} (hS : mm_S G) : mj_l (mm_M f G) 1748 = 12 := (hS.2 (48, 1748, 23, 12) (by decide)).2.2
/-- keptTags -/
theorem mm_r49 {f : mm_F} {G : mj_G} (hS : mm_S G) : mj_r (mm_M f G) 1714 49 = 1749 := (hS.2 (49, 1749, 20, 10) (by decide)).1
theorem mm_k1749 {f : mm_F} {G : mj_G} (hS : mm_S G) : mj_k (mm_M f G) 1749 = 20 := (hS.2 (49, 1749, 20, 10) (by decide)).2.1
theorem mm_l1749 {f : mm_F} {G : mj_G} (hS : mm_S G) : mj_l (mm_M f G) 1749 = 10 := (hS.2 (49, 1749, 20, 10) (by decide)).2.2
/-- keptLines -/
theorem mm_r50 {f : mm_F} {G : mj_G} (hS : mm_S G) : mj_r (mm_M f G) 1714 50 = 1750 := (hS.2 (50, 1750, 20, 100) (by decide)).1
theorem mm_k1750 {f : mm_F} {G : mj_G} (hS : mm_S G) : mj_k (mm_M f G) 1750 = 20 := (hS.2 (50, 1750, 20, 100) (by decide)).2.1
theorem mm_l1750 {f : mm_F} {G : mj_G} (hS : mm_S G) : mj_l (mm_M f G) 1750 = 100 := (hS.2 (50, 1750, 20, 100) (by decide)).2.2
/-- keptLineLengths -/
theorem mm_r51 {f : mm_F} {G : mj_G} (hS : mm_S G) : mj_r (mm_M f G) 1714 51 = 1751 := (hS.2 (51, 1751, 20, 10) (by decide)).1
theorem mm_k1751 {f : mm_F} {G : mj_G} (hS : mm_S G) : mj_k (mm_M f G) 1751 = 20 := (hS.2 (51, 1751, 20, 10) (by decide)).2.1
theorem mm_l1751 {f : mm_F} {G : mj_G} (hS : mm_S G) : mj_l (mm_M f G) 1751 = 10 := (hS.2 (51, 1751, 20, 10) (by decide)).2.2
/-- keptContexts -/
theorem mm_r52 {f : mm_F} {G : mj_G} (hS : mm_S G) : mj_r (mm_M f G) 1714 52 = 1752 := (hS.2 (52, 1752, 20, 10) (by decide)).1
theorem mm_k1752 {f : mm_F} {G : mj_G} (hS : mm_S G) : mj_k (mm_M f G) 1752 = 20 := (hS.2 (52, 1752, 20, 10) (by decide)).2.1
theorem mm_l1752 {f : mm_F} {G : mj_G} (hS : mm_S G) : mj_l (mm_M f G) 1752 = 10 := (hS.2 (52, 1752, 20, 10) (by decide)).2.2
/-- keptWaits -/
theorem mm_r53 {f : mm_F} {G : mj_G} (hS : mm_S G) : mj_r (mm_M f G) 1714 53 = 1753 := (hS.2 (53, 1753, 23, 10) (by decide)).1
theorem mm_k1753 {f : mm_F} {G : mj_G} (hS : mm_S G) : mj_k (mm_M f G) 1753 = 23 := (hS.2 (53, 1753, 23, 10) (by decide)).2.1
theorem mm_l1753 {f : mm_F} {G : mj_G} (hS : mm_S G) : mj_l (mm_M f G) 1753 = 10 := (hS.2 (53, 1753, 23, 10) (by decide)).2.2
/-- keptAround -/
theorem mm_r54 {f : mm_F} {G : mj_G} (hS : mm_S G) : mj_r (mm_M f G) 1714 54 = 1754 := (hS.2 (54, 1754, 20, 10) (by decide)).1
theorem mm_k1754 {f : mm_F} {G : mj_G} (hS : mm_S G) : mj_k (mm_M f G) 1754 = 20 := (hS.2 (54, 1754, 20, 10) (by decide)).2.1
theorem mm_l1754 {f : mm_F} {G : mj_G} (hS : mm_S G) : mj_l (mm_M f G) 1754 = 10 := (hS.2 (54, 1754, 20, 10) (by decide)).2.2
/-- keptData -/
theorem mm_r55 {f : mm_F} {G : mj_G} (hS : mm_S G) : mj_r (mm_M f G) 1714 55 = 1755 := (hS.2 (55, 1755, 20, 10) (by decide)).1
theorem mm_k1755 {f : mm_F} {G : mj_G} (hS : mm_S G) : mj_k (mm_M f G) 1755 = 20 := (hS.2 (55, 1755, 20, 10) (by decide)).2.1
theorem mm_l1755 {f : mm_F} {G : mj_G} (hS : mm_S G) : mj_l (mm_M f G) 1755 = 10 := (hS.2 (55, 1755, 20, 10) (by decide)).2.2
/-- snapshots -/
theorem mm_r56 {f : mm_F} {G : mj_G} (hS : mm_S G) : mj_r (mm_M f G) 1714 56 = 1756 := (hS.2 (56, 1756, 20, 50960) (by decide)).1
theorem mm_k1756 {f : mm_F} {G : mj_G} (hS : mm_S G) : mj_k (mm_M f G) 1756 = 20 := (hS.2 (56, 1756, 20, 50960) (by decide)).2.1
theorem mm_l1756 {f : mm_F} {G : mj_G} (hS : mm_S G) : mj_l (mm_M f G) 1756 = 50960 := (hS.2 (56, 1756, 20, 50960) (by decide)).2.2
/-- keptOut -/
theorem mm_r57 {f : mm_F} {G : mj_G} (hS : mm_S G) : mj_r (mm_M f G) 1714 57 = 1757 := (hS.2 (57, 1757, 20, 3000) (by decide)).1
theorem mm_k1757 {f : mm_F} {G : mj_G} (hS : mm_S G) : mj_k (mm_M f G) 1757 = 20 := (hS.2 (57, 1757, 20, 3000) (by decide)).2.1
theorem mm_l1757 {f : mm_F} {G : mj_G} (hS : mm_S G) : mj_l (mm_M f G) 1757 = 3000 := (hS.2 (57, 1757, 20, 3000) (by decide)).2.2
/-- keptSizes -/
theorem mm_r58 {f : mm_F} {G : mj_G} (hS : mm_S G) : mj_r (mm_M f G) 1714 58 = 1758 := (hS.2 (58, 1758, 20, 10) (by decide)).1
theorem mm_k1758 {f : mm_F} {G : mj_G} (hS : mm_S G) : mj_k (mm_M f G) 1758 = 20 := (hS.2 (58, 1758, 20, 10) (by decide)).2.1
theorem mm_l1758 {f : mm_F} {G : mj_G} (hS : mm_S G) : mj_l (mm_M f G) 1758 = 10 := (hS.2 (58, 1758, 20, 10) (by decide)).2.2
/-- out -/
theorem mm_r59 {f : mm_F} {G : mj_G} (hS : mm_S G) : mj_r (mm_M f G) 1714 59 = 1759 := (hS.2 (59, 1759, 20, 300) (by decide)).1
theorem mm_k1759 {f : mm_F} {G : mj_G} (hS : mm_S G) : mj_k (mm_M f G) 1759 = 20 := (hS.2 (59, 1759, 20, 300) (by decide)).2.1
theorem mm_l1759 {f : mm_F} {G : mj_G} (hS : mm_S G) : mj_l (mm_M f G) 1759 = 300 := (hS.2 (59, 1759, 20, 300) (by decide)).2.2
/-- contexts -/
theorem mm_r60 {f : mm_F} {G : mj_G} (hS : mm_S G) : mj_r (mm_M f G) 1714 60 = 1760 := (hS.2 (60, 1760, 20, 301) (by decide)).1
theorem mm_k1760 {f : mm_F} {G : mj_G} (hS : mm_S G) : mj_k (mm_M f G) 1760 = 20 := (hS.2 (60, 1760, 20, 301) (by decide)).2.1
theorem mm_l1760 {f : mm_F} {G : mj_G} (hS : mm_S G) : mj_l (mm_M f G) 1760 = 301 := (hS.2 (60, 1760, 20, 301) (by decide)).2.2
/-- outBefore -/
theorem mm_r63 {f : mm_F} {G : mj_G} (hS : mm_S G) : mj_r (mm_M f G) 1714 63 = 1761 := (hS.2 (63, 1761, 20, 300) (by decide)).1
theorem mm_k1761 {f : mm_F} {G : mj_G} (hS : mm_S G) : mj_k (mm_M f G) 1761 = 20 := (hS.2 (63, 1761, 20, 300) (by decide)).2.1
theorem mm_l1761 {f : mm_F} {G : mj_G} (hS : mm_S G) : mj_l (mm_M f G) 1761 = 300 := (hS.2 (63, 1761, 20, 300) (by decide)).2.2
/-- tried -/
theorem mm_r65 {f : mm_F} {G : mj_G} (hS : mm_S G) : mj_r (mm_M f G) 1714 65 = 1762 := (hS.2 (65, 1762, 20, 33600) (by decide)).1
theorem mm_k1762 {f : mm_F} {G : mj_G} (hS : mm_S G) : mj_k (mm_M f G) 1762 = 20 := (hS.2 (65, 1762, 20, 33600) (by decide)).2.1
theorem mm_l1762 {f : mm_F} {G : mj_G} (hS : mm_S G) : mj_l (mm_M f G) 1762 = 33600 := (hS.2 (65, 1762, 20, 33600) (by decide)).2.2
/-- shapes -/
theorem mm_r71 {f : mm_F} {G : mj_G} (hS : mm_S G) : mj_r (mm_M f G) 1714 71 = 1763 := (hS.2 (71, 1763, 20, 26) (by decide)).1
theorem mm_k1763 {f : mm_F} {G : mj_G} (hS : mm_S G) : mj_k (mm_M f G) 1763 = 20 := (hS.2 (71, 1763, 20, 26) (by decide)).2.1
theorem mm_l1763 {f : mm_F} {G : mj_G} (hS : mm_S G) : mj_l (mm_M f G) 1763 = 26 := (hS.2 (71, 1763, 20, 26) (by decide)).2.2
/-- now -/
theorem mm_r72 {f : mm_F} {G : mj_G} (hS : mm_S G) : mj_r (mm_M f G) 1714 72 = 1764 := (hS.2 (72, 1764, 20, 26) (by decide)).1
theorem mm_k1764 {f : mm_F} {G : mj_G} (hS : mm_S G) : mj_k (mm_M f G) 1764 = 20 := (hS.2 (72, 1764, 20, 26) (by decide)).2.1
theorem mm_l1764 {f : mm_F} {G : mj_G} (hS : mm_S G) : mj_l (mm_M f G) 1764 = 26 := (hS.2 (72, 1764, 20, 26) (by decide)).2.2
/-- set -/
theorem mm_r73 {f : mm_F} {G : mj_G} (hS : mm_S G) : mj_r (mm_M f G) 1714 73 = 1765 := (hS.2 (73, 1765, 20, 780) (by decide)).1
theorem mm_k1765 {f : mm_F} {G : mj_G} (hS : mm_S G) : mj_k (mm_M f G) 1765 = 20 := (hS.2 (73, 1765, 20, 780) (by decide)).2.1
theorem mm_l1765 {f : mm_F} {G : mj_G} (hS : mm_S G) : mj_l (mm_M f G) 1765 = 780 := (hS.2 (73, 1765, 20, 780) (by decide)).2.2
/-- around -/
theorem mm_r76 {f : mm_F} {G : mj_G} (hS : mm_S G) : mj_r (mm_M f G) 1714 76 = 1766 := (hS.2 (76, 1766, 20, 40) (by decide)).1
theorem mm_k1766 {f : mm_F} {G : mj_G} (hS : mm_S G) : mj_k (mm_M f G) 1766 = 20 := (hS.2 (76, 1766, 20, 40) (by decide)).2.1
theorem mm_l1766 {f : mm_F} {G : mj_G} (hS : mm_S G) : mj_l (mm_M f G) 1766 = 40 := (hS.2 (76, 1766, 20, 40) (by decide)).2.2
theorem mm_i0 {f : mm_F} {G : mj_G} {a k : Nat} (h : 1714 ≤ a ∧ a ≤ 1766) : mj_i (mm_M f G) a k = f a k := if_pos h
theorem mm_p {f : mm_F} {G : mj_G} {a k : Nat} {v : Int32} (h : 1714 ≤ a ∧ a ≤ 1766) : mm_M (mj_u2 f a k v) G = mj_pI (mm_M f G) a k v := by
  unfold mm_M mj_pI
  refine Prod.ext rfl (Prod.ext rfl (Prod.ext rfl (Prod.ext rfl (Prod.ext ?_ rfl))))
  funext x y
  show (if 1714 ≤ x ∧ x ≤ 1766 then (if x = a ∧ y = k then v else f x y) else mj_i G x y) = if x = a ∧ y = k then v else (if 1714 ≤ x ∧ x ≤ 1766 then f x y else mj_i G x y)
  by_cases h1 : x = a ∧ y = k
  · rw [if_pos h1, if_pos h1, if_pos (by rw [h1.1]; exact h)]
  · rw [if_neg h1, if_neg h1]
theorem mm_v {G : mj_G} {a N : Nat} {i : Int32} (hl : mj_l G a = N) (h : vp_in i N) : vp_in i (mj_l G a) := hl ▸ h
/-- a place in a row of N -/
def mm_ix (i : Int32) (N : Nat) (K : Nat → Prop) : Prop := vp_in i N ∧ K i.toNatClampNeg
def mm_br (c A B : Prop) : Prop := (c → A) ∧ (¬ c → B)
def bI (b : Bool) : Int32 := bif b then nI 1 else nI 0
def qb (x : Int32) : Bool := !decide (x = nI 0)
theorem bI_b : ∀ b, mj_b (bI b)
  | true => Or.inr rfl
  | false => Or.inl rfl
theorem bI_z : ∀ {b}, bI b = nI 0 → ¬ b = true
  | true, h => absurd h (by decide)
  | false, _ => by decide
theorem bI_n : ∀ {b}, ¬ bI b = nI 0 → b = true
  | true, _ => rfl
  | false, h => absurd rfl h
theorem bI_qb {x : Int32} (h : mj_b x) : x = bI (qb x) := by
  rcases h with rfl | rfl
  · rfl
  · rfl
theorem qb_bI (b : Bool) : qb (bI b) = b := by cases b <;> rfl
def bI_ex (x : Int32) (K : Bool → Prop) : Prop := ∃ b, x = bI b ∧ K b
theorem bI_o {x : Int32} {K : Bool → Prop} (h : bI_ex x K) : mj_b x := by
  obtain ⟨b, rfl, -⟩ := h
  exact bI_b b
theorem bI_q {x : Int32} {K : Bool → Prop} {P : Prop} (h : bI_ex x K) (hP : ∀ b, x = bI b → K b → P) : P := by
  obtain ⟨b, h1, h2⟩ := h
  exact hP b h1 h2
def mm_shl (x y : Int32) : Int32 := x <<< (y &&& 31)
def mm_shr (x y : Int32) : Int32 := x >>> (y &&& 31)
def mm_rem (x y : Int32) : Int32 := x - x / y * y
def mm_reml (x y : Int64) : Int64 := x - x / y * y
def mm_ch (x : Int32) : Int32 := (x.toUInt32 % 65536).toInt32
theorem mm_cb {d mi pc : Nat} {ls : List (Option mj_V)} {st : List mj_V} {f : mm_F} {G : mj_G} {K : Bool → mm_F → Prop} (h : mj_X d mi pc ls st (mm_M f G) (fun o G1 => ∃ b, o = .inl (some (.inl (bI b))) ∧ ∃ f1, G1 = mm_M f1 G ∧ K b f1)) :
    mj_X d mi pc ls st (mm_M f G) (fun o G1 => ∃ v, o = .inl (some (.inl v)) ∧ ∃ b f1, v = bI b ∧ G1 = mm_M f1 G ∧ K b f1) :=
  mj_X_mono h (fun o G1 ⟨b, h1, f1, h2, h3⟩ => ⟨_, h1, b, f1, rfl, h2, h3⟩)
theorem q_bc {d mi pc : Nat} {ls : List (Option mj_V)} {st : List mj_V} {G G0 : mj_G} {x : Int32} (h : mj_X d mi pc ls st G (fun o G1 => ∃ v, o = .inl (some (.inl v)) ∧ v = x ∧ G1 = G0)) (hb : mj_b x) :
    mj_X d mi pc ls st G (fun o G1 => ∃ v, o = .inl (some (.inl v)) ∧ v = bI (qb x) ∧ G1 = G0) :=
  mj_X_mono h (fun o G1 ⟨v, h1, h2, h3⟩ => ⟨v, h1, h2.trans (bI_qb hb), h3⟩)
