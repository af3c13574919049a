/-! block equations, written by wip/whole/gen10.py -/
-- 0: NodBench.set(II)I
set_option maxRecDepth 20000 in
theorem e0_0 (a1 a2 : Int) (h : Hp) : X (0, 0, [aR 0, aI a1, aI a2, aN], [], h) = bI (X (35, 0, [aI a1, aI 8], [], h)) (fun r1 h1 =>
  cond (decide ((wr r1) = 0))
  (some (some (-1), h1))
  (cond (inb 8 a1)
    (cond (decide ((wr a2) < (wr (h1 98 (wr a1)))))
    (some (some (-1), h1))
    (cond (inb 8 a1)
      (cond (decide ((wr a2) ≤ (wr (h1 99 (wr a1)))))
      (cond (inb 8 a1)
        (cond (inb 8 a1)
        (some (some (h1 13 (wr a1)), (up (up h1 13 (wr a1) a2) 1 15 1)))
        none)
        none)
      (some (some (-1), h1)))
      none))
    none)) := (ev_eq [] 300 _).symm
-- 1: NodBench.cut(III)I
set_option maxRecDepth 20000 in
theorem e1_0 (a1 a2 a3 : Int) (h : Hp) : X (1, 0, [aR 0, aI a1, aI a2, aI a3, aN, aN], [], h) = bI (X (35, 0, [aI a1, aI 3], [], h)) (fun r1 h1 =>
  cond (decide ((wr r1) = 0))
  (some (some (-1), h1))
  (bI (X (35, 0, [aI a2, aI 4], [], h1)) (fun r2 h2 =>
    cond (decide ((wr r2) = 0))
    (some (some (-1), h2))
    (cond (decide ((wr a3) < 1))
      (some (some (-1), h2))
      (cond (decide ((wr a3) ≤ 60))
        (cond (inb 12 ((a1 * 4) + a2))
          (cond (inb 12 ((a1 * 4) + a2))
          (some (some (h2 14 (wr ((a1 * 4) + a2))), (up (up h2 14 (wr ((a1 * 4) + a2)) a3) 1 15 1)))
          none)
          none)
        (some (some (-1), h2))))))) := (ev_eq [] 300 _).symm
-- 2: NodBench.price(II)I
set_option maxRecDepth 20000 in
theorem e2_0 (a1 a2 : Int) (h : Hp) : X (2, 0, [aR 0, aI a1, aI a2, aN], [], h) = bI (X (35, 0, [aI a1, aI 4], [], h)) (fun r1 h1 =>
  cond (decide ((wr r1) = 0))
  (some (some (-1), h1))
  (cond (decide ((wr a2) < 0))
    (some (some (-1), h1))
    (cond (decide ((wr a2) ≤ 99))
      (cond (inb 4 a1)
        (cond (inb 4 a1)
        (some (some (h1 15 (wr a1)), (up (up h1 15 (wr a1) a2) 1 15 1)))
        none)
        none)
      (some (some (-1), h1))))) := (ev_eq [] 300 _).symm
-- 3: NodBench.person(IIII)I
set_option maxRecDepth 20000 in
theorem e3_0 (a1 a2 a3 a4 : Int) (h : Hp) : X (3, 0, [aR 0, aI a1, aI a2, aI a3, aI a4], [], h) = bI (X (37, 0, [aI a1, aI a2, aI a3, aI a4, aN], [], h)) (fun r1 h1 =>
  cond (decide ((wr r1) ≠ 0))
  (cond (decide ((wr (h1 19 4)) < 12))
    (bV (X (155, 0, [aR 19, aI a1, aI a2, aI a3, aI a4], [], h1)) (fun h2 =>
      some (some (((up h2 1 15 1) 19 4) - 1), (up h2 1 15 1))))
    (some (some (-3), h1)))
  (some (some (-1), h1))) := (ev_eq [] 300 _).symm
-- 4: NodBench.told(II)I
set_option maxRecDepth 20000 in
theorem e4_0 (a1 a2 : Int) (h : Hp) : X (4, 0, [aR 0, aI a1, aI a2], [], h) = bI (X (35, 0, [aI a1, aI (h 19 4)], [], h)) (fun r1 h1 =>
  cond (decide ((wr r1) ≠ 0))
  (cond (decide ((wr a2) = 0)) (cond (inb 12 a1)
      (some (some (h1 20 (wr a1)), h1))
      none)
    (cond (decide ((wr a2) = 1)) (cond (inb 12 a1)
      (some (some (h1 21 (wr a1)), h1))
      none)
    (cond (decide ((wr a2) = 2)) (cond (inb 12 a1)
      (some (some (h1 22 (wr a1)), h1))
      none)
    (cond (decide ((wr a2) = 3)) (cond (inb 12 a1)
      (some (some (h1 23 (wr a1)), h1))
      none)
    (some (some (-1), h1))))))
  (some (some (-1), h1))) := (ev_eq [] 300 _).symm
-- 5: NodBench.strike(I)I
set_option maxRecDepth 20000 in
theorem e5_0 (a1 : Int) (h : Hp) : X (5, 0, [aR 0, aI a1], [], h) = bI (X (35, 0, [aI a1, aI (h 19 4)], [], h)) (fun r1 h1 =>
  cond (decide ((wr r1) ≠ 0))
  (bV (X (157, 0, [aR 19, aI a1, aN], [], h1)) (fun h2 =>
    bV (X (124, 0, [aR 24, aI a1, aN, aN], [], h2)) (fun h3 =>
    some (some ((up h3 1 15 1) 19 4), (up h3 1 15 1)))))
  (some (some (-1), h1))) := (ev_eq [] 300 _).symm
-- 6: NodBench.type(JI)I
set_option maxRecDepth 20000 in
theorem e6_0 (a1 a3 : Int) (h : Hp) : X (6, 0, [aR 0, aL a1, aN, aI a3], [], h) = cond (decide ((wr a3) < 1))
  (some (some (-1), h))
  (cond (decide (8 < (wr a3)))
    (some (some (-1), h))
    (bI (X (177, 0, [aL a1, aN, aI a3, aN, aN], [], h)) (fun r1 h1 =>
      cond (decide ((wr r1) ≠ 0))
      (cond (decide ((wr ((h1 70 1) + a3)) ≤ 80))
        (bV (X (178, 0, [aR 70, aL a1, aN, aI a3, aN], [], h1)) (fun h2 =>
          some (some (h2 70 1), h2)))
        (some (some (-3), h1)))
      (some (some (-1), h1))))) := (ev_eq [] 300 _).symm
-- 7: NodBench.manners()I
set_option maxRecDepth 20000 in
theorem e7_0 (h : Hp) : X (7, 0, [aR 0, aN], [], h) = bV (X (163, 0, [aR 42, aN], [], h)) (fun h1 =>
  bI (X (179, 0, [aR 70, aR 42, aN, aN, aN], [], h1)) (fun r2 h2 =>
  cond (decide ((wr r2) < 0))
  (some (some r2, (up h2 70 1 0)))
  (bV (X (165, 0, [aR 16, aR 42], [], (up h2 70 1 0))) (fun h3 =>
    some (some r2, (up h3 1 15 1)))))) := (ev_eq [] 300 _).symm
-- 8: NodBench.before(II)I
set_option maxRecDepth 20000 in
theorem e8_0 (a1 a2 : Int) (h : Hp) : X (8, 0, [aR 0, aI a1, aI a2], [], h) = bI (X (35, 0, [aI a1, aI 6], [], h)) (fun r1 h1 =>
  cond (decide ((wr r1) = 0))
  (some (some (-1), h1))
  (bI (X (35, 0, [aI a2, aI 6], [], h1)) (fun r2 h2 =>
    cond (decide ((wr r2) = 0))
    (some (some (-1), h2))
    (cond (decide ((wr a1) ≠ (wr a2)))
      (bI (X (166, 0, [aR 16, aI a1, aI a2], [], h2)) (fun r3 h3 =>
        cond (decide ((wr r3) = 0))
        (some (some 0, h3))
        (some (some 1, h3))))
      (some (some (-1), h2)))))) := (ev_eq [] 300 _).symm
-- 9: NodBench.rounds()I
set_option maxRecDepth 20000 in
theorem e9_0 (h : Hp) : X (9, 0, [aR 0], [], h) = bI (X (167, 0, [aR 16, aN, aN], [], h)) (fun r1 h1 =>
  some (some r1, h1)) := (ev_eq [] 300 _).symm
-- 10: NodBench.people()I
set_option maxRecDepth 20000 in
theorem e10_0 (h : Hp) : X (10, 0, [aR 0, aN], [], h) = bI (X (180, 0, [aR 70, aR 45, aN, aN], [], (up h 45 4 0))) (fun r1 h1 =>
  cond (decide (0 ≤ (wr r1)))
  (cond (decide ((wr (((up h1 70 1 0) 19 4) + r1)) ≤ 12))
    (bV (X (156, 0, [aR 19, aR 45, aN], [], (up h1 70 1 0))) (fun h2 =>
      some (some r1, (up h2 1 15 1))))
    (some (some (-3), (up h1 70 1 0))))
  (some (some r1, (up h1 70 1 0)))) := (ev_eq [] 300 _).symm
-- 11: NodBench.count(I)I
set_option maxRecDepth 20000 in
theorem e11_0 (a1 : Int) (h : Hp) : X (11, 0, [aR 0, aI a1], [], h) = cond (decide ((wr a1) = 0)) (some (some (h 19 4), h))
  (cond (decide ((wr a1) = 1)) (some (some (h 16 2), h))
  (cond (decide ((wr a1) = 2)) (some (some (h 24 2), h))
  (some (some (-1), h)))) := (ev_eq [] 300 _).symm
-- 12: NodBench.fate(II)I
set_option maxRecDepth 20000 in
theorem e12_0 (a1 a2 : Int) (h : Hp) : X (12, 0, [aR 0, aI a1, aI a2], [], h) = bI (X (35, 0, [aI a1, aI (h 19 4)], [], h)) (fun r1 h1 =>
  cond (decide ((wr r1) ≠ 0))
  (bV (X (38, 0, [aR 0], [], h1)) (fun h2 =>
    cond (decide ((wr a2) = 0)) (cond (inb 12 a1)
      (some (some (h2 2 (wr a1)), h2))
      none)
    (cond (decide ((wr a2) = 1)) (cond (inb 12 a1)
      (some (some (h2 3 (wr a1)), h2))
      none)
    (cond (decide ((wr a2) = 2)) (cond (inb 12 a1)
      (some (some (h2 4 (wr a1)), h2))
      none)
    (cond (decide ((wr a2) = 3)) (cond (inb 12 a1)
      (some (some (h2 5 (wr a1)), h2))
      none)
    (some (some (-1), h2)))))))
  (some (some (-1), h1))) := (ev_eq [] 300 _).symm
-- 13: NodBench.at(II)I
set_option maxRecDepth 20000 in
theorem e13_0 (a1 a2 : Int) (h : Hp) : X (13, 0, [aR 0, aI a1, aI a2], [], h) = bI (X (35, 0, [aI a1, aI 240], [], h)) (fun r1 h1 =>
  cond (decide ((wr r1) ≠ 0))
  (bV (X (38, 0, [aR 0], [], h1)) (fun h2 =>
    cond (decide ((wr a2) = 0)) (bI (X (152, 0, [aR 1, aI a1, aN, aN], [], h2)) (fun r3 h3 =>
      some (some r3, h3)))
    (cond (decide ((wr a2) = 1)) (bI (X (153, 0, [aR 1, aI a1, aN, aN], [], h2)) (fun r4 h4 =>
      some (some r4, h4)))
    (cond (decide ((wr a2) = 2)) (bI (X (154, 0, [aR 1, aI (a2 - 2), aI a1, aN, aN], [], h2)) (fun r5 h5 =>
      some (some r5, h5)))
    (cond (decide ((wr a2) = 3)) (bI (X (154, 0, [aR 1, aI (a2 - 2), aI a1, aN, aN], [], h2)) (fun r6 h6 =>
      some (some r6, h6)))
    (cond (decide ((wr a2) = 4)) (bI (X (154, 0, [aR 1, aI (a2 - 2), aI a1, aN, aN], [], h2)) (fun r7 h7 =>
      some (some r7, h7)))
    (some (some (-1), h2))))))))
  (some (some (-1), h1))) := (ev_eq [] 300 _).symm
-- 14: NodBench.day(I)I
set_option maxRecDepth 20000 in
theorem e14_0 (a1 : Int) (h : Hp) : X (14, 0, [aR 0, aI a1], [], h) = bV (X (38, 0, [aR 0], [], h)) (fun h1 =>
  cond (decide ((wr a1) = 0)) (bI (X (144, 0, [aR 1, aN, aN], [], h1)) (fun r2 h2 =>
    some (some r2, h2)))
  (cond (decide ((wr a1) = 1)) (bI (X (145, 0, [aR 1, aN, aN], [], h1)) (fun r3 h3 =>
    some (some r3, h3)))
  (cond (decide ((wr a1) = 2)) (bI (X (146, 0, [aR 1, aN, aN], [], h1)) (fun r4 h4 =>
    some (some r4, h4)))
  (cond (decide ((wr a1) = 3)) (bI (X (147, 0, [aR 1, aI 1, aN, aN], [], h1)) (fun r5 h5 =>
    some (some r5, h5)))
  (cond (decide ((wr a1) = 4)) (bI (X (147, 0, [aR 1, aI 2, aN, aN], [], h1)) (fun r6 h6 =>
    some (some r6, h6)))
  (cond (decide ((wr a1) = 5)) (bI (X (147, 0, [aR 1, aI 3, aN, aN], [], h1)) (fun r7 h7 =>
    some (some r7, h7)))
  (cond (decide ((wr a1) = 6)) (bI (X (147, 0, [aR 1, aI 4, aN, aN], [], h1)) (fun r8 h8 =>
    some (some r8, h8)))
  (cond (decide ((wr a1) = 7)) (some (some (h1 1 13), h1))
  (cond (decide ((wr a1) = 8)) (bI (X (148, 0, [aR 1, aN, aN], [], h1)) (fun r9 h9 =>
    some (some r9, h9)))
  (some (some (-1), h1))))))))))) := (ev_eq [] 300 _).symm
-- 15: NodBench.more(IIIII)I
set_option maxRecDepth 20000 in
theorem e15_0 (a1 a2 a3 a4 a5 : Int) (h : Hp) : X (15, 0, [aR 0, aI a1, aI a2, aI a3, aI a4, aI a5, aN], [], h) = bI (X (37, 0, [aI a1, aI a2, aI a3, aI a4, aN], [], h)) (fun r1 h1 =>
  cond (decide ((wr r1) = 0))
  (some (some (-1), h1))
  (bI (X (35, 0, [aI a5, aI 2], [], h1)) (fun r2 h2 =>
    cond (decide ((wr r2) ≠ 0))
    (cond (decide ((wr (h2 19 4)) < 12))
      (bV (X (171, 0, [aR 37, aR 11], [], h2)) (fun h3 =>
        bV (X (155, 0, [aR 45, aI a1, aI a2, aI a3, aI a4], [], h3)) (fun h4 =>
        bV (X (130, 0, [aR 27, aI (-1), aN], [], h4)) (fun h5 =>
        cond (decide ((wr a5) ≠ 0))
        (cond (inb 12 (h2 19 4))
          (some (some (h5 28 (wr (h2 19 4))), h5))
          none)
        (cond (inb 12 (h2 19 4))
          (some (some (h5 29 (wr (h2 19 4))), h5))
          none)))))
      (some (some (-3), h2)))
    (some (some (-1), h2))))) := (ev_eq [] 300 _).symm
-- 16: NodBench.tell(I)I
set_option maxRecDepth 20000 in
theorem e16_0 (a1 : Int) (h : Hp) : X (16, 0, [aR 0, aI a1, aN, aN, aN, aN], [], h) = bI (X (35, 0, [aI a1, aI 2], [], h)) (fun r1 h1 =>
  cond (decide ((wr r1) ≠ 0))
  (bV (X (38, 0, [aR 0], [], h1)) (fun h2 =>
    bI (X (147, 0, [aR 1, aI 1, aN, aN], [], h2)) (fun r3 h3 =>
    cond (decide ((wr r3) ≠ (wr (h3 19 4))))
    (bI (X (149, 0, [aR 1, aI 0, aN, aN, aN], [], h3)) (fun r4 h4 =>
      X (16, 52, [aR 0, aI a1, aI 0, aI r4, aI 5, aN], [], h4)))
    (some (some (-4), h3)))))
  (some (some (-1), h1))) := (ev_eq [52] 300 _).symm
set_option maxRecDepth 20000 in
theorem e16_52 (v1 v2 v3 v4 : Int) (w5 : AV) (h : Hp) : X (16, 52, [aR 0, aI v1, aI v2, aI v3, aI v4, w5], [], h) = cond (decide (60 < (wr v4)))
  (cond (decide ((wr v1) ≠ 0))
    (some (some v3, h))
    (some (some v2, h)))
  (bI (X (149, 0, [aR 1, aI v4, aN, aN, aN], [], h)) (fun r1 h1 =>
    cond (decide ((wr v3) ≤ (wr r1)))
    (X (16, 52, [aR 0, aI v1, aI v2, aI v3, aI (v4 + 5), aI r1], [], h1))
    (X (16, 52, [aR 0, aI v1, aI v4, aI r1, aI (v4 + 5), aI r1], [], h1)))) := (ev_eq [52] 300 _).symm
-- 17: NodBench.choosers()I
set_option maxRecDepth 20000 in
theorem e17_0 (h : Hp) : X (17, 0, [aR 0, aN, aN], [], h) = bV (X (38, 0, [aR 0], [], h)) (fun h1 =>
  bV (X (171, 0, [aR 37, aR 11], [], h1)) (fun h2 =>
  bV (X (159, 0, [aR 45, aN], [], h2)) (fun h3 =>
  bV (X (130, 0, [aR 27, aI (-1), aN], [], h3)) (fun h4 =>
  X (17, 37, [aR 0, aI 0, aI 0], [], h4))))) := (ev_eq [37] 300 _).symm
set_option maxRecDepth 20000 in
theorem e17_37 (v1 v2 : Int) (h : Hp) : X (17, 37, [aR 0, aI v1, aI v2], [], h) = cond (decide ((wr (h 19 4)) ≤ (wr v2)))
  (some (some v1, h))
  (cond (inb 12 v2)
    (cond (decide ((wr (h 21 (wr v2))) = 1))
    (X (17, 37, [aR 0, aI v1, aI (v2 + 1)], [], h))
    (cond (inb 12 v2)
      (cond (inb 12 v2)
      (X (17, 37, [aR 0, aI (v1 + ((h 3 (wr v2)) - (h 29 (wr v2)))), aI (v2 + 1)], [], h))
      none)
      none))
    none) := (ev_eq [37] 300 _).symm
-- 18: NodBench.third(II)I
set_option maxRecDepth 20000 in
theorem e18_0 (a1 a2 : Int) (h : Hp) : X (18, 0, [aR 0, aI a1, aI a2, aN, aN, aN, aN], [], h) = cond (decide ((wr a1) < 0))
  (some (some (-1), h))
  (cond (decide (99 < (wr a1)))
    (some (some (-1), h))
    (bI (X (35, 0, [aI a2, aI 2], [], h)) (fun r1 h1 =>
      cond (decide ((wr r1) ≠ 0))
      (bV (X (171, 0, [aR 37, aR 11], [], h1)) (fun h2 =>
        X (18, 41, [aR 0, aI a1, aI a2, aI 13, aI 0, aI 13, aN], [], h2)))
      (some (some (-1), h1))))) := (ev_eq [41] 300 _).symm
set_option maxRecDepth 20000 in
theorem e18_41 (v1 v2 v3 v4 v5 : Int) (w6 : AV) (h : Hp) : X (18, 41, [aR 0, aI v1, aI v2, aI v3, aI v4, aI v5, w6], [], h) = cond (decide ((wr v5) < 0))
  (cond (decide ((wr v2) ≠ 0))
    (some (some v4, h))
    (some (some v3, h)))
  (bV (X (130, 0, [aR 27, aI (-1), aN], [], (up h 39 5 v5))) (fun h1 =>
    bI (X (145, 0, [aR 27, aN, aN], [], h1)) (fun r2 h2 =>
    bI (X (148, 0, [aR 27, aN, aN], [], h2)) (fun r3 h3 =>
    cond (decide ((wr v5) = 13))
    (X (18, 41, [aR 0, aI v1, aI v2, aI v5, aI (r2 + (v1 * r3)), aI (v5 + (-1)), aI (r2 + (v1 * r3))], [], h3))
    (cond (decide ((wr v4) ≤ (wr (r2 + (v1 * r3)))))
      (X (18, 41, [aR 0, aI v1, aI v2, aI v3, aI v4, aI (v5 + (-1)), aI (r2 + (v1 * r3))], [], h3))
      (X (18, 41, [aR 0, aI v1, aI v2, aI v5, aI (r2 + (v1 * r3)), aI (v5 + (-1)), aI (r2 + (v1 * r3))], [], h3))))))) := (ev_eq [41] 300 _).symm
-- 19: NodBench.last(I)I
set_option maxRecDepth 20000 in
theorem e19_0 (a1 : Int) (h : Hp) : X (19, 0, [aR 0, aI a1, aN, aN], [], h) = cond (decide ((wr a1) < 1))
  (some (some (-1), h))
  (cond (decide ((wr a1) < 240))
    (bV (X (171, 0, [aR 37, aR 11], [], h)) (fun h1 =>
      X (19, 31, [aR 0, aI a1, aI 240, aI 0], [], h1)))
    (some (some (-1), h))) := (ev_eq [31] 300 _).symm
set_option maxRecDepth 20000 in
theorem e19_31 (v1 v2 v3 : Int) (h : Hp) : X (19, 31, [aR 0, aI v1, aI v2, aI v3], [], h) = cond (decide (12 < (wr v3)))
  (some (some 0, h))
  (bV (X (130, 0, [aR 27, aI (-1), aN], [], h)) (fun h1 =>
    bI (X (150, 0, [aR 27, aI v1, aN, aN], [], h1)) (fun r2 h2 =>
    cond (decide ((wr r2) = 0))
    (bI (X (160, 0, [aR 45, aN, aN], [], h2)) (fun r3 h3 =>
      bV (X (161, 0, [aR 45, aI r3, aN], [], h3)) (fun h4 =>
      X (19, 31, [aR 0, aI v1, aI r3, aI (v3 + 1)], [], h4))))
    (some (some v2, h2))))) := (ev_eq [31] 300 _).symm
-- 20: NodBench.worth(I)I
set_option maxRecDepth 20000 in
theorem e20_0 (a1 : Int) (h : Hp) : X (20, 0, [aR 0, aI a1], [], h) = bI (X (35, 0, [aI a1, aI 3], [], h)) (fun r1 h1 =>
  cond (decide ((wr r1) ≠ 0))
  (bV (X (38, 0, [aR 0], [], h1)) (fun h2 =>
    bV (X (171, 0, [aR 37, aR 11], [], h2)) (fun h3 =>
    bV (X (130, 0, [aR 27, aI a1, aN], [], h3)) (fun h4 =>
    bI (X (144, 0, [aR 1, aN, aN], [], h4)) (fun r5 h5 =>
    bI (X (144, 0, [aR 27, aN, aN], [], h5)) (fun r6 h6 =>
    some (some (r5 - r6), h6)))))))
  (some (some (-100001), h1))) := (ev_eq [] 300 _).symm
-- 21: NodBench.rule(II)I
set_option maxRecDepth 20000 in
theorem e21_0 (a1 a2 : Int) (h : Hp) : X (21, 0, [aR 0, aI a1, aI a2], [], h) = bI (X (35, 0, [aI a1, aI 3], [], h)) (fun r1 h1 =>
  cond (decide ((wr r1) = 0))
  (some (some (-1), h1))
  (bI (X (35, 0, [aI a2, aI 3], [], h1)) (fun r2 h2 =>
    cond (decide ((wr r2) ≠ 0))
    (bV (X (39, 0, [aR 0, aI a1], [], h2)) (fun h3 =>
      cond (decide ((wr a2) = 0)) (bI (X (145, 0, [aR 27, aN, aN], [], h3)) (fun r4 h4 =>
        some (some r4, h4)))
      (cond (decide ((wr a2) = 1)) (bI (X (146, 0, [aR 27, aN, aN], [], h3)) (fun r5 h5 =>
        some (some r5, h5)))
      (bI (X (144, 0, [aR 27, aN, aN], [], h3)) (fun r6 h6 =>
        some (some r6, h6))))))
    (some (some (-1), h2))))) := (ev_eq [] 300 _).symm
-- 22: NodBench.best()I
set_option maxRecDepth 20000 in
theorem e22_0 (h : Hp) : X (22, 0, [aR 0, aN, aN, aN, aN], [], h) = X (22, 2, [aR 0, aI 0, aN, aN, aN], [], h) := (ev_eq [2, 72, 82] 300 _).symm
set_option maxRecDepth 20000 in
theorem e22_2 (v1 : Int) (h : Hp) : X (22, 2, [aR 0, aI v1, aN, aN, aN], [], h) = cond (decide (3 ≤ (wr v1)))
  (X (22, 72, [aR 0, aI 0, aI 0, aN, aN], [], h))
  (bV (X (39, 0, [aR 0, aI v1], [], h)) (fun h1 =>
    bI (X (145, 0, [aR 27, aN, aN], [], h1)) (fun r2 h2 =>
    cond (inb 9 (v1 * 3))
    (bI (X (146, 0, [aR 27, aN, aN], [], (up h2 69 (wr (v1 * 3)) r2))) (fun r3 h3 =>
    cond (inb 9 ((v1 * 3) + 1))
    (bI (X (144, 0, [aR 27, aN, aN], [], (up h3 69 (wr ((v1 * 3) + 1)) r3))) (fun r4 h4 =>
    cond (inb 9 ((v1 * 3) + 2))
    (X (22, 2, [aR 0, aI (v1 + 1), aN, aN, aN], [], (up h4 69 (wr ((v1 * 3) + 2)) (-r4))))
    none))
    none))
    none))) := (ev_eq [2, 72, 82] 300 _).symm
set_option maxRecDepth 20000 in
theorem e22_72 (v1 v2 : Int) (w3 w4 : AV) (h : Hp) : X (22, 72, [aR 0, aI v1, aI v2, w3, w4], [], h) = cond (decide (3 ≤ (wr v2)))
  (some (some v1, h))
  (X (22, 82, [aR 0, aI v1, aI v2, aI 0, aI 0], [], h)) := (ev_eq [2, 72, 82] 300 _).symm
set_option maxRecDepth 20000 in
theorem e22_82 (v1 v2 v3 v4 : Int) (h : Hp) : X (22, 82, [aR 0, aI v1, aI v2, aI v3, aI v4], [], h) = cond (decide (3 ≤ (wr v4)))
  (cond (decide ((wr v3) = 0))
    (X (22, 72, [aR 0, aI (jor v1 (jshl 1 v2)), aI (v2 + 1), aI v3, aI v4], [], h))
    (X (22, 72, [aR 0, aI (jor v1 0), aI (v2 + 1), aI v3, aI v4], [], h)))
  (cond (decide ((wr v3) ≠ 0))
    (X (22, 82, [aR 0, aI v1, aI v2, aI 1, aI (v4 + 1)], [], h))
    (bI (X (40, 0, [aR 0, aI v4, aI v2, aN, aN, aN, aN], [], h)) (fun r1 h1 =>
      cond (decide ((wr r1) = 0))
      (X (22, 82, [aR 0, aI v1, aI v2, aI 0, aI (v4 + 1)], [], h1))
      (X (22, 82, [aR 0, aI v1, aI v2, aI 1, aI (v4 + 1)], [], h1))))) := (ev_eq [2, 72, 82] 300 _).symm
-- 23: NodBench.word(II)I
set_option maxRecDepth 20000 in
theorem e23_0 (a1 a2 : Int) (h : Hp) : X (23, 0, [aR 0, aI a1, aI a2], [], h) = bI (X (35, 0, [aI a1, aI (h 19 4)], [], h)) (fun r1 h1 =>
  cond (decide ((wr r1) = 0))
  (some (some (-1), h1))
  (bI (X (35, 0, [aI a2, aI (h1 19 4)], [], h1)) (fun r2 h2 =>
    cond (decide ((wr r2) = 0))
    (some (some (-1), h2))
    (cond (decide ((wr a1) ≠ (wr a2)))
      (cond (decide ((wr (h2 24 2)) < 12))
        (bV (X (121, 0, [aR 24, aI a1, aI a2], [], h2)) (fun h3 =>
          some (some ((h3 24 2) - 1), h3)))
        (some (some (-3), h2)))
      (some (some (-1), h2)))))) := (ev_eq [] 300 _).symm
-- 24: NodBench.hush()I
set_option maxRecDepth 20000 in
theorem e24_0 (h : Hp) : X (24, 0, [aR 0, aN], [], h) = bV (X (122, 0, [aR 24], [], h)) (fun h1 =>
  some (some (h 24 2), h1)) := (ev_eq [] 300 _).symm
-- 25: NodBench.drops()I
set_option maxRecDepth 20000 in
theorem e25_0 (h : Hp) : X (25, 0, [aR 0], [], h) = bI (X (125, 0, [aR 24], [], h)) (fun r1 h1 =>
  some (some r1, h1)) := (ev_eq [] 300 _).symm
-- 26: NodBench.first()I
set_option maxRecDepth 20000 in
theorem e26_0 (h : Hp) : X (26, 0, [aR 0, aN], [], h) = bI (X (126, 0, [aR 24], [], h)) (fun r1 h1 =>
  bI (X (127, 0, [aR 24, aI r1, aI ((jshl 1 (h 19 4)) - 1), aN, aN], [], h1)) (fun r2 h2 =>
  some (some (jand ((jshl 1 (h 19 4)) - 1) (jxor r2 (-1))), h2))) := (ev_eq [] 300 _).symm
-- 27: NodBench.orders(I)I
set_option maxRecDepth 20000 in
theorem e27_0 (a1 : Int) (h : Hp) : X (27, 0, [aR 0, aI a1, aN], [], h) = cond (decide ((wr a1) ≤ 0))
  (some (some (-1), h))
  (cond (decide ((wr (jand a1 (jxor ((jshl 1 (h 19 4)) - 1) (-1)))) ≠ 0))
    (some (some (-1), h))
    (bI (X (186, 0, [aI a1], [], h)) (fun r1 h1 =>
      cond (decide ((wr r1) ≤ 8))
      (bI (X (168, 0, [aR 76, aI a1, aR 24, aN, aN, aN, aN, aN, aN, aN], [], h1)) (fun r2 h2 =>
        some (some r2, h2)))
      (some (some (-1), h1))))) := (ev_eq [] 300 _).symm
-- 28: NodBench.image()I
set_option maxRecDepth 20000 in
theorem e28_0 (h : Hp) : X (28, 0, [aR 0], [], h) = bV (X (171, 0, [aR 53, aR 11], [], h)) (fun h1 =>
  some (some 1, (up h1 0 5 1))) := (ev_eq [] 300 _).symm
-- 29: NodBench.restore()I
set_option maxRecDepth 20000 in
theorem e29_0 (h : Hp) : X (29, 0, [aR 0], [], h) = cond (decide ((wr (h 0 5)) ≠ 0))
  (bV (X (171, 0, [aR 11, aR 53], [], h)) (fun h1 =>
    some (some 1, (up h1 1 15 1))))
  (some (some (-4), h)) := (ev_eq [] 300 _).symm
-- 30: NodBench.crowd(IIII)I
set_option maxRecDepth 20000 in
theorem e30_0 (a1 a2 a3 a4 : Int) (h : Hp) : X (30, 0, [aR 0, aI a1, aI a2, aI a3, aI a4, aN, aN, aN, aN, aN, aN, aN], [], h) = bI (X (36, 0, [aI a1, aI a2], [], h)) (fun r1 h1 =>
  cond (decide ((wr r1) = 0))
  (some (some (-1), h1))
  (cond (decide ((wr a4) < 1))
    (some (some (-1), h1))
    (cond (decide ((wr a4) ≤ 6))
      (bI (X (173, 0, [aR 72, aI a1, aI a2, aI a3, aI (a4 * 4)], [], h1)) (fun r2 h2 =>
        cond (decide ((wr r2) = 0))
        (X (30, 61, [aR 0, aI a1, aI a2, aI a3, aI a4, aI r2, aI 0, aN, aN, aN, aN, aN], [], (up h2 45 4 0)))
        (some (some r2, h2))))
      (some (some (-1), h1))))) := (ev_eq [61] 300 _).symm
set_option maxRecDepth 20000 in
theorem e30_61 (v1 v2 v3 v4 v5 v6 : Int) (w7 w8 w9 w10 w11 : AV) (h : Hp) : X (30, 61, [aR 0, aI v1, aI v2, aI v3, aI v4, aI v5, aI v6, w7, w8, w9, w10, w11], [], h) = cond (decide ((wr v4) ≤ (wr v6)))
  (cond (decide ((wr ((h 19 4) + v4)) ≤ 12))
    (bV (X (156, 0, [aR 19, aR 45, aN], [], h)) (fun h1 =>
      some (some v4, (up h1 1 15 1))))
    (some (some (-3), h)))
  (bI (X (174, 0, [aR 72, aI v1, aI (v3 + (v6 * 4))], [], h)) (fun r2 h2 =>
    bI (X (174, 0, [aR 72, aI v1, aI ((v3 + (v6 * 4)) + 1)], [], h2)) (fun r3 h3 =>
    bI (X (174, 0, [aR 72, aI v1, aI ((v3 + (v6 * 4)) + 2)], [], h3)) (fun r4 h4 =>
    bI (X (174, 0, [aR 72, aI v1, aI ((v3 + (v6 * 4)) + 3)], [], h4)) (fun r5 h5 =>
    bI (X (37, 0, [aI r2, aI r3, aI r4, aI r5, aN], [], h5)) (fun r6 h6 =>
    cond (decide ((wr r6) ≠ 0))
    (bV (X (155, 0, [aR 45, aI r2, aI r3, aI r4, aI r5], [], h6)) (fun h7 =>
      X (30, 61, [aR 0, aI v1, aI v2, aI v3, aI v4, aI v5, aI (v6 + 1), aI (v3 + (v6 * 4)), aI r2, aI r3, aI r4, aI r5], [], h7)))
    (some (some (-2), h6)))))))) := (ev_eq [61] 300 _).symm
-- 31: NodBench.sheet(III)I
set_option maxRecDepth 20000 in
theorem e31_0 (a1 a2 a3 : Int) (h : Hp) : X (31, 0, [aR 0, aI a1, aI a2, aI a3], [], h) = bI (X (36, 0, [aI a1, aI a2], [], h)) (fun r1 h1 =>
  cond (decide ((wr r1) = 0))
  (some (some (-1), h1))
  (cond (decide ((wr a3) ≤ 24))
    (cond (decide (0 ≤ (wr a3)))
      (bV (X (172, 0, [aR 72, aI a1, aI a2, aI a3, aN], [], h1)) (fun h2 =>
        some (some a3, h2)))
      (some (some (-14), h1)))
    (some (some (-1), h1)))) := (ev_eq [] 300 _).symm
-- 32: NodBench.drop(I)I
set_option maxRecDepth 20000 in
theorem e32_0 (a1 : Int) (h : Hp) : X (32, 0, [aR 0, aI a1, aN], [], h) = bI (X (35, 0, [aI a1, aI 4], [], h)) (fun r1 h1 =>
  cond (decide ((wr r1) ≠ 0))
  (cond (inb 4 a1)
    (cond (decide ((wr (h1 73 (wr a1))) ≠ (-1)))
    (cond (inb 4 a1)
      (bV (X (172, 0, [aR 72, aI a1, aI (-1), aI 0, aN], [], h1)) (fun h2 =>
      some (some (h1 74 (wr a1)), h2)))
      none)
    (some (some (-11), h1)))
    none)
  (some (some (-1), h1))) := (ev_eq [] 300 _).symm
-- 33: NodBench.item(IIII)I
set_option maxRecDepth 20000 in
theorem e33_0 (a1 a2 a3 a4 : Int) (h : Hp) : X (33, 0, [aR 0, aI a1, aI a2, aI a3, aI a4, aN], [], h) = bI (X (36, 0, [aI a1, aI a2], [], h)) (fun r1 h1 =>
  cond (decide ((wr r1) ≠ 0))
  (bI (X (173, 0, [aR 72, aI a1, aI a2, aI a3, aI 1], [], h1)) (fun r2 h2 =>
    cond (decide ((wr r2) = 0))
    (bV (X (175, 0, [aR 72, aI a1, aI a3, aI a4, aN], [], h2)) (fun h3 =>
      some (some 1, h3)))
    (some (some r2, h2))))
  (some (some (-1), h1))) := (ev_eq [] 300 _).symm
-- 34: NodBench.film(III)I
set_option maxRecDepth 20000 in
theorem e34_0 (a1 a2 a3 : Int) (h : Hp) : X (34, 0, [aR 0, aI a1, aI a2, aI a3, aN, aN, aN], [], h) = bI (X (36, 0, [aI a1, aI a2], [], h)) (fun r1 h1 =>
  cond (decide ((wr r1) ≠ 0))
  (bI (X (173, 0, [aR 72, aI a1, aI a2, aI a3, aI (h1 19 4)], [], h1)) (fun r2 h2 =>
    cond (decide ((wr r2) = 0))
    (bV (X (38, 0, [aR 0], [], h2)) (fun h3 =>
      X (34, 51, [aR 0, aI a1, aI a2, aI a3, aI (h1 19 4), aI r2, aI 0], [], h3)))
    (some (some r2, h2))))
  (some (some (-1), h1))) := (ev_eq [51] 300 _).symm
set_option maxRecDepth 20000 in
theorem e34_51 (v1 v2 v3 v4 v5 v6 : Int) (h : Hp) : X (34, 51, [aR 0, aI v1, aI v2, aI v3, aI v4, aI v5, aI v6], [], h) = cond (decide ((wr v4) ≤ (wr v6)))
  (some (some v4, h))
  (cond (inb 12 v6)
    (bV (X (175, 0, [aR 72, aI v1, aI (v3 + v6), aI (h 3 (wr v6)), aN], [], h)) (fun h1 =>
    X (34, 51, [aR 0, aI v1, aI v2, aI v3, aI v4, aI v5, aI (v6 + 1)], [], h1)))
    none) := (ev_eq [51] 300 _).symm
-- 35: NodBench.isBelow(II)Z
set_option maxRecDepth 20000 in
theorem e35_0 (a0 a1 : Int) (h : Hp) : X (35, 0, [aI a0, aI a1], [], h) = cond (decide ((wr a0) < 0))
  (some (some 0, h))
  (cond (decide ((wr a1) ≤ (wr a0)))
    (some (some 0, h))
    (some (some 1, h))) := (ev_eq [] 300 _).symm
-- 36: NodBench.areSheetAndLane(II)Z
set_option maxRecDepth 20000 in
theorem e36_0 (a0 a1 : Int) (h : Hp) : X (36, 0, [aI a0, aI a1], [], h) = bI (X (35, 0, [aI a0, aI 4], [], h)) (fun r1 h1 =>
  cond (decide ((wr r1) = 0))
  (some (some 0, h1))
  (bI (X (35, 0, [aI a1, aI 3], [], h1)) (fun r2 h2 =>
    cond (decide ((wr r2) = 0))
    (some (some 0, h2))
    (some (some 1, h2))))) := (ev_eq [] 300 _).symm
-- 37: NodBench.areLegal(IIII)Z
set_option maxRecDepth 20000 in
theorem e37_0 (a0 a1 a2 a3 : Int) (h : Hp) : X (37, 0, [aI a0, aI a1, aI a2, aI a3, aN], [], h) = bI (X (35, 0, [aI a0, aI 240], [], h)) (fun r1 h1 =>
  cond (decide ((wr r1) = 0))
  (some (some 0, h1))
  (bI (X (35, 0, [aI a1, aI 6], [], h1)) (fun r2 h2 =>
    cond (decide ((wr r2) = 0))
    (some (some 0, h2))
    (bI (X (35, 0, [aI a2, aI 4], [], h2)) (fun r3 h3 =>
      cond (decide ((wr r3) ≠ 0))
      (cond (decide ((wr a1) ≠ 4))
        (cond (inb 6 a1)
          (cond (inb 6 a1)
          (cond (decide ((wr a3) < (wr (h3 100 (wr a1)))))
          (some (some 0, h3))
          (cond (decide ((wr (h3 101 (wr a1))) < (wr a3)))
            (some (some 0, h3))
            (some (some 1, h3))))
          none)
          none)
        (cond (inb 6 a1)
          (cond (decide ((wr a3) < (wr (h3 100 (wr a1)))))
          (some (some 0, h3))
          (cond (decide ((wr a0) < (wr a3)))
            (some (some 0, h3))
            (some (some 1, h3))))
          none))
      (some (some 0, h3))))))) := (ev_eq [] 300 _).symm
-- 38: NodBench.playToday()V
set_option maxRecDepth 20000 in
theorem e38_0 (h : Hp) : X (38, 0, [aR 0], [], h) = cond (decide ((wr (h 1 15)) = 0))
  (some (none, h))
  (bV (X (130, 0, [aR 1, aI (-1), aN], [], h)) (fun h1 =>
    some (none, (up h1 1 15 0)))) := (ev_eq [] 300 _).symm
-- 39: NodBench.playByRule(I)V
set_option maxRecDepth 20000 in
theorem e39_0 (a1 : Int) (h : Hp) : X (39, 0, [aR 0, aI a1], [], h) = bV (X (171, 0, [aR 37, aR 11], [], h)) (fun h1 =>
  bV (X (130, 0, [aR 27, aI (-1), aN], [], (up h1 39 7 a1))) (fun h2 =>
  some (none, h2))) := (ev_eq [] 300 _).symm
-- 40: NodBench.beats(II)Z
set_option maxRecDepth 20000 in
theorem e40_0 (a1 a2 : Int) (h : Hp) : X (40, 0, [aR 0, aI a1, aI a2, aN, aN, aN, aN], [], h) = X (40, 5, [aR 0, aI a1, aI a2, aI 0, aI 0, aN, aN], [], h) := (ev_eq [5] 300 _).symm
set_option maxRecDepth 20000 in
theorem e40_5 (v1 v2 v3 v4 : Int) (w5 w6 : AV) (h : Hp) : X (40, 5, [aR 0, aI v1, aI v2, aI v3, aI v4, w5, w6], [], h) = cond (decide (3 ≤ (wr v4)))
  (cond (bz v3) (some (some v3, h)) none)
  (cond (inb 9 ((v1 * 3) + v4))
    (cond (inb 9 ((v2 * 3) + v4))
    (cond (decide ((wr (h 69 (wr ((v1 * 3) + v4)))) ≤ (wr (h 69 (wr ((v2 * 3) + v4))))))
    (cond (decide ((wr v3) ≠ 0))
      (X (40, 5, [aR 0, aI v1, aI v2, aI 1, aI (v4 + 1), aI (h 69 (wr ((v1 * 3) + v4))), aI (h 69 (wr ((v2 * 3) + v4)))], [], h))
      (cond (decide ((wr (h 69 (wr ((v2 * 3) + v4)))) ≤ (wr (h 69 (wr ((v1 * 3) + v4))))))
        (X (40, 5, [aR 0, aI v1, aI v2, aI 0, aI (v4 + 1), aI (h 69 (wr ((v1 * 3) + v4))), aI (h 69 (wr ((v2 * 3) + v4)))], [], h))
        (X (40, 5, [aR 0, aI v1, aI v2, aI 1, aI (v4 + 1), aI (h 69 (wr ((v1 * 3) + v4))), aI (h 69 (wr ((v2 * 3) + v4)))], [], h))))
    (some (some 0, h)))
    none)
    none) := (ev_eq [5] 300 _).symm
-- 41: NodBenchModel.in(JJJ)Z
set_option maxRecDepth 20000 in
theorem e41_0 (a0 a2 a4 : Int) (h : Hp) : X (41, 0, [aL a0, aN, aL a2, aN, aL a4, aN], [], h) = cond (decide ((wr (qcmp a0 a2)) < 0))
  (some (some 0, h))
  (cond (decide (0 < (wr (qcmp a0 a4))))
    (some (some 0, h))
    (some (some 1, h))) := (ev_eq [] 300 _).symm
-- 42: NodBenchModel.has(II)Z
set_option maxRecDepth 20000 in
theorem e42_0 (a0 a1 : Int) (h : Hp) : X (42, 0, [aI a0, aI a1], [], h) = cond (decide ((wr (jand (jshr a0 a1) 1)) ≠ 1))
  (some (some 0, h))
  (some (some 1, h)) := (ev_eq [] 300 _).symm
-- 43: NodBenchModel.set(II)I
set_option maxRecDepth 20000 in
theorem e43_0 (a1 a2 : Int) (h : Hp) : X (43, 0, [aR 80, aI a1, aI a2, aN, aN], [], h) = cond (decide ((wr a1) ≠ 0))
  (cond (decide ((wr a1) ≠ 1))
    (cond (decide ((wr a1) ≠ 2))
      (cond (decide ((wr a1) ≠ 3))
        (cond (decide ((wr a1) ≠ 4))
          (cond (decide ((wr a1) ≠ 5))
            (cond (decide ((wr a1) ≠ 6))
              (X (43, 71, [aR 80, aI a1, aI a2, aN, aN], [aI 2], h))
              (X (43, 71, [aR 80, aI a1, aI a2, aN, aN], [aI 1], h)))
            (X (43, 71, [aR 80, aI a1, aI a2, aN, aN], [aI 13], h)))
          (X (43, 71, [aR 80, aI a1, aI a2, aN, aN], [aI 20], h)))
        (X (43, 71, [aR 80, aI a1, aI a2, aN, aN], [aI 10], h)))
      (X (43, 71, [aR 80, aI a1, aI a2, aN, aN], [aI 239], h)))
    (X (43, 71, [aR 80, aI a1, aI a2, aN, aN], [aI 40], h)))
  (X (43, 71, [aR 80, aI a1, aI a2, aN, aN], [aI 12], h)) := (ev_eq [71] 300 _).symm
set_option maxRecDepth 20000 in
theorem e43_71 (v1 v2 s0 : Int) (h : Hp) : X (43, 71, [aR 80, aI v1, aI v2, aN, aN], [aI s0], h) = bI (X (41, 0, [aL (wr v1), aN, aL 0, aN, aL 7, aN], [], h)) (fun r1 h1 =>
  cond (decide ((wr r1) = 0))
  (some (some (-1), h1))
  (cond (decide ((wr v1) ≠ 0))
    (bI (X (41, 0, [aL (wr v2), aN, aL 0, aN, aL (wr s0), aN], [], h1)) (fun r2 h2 =>
      cond (decide ((wr r2) ≠ 0))
      (cond (inb 115 v1)
        (cond (inb 115 v1)
        (some (some (h2 81 (wr v1)), (up h2 81 (wr v1) v2)))
        none)
        none)
      (some (some (-1), h2))))
    (bI (X (41, 0, [aL (wr v2), aN, aL 1, aN, aL (wr s0), aN], [], h1)) (fun r3 h3 =>
      cond (decide ((wr r3) ≠ 0))
      (cond (inb 115 v1)
        (cond (inb 115 v1)
        (some (some (h3 81 (wr v1)), (up h3 81 (wr v1) v2)))
        none)
        none)
      (some (some (-1), h3)))))) := (ev_eq [71] 300 _).symm
-- 44: NodBenchModel.cut(III)I
set_option maxRecDepth 20000 in
theorem e44_0 (a1 a2 a3 : Int) (h : Hp) : X (44, 0, [aR 80, aI a1, aI a2, aI a3, aN], [], h) = bI (X (41, 0, [aL (wr a1), aN, aL 0, aN, aL 2, aN], [], h)) (fun r1 h1 =>
  cond (decide ((wr r1) = 0))
  (some (some (-1), h1))
  (bI (X (41, 0, [aL (wr a2), aN, aL 0, aN, aL 3, aN], [], h1)) (fun r2 h2 =>
    cond (decide ((wr r2) = 0))
    (some (some (-1), h2))
    (bI (X (41, 0, [aL (wr a3), aN, aL 1, aN, aL 60, aN], [], h2)) (fun r3 h3 =>
      cond (decide ((wr r3) ≠ 0))
      (cond (inb 115 ((8 + (4 * a1)) + a2))
        (cond (inb 115 ((8 + (4 * a1)) + a2))
        (some (some (h3 81 (wr ((8 + (4 * a1)) + a2))), (up h3 81 (wr ((8 + (4 * a1)) + a2)) a3)))
        none)
        none)
      (some (some (-1), h3))))))) := (ev_eq [] 300 _).symm
-- 45: NodBenchModel.price(II)I
set_option maxRecDepth 20000 in
theorem e45_0 (a1 a2 : Int) (h : Hp) : X (45, 0, [aR 80, aI a1, aI a2, aN], [], h) = bI (X (41, 0, [aL (wr a1), aN, aL 0, aN, aL 3, aN], [], h)) (fun r1 h1 =>
  cond (decide ((wr r1) = 0))
  (some (some (-1), h1))
  (bI (X (41, 0, [aL (wr a2), aN, aL 0, aN, aL 99, aN], [], h1)) (fun r2 h2 =>
    cond (decide ((wr r2) ≠ 0))
    (cond (inb 115 (20 + a1))
      (cond (inb 115 (20 + a1))
      (some (some (h2 81 (wr (20 + a1))), (up h2 81 (wr (20 + a1)) a2)))
      none)
      none)
    (some (some (-1), h2))))) := (ev_eq [] 300 _).symm
-- 46: NodBenchModel.leastOf(I)I
set_option maxRecDepth 20000 in
theorem e46_0 (a0 : Int) (h : Hp) : X (46, 0, [aI a0], [], h) = cond (decide ((wr a0) ≠ 2))
  (cond (decide ((wr a0) = 3))
    (some (some 1, h))
    (cond (decide ((wr a0) ≠ 5))
      (some (some 0, h))
      (some (some 1, h))))
  (some (some 2, h)) := (ev_eq [] 300 _).symm
-- 47: NodBenchModel.mostOf(II)I
set_option maxRecDepth 20000 in
theorem e47_0 (a0 a1 : Int) (h : Hp) : X (47, 0, [aI a0, aI a1], [], h) = cond (decide ((wr a0) ≠ 0))
  (cond (decide ((wr a0) ≠ 1))
    (cond (decide ((wr a0) ≠ 2))
      (cond (decide ((wr a0) ≠ 4))
        (some (some 99, h))
        (some (some a1, h)))
      (some (some 4, h)))
    (some (some 2, h)))
  (some (some 0, h)) := (ev_eq [] 300 _).symm
-- 48: NodBenchModel.mayBe(IIII)Z
set_option maxRecDepth 20000 in
theorem e48_0 (a0 a1 a2 a3 : Int) (h : Hp) : X (48, 0, [aI a0, aI a1, aI a2, aI a3], [], h) = bI (X (41, 0, [aL (wr a0), aN, aL 0, aN, aL 239, aN], [], h)) (fun r1 h1 =>
  cond (decide ((wr r1) = 0))
  (some (some 0, h1))
  (bI (X (41, 0, [aL (wr a1), aN, aL 0, aN, aL 5, aN], [], h1)) (fun r2 h2 =>
    cond (decide ((wr r2) = 0))
    (some (some 0, h2))
    (bI (X (41, 0, [aL (wr a2), aN, aL 0, aN, aL 3, aN], [], h2)) (fun r3 h3 =>
      cond (decide ((wr r3) = 0))
      (some (some 0, h3))
      (bI (X (46, 0, [aI a1], [], h3)) (fun r4 h4 =>
        bI (X (47, 0, [aI a1, aI a0], [], h4)) (fun r5 h5 =>
        bI (X (41, 0, [aL (wr a3), aN, aL (wr r4), aN, aL (wr r5), aN], [], h5)) (fun r6 h6 =>
        cond (decide ((wr r6) = 0))
        (some (some 0, h6))
        (some (some 1, h6))))))))))) := (ev_eq [] 300 _).symm
-- 49: NodBenchModel.isPerson(I)Z
set_option maxRecDepth 20000 in
theorem e49_0 (a1 : Int) (h : Hp) : X (49, 0, [aR 80, aI a1], [], h) = bI (X (41, 0, [aL (wr a1), aN, aL 0, aN, aL (wr ((h 81 24) - 1)), aN], [], h)) (fun r1 h1 =>
  cond (bz r1) (some (some r1, h1)) none) := (ev_eq [] 300 _).symm
-- 50: NodBenchModel.of(II)I
set_option maxRecDepth 20000 in
theorem e50_0 (a1 a2 : Int) (h : Hp) : X (50, 0, [aR 80, aI a1, aI a2], [], h) = cond (inb 115 ((67 + (4 * a1)) + a2))
  (some (some (h 81 (wr ((67 + (4 * a1)) + a2))), h))
  none := (ev_eq [] 300 _).symm
-- 51: NodBenchModel.add(IIII)V
set_option maxRecDepth 20000 in
theorem e51_0 (a1 a2 a3 a4 : Int) (h : Hp) : X (51, 0, [aR 80, aI a1, aI a2, aI a3, aI a4, aN], [], h) = cond (inb 115 (67 + (4 * (h 81 24))))
  (cond (inb 115 ((67 + (4 * (h 81 24))) + 1))
  (cond (inb 115 ((67 + (4 * (h 81 24))) + 2))
  (cond (inb 115 ((67 + (4 * (h 81 24))) + 3))
  (some (none, (up (up (up (up (up h 81 (wr (67 + (4 * (h 81 24)))) a1) 81 (wr ((67 + (4 * (h 81 24))) + 1)) a2) 81 (wr ((67 + (4 * (h 81 24))) + 2)) a3) 81 (wr ((67 + (4 * (h 81 24))) + 3)) a4) 81 24 (((up (up (up (up h 81 (wr (67 + (4 * (h 81 24)))) a1) 81 (wr ((67 + (4 * (h 81 24))) + 1)) a2) 81 (wr ((67 + (4 * (h 81 24))) + 2)) a3) 81 (wr ((67 + (4 * (h 81 24))) + 3)) a4) 81 24) + 1))))
  none)
  none)
  none)
  none := (ev_eq [] 300 _).symm
-- 52: NodBenchModel.person(IIII)I
set_option maxRecDepth 20000 in
theorem e52_0 (a1 a2 a3 a4 : Int) (h : Hp) : X (52, 0, [aR 80, aI a1, aI a2, aI a3, aI a4], [], h) = bI (X (48, 0, [aI a1, aI a2, aI a3, aI a4], [], h)) (fun r1 h1 =>
  cond (decide ((wr r1) ≠ 0))
  (cond (decide ((wr (h1 81 24)) ≠ 12))
    (bV (X (51, 0, [aR 80, aI a1, aI a2, aI a3, aI a4, aN], [], h1)) (fun h2 =>
      some (some ((h2 81 24) - 1), h2)))
    (some (some (-3), h1)))
  (some (some (-1), h1))) := (ev_eq [] 300 _).symm
-- 53: NodBenchModel.told(II)I
set_option maxRecDepth 20000 in
theorem e53_0 (a1 a2 : Int) (h : Hp) : X (53, 0, [aR 80, aI a1, aI a2], [], h) = bI (X (49, 0, [aR 80, aI a1], [], h)) (fun r1 h1 =>
  cond (decide ((wr r1) = 0))
  (some (some (-1), h1))
  (bI (X (41, 0, [aL (wr a2), aN, aL 0, aN, aL 3, aN], [], h1)) (fun r2 h2 =>
    cond (decide ((wr r2) = 0))
    (some (some (-1), h2))
    (bI (X (50, 0, [aR 80, aI a1, aI a2], [], h2)) (fun r3 h3 =>
      some (some r3, h3)))))) := (ev_eq [] 300 _).symm
-- 54: NodBenchModel.strike(I)I
set_option maxRecDepth 20000 in
theorem e54_0 (a1 : Int) (h : Hp) : X (54, 0, [aR 80, aI a1, aN, aN, aN, aN], [], h) = bI (X (49, 0, [aR 80, aI a1], [], h)) (fun r1 h1 =>
  cond (decide ((wr r1) ≠ 0))
  (X (54, 17, [aR 80, aI a1, aI (67 + (4 * a1)), aN, aN, aN], [], h1))
  (some (some (-1), h1))) := (ev_eq [17, 70] 300 _).symm
set_option maxRecDepth 20000 in
theorem e54_17 (v1 v2 : Int) (h : Hp) : X (54, 17, [aR 80, aI v1, aI v2, aN, aN, aN], [], h) = cond (decide ((wr ((67 + (4 * (h 81 24))) - 4)) ≤ (wr v2)))
  (X (54, 70, [aR 80, aI v1, aI 0, aI 0, aN, aN], [], (up h 81 24 ((h 81 24) - 1))))
  (cond (inb 115 (v2 + 4))
    (cond (inb 115 v2)
    (X (54, 17, [aR 80, aI v1, aI (v2 + 1), aN, aN, aN], [], (up h 81 (wr v2) (h 81 (wr (v2 + 4))))))
    none)
    none) := (ev_eq [17, 70] 300 _).symm
set_option maxRecDepth 20000 in
theorem e54_70 (v1 v2 v3 : Int) (w4 w5 : AV) (h : Hp) : X (54, 70, [aR 80, aI v1, aI v2, aI v3, w4, w5], [], h) = cond (decide ((wr (h 81 42)) ≤ (wr v3)))
  (some (some ((up h 81 42 v2) 81 24), (up h 81 42 v2)))
  (cond (inb 115 (43 + (2 * v3)))
    (cond (inb 115 ((43 + (2 * v3)) + 1))
    (cond (decide ((wr (h 81 (wr (43 + (2 * v3))))) = (wr v1)))
    (X (54, 70, [aR 80, aI v1, aI v2, aI (v3 + 1), aI (h 81 (wr (43 + (2 * v3)))), aI (h 81 (wr ((43 + (2 * v3)) + 1)))], [], h))
    (cond (decide ((wr (h 81 (wr ((43 + (2 * v3)) + 1)))) = (wr v1)))
      (X (54, 70, [aR 80, aI v1, aI v2, aI (v3 + 1), aI (h 81 (wr (43 + (2 * v3)))), aI (h 81 (wr ((43 + (2 * v3)) + 1)))], [], h))
      (cond (decide ((wr (h 81 (wr (43 + (2 * v3))))) ≤ (wr v1)))
        (cond (inb 115 (43 + (2 * v2)))
          (cond (decide ((wr (h 81 (wr ((43 + (2 * v3)) + 1)))) ≤ (wr v1)))
          (cond (inb 115 ((43 + (2 * v2)) + 1))
            (X (54, 70, [aR 80, aI v1, aI (v2 + 1), aI (v3 + 1), aI (h 81 (wr (43 + (2 * v3)))), aI (h 81 (wr ((43 + (2 * v3)) + 1)))], [], (up (up h 81 (wr (43 + (2 * v2))) (h 81 (wr (43 + (2 * v3))))) 81 (wr ((43 + (2 * v2)) + 1)) (h 81 (wr ((43 + (2 * v3)) + 1))))))
            none)
          (cond (inb 115 ((43 + (2 * v2)) + 1))
            (X (54, 70, [aR 80, aI v1, aI (v2 + 1), aI (v3 + 1), aI (h 81 (wr (43 + (2 * v3)))), aI (h 81 (wr ((43 + (2 * v3)) + 1)))], [], (up (up h 81 (wr (43 + (2 * v2))) (h 81 (wr (43 + (2 * v3))))) 81 (wr ((43 + (2 * v2)) + 1)) ((h 81 (wr ((43 + (2 * v3)) + 1))) - 1))))
            none))
          none)
        (cond (inb 115 (43 + (2 * v2)))
          (cond (decide ((wr (h 81 (wr ((43 + (2 * v3)) + 1)))) ≤ (wr v1)))
          (cond (inb 115 ((43 + (2 * v2)) + 1))
            (X (54, 70, [aR 80, aI v1, aI (v2 + 1), aI (v3 + 1), aI (h 81 (wr (43 + (2 * v3)))), aI (h 81 (wr ((43 + (2 * v3)) + 1)))], [], (up (up h 81 (wr (43 + (2 * v2))) ((h 81 (wr (43 + (2 * v3)))) - 1)) 81 (wr ((43 + (2 * v2)) + 1)) (h 81 (wr ((43 + (2 * v3)) + 1))))))
            none)
          (cond (inb 115 ((43 + (2 * v2)) + 1))
            (X (54, 70, [aR 80, aI v1, aI (v2 + 1), aI (v3 + 1), aI (h 81 (wr (43 + (2 * v3)))), aI (h 81 (wr ((43 + (2 * v3)) + 1)))], [], (up (up h 81 (wr (43 + (2 * v2))) ((h 81 (wr (43 + (2 * v3)))) - 1)) 81 (wr ((43 + (2 * v2)) + 1)) ((h 81 (wr ((43 + (2 * v3)) + 1))) - 1))))
            none))
          none))))
    none)
    none) := (ev_eq [17, 70] 300 _).symm
