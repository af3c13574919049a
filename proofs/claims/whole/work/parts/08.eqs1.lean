/-! block equations, written by wip/whole/gen10.py -/
-- 55: NodBenchModel.type(JI)I
set_option maxRecDepth 20000 in
theorem e55_0 (a1 a3 : Int) (h : Hp) : X (55, 0, [aR 80, aL a1, aN, aI a3, aN], [], h) = bI (X (41, 0, [aL (wr a3), aN, aL 1, aN, aL 8, aN], [], h)) (fun r1 h1 =>
  cond (decide ((wr r1) ≠ 0))
  (X (55, 19, [aR 80, aL a1, aN, aI a3, aI (a3 - 1)], [], h1))
  (some (some (-1), h1))) := (ev_eq [19, 74] 300 _).symm
set_option maxRecDepth 20000 in
theorem e55_19 (v1 v3 v4 : Int) (h : Hp) : X (55, 19, [aR 80, aL v1, aN, aI v3, aI v4], [], h) = cond (decide ((wr v4) < 0))
  (cond (decide ((wr ((h 80 2) + v3)) ≤ 80))
    (X (55, 74, [aR 80, aL v1, aN, aI v3, aI (v3 - 1)], [], h))
    (some (some (-3), h)))
  (bI (X (41, 0, [aL (qand (qshr v1 (8 * v4)) 255), aN, aL 32, aN, aL 126, aN], [], h)) (fun r1 h1 =>
    cond (decide ((wr r1) ≠ 0))
    (X (55, 19, [aR 80, aL v1, aN, aI v3, aI (v4 + (-1))], [], h1))
    (some (some (-1), h1)))) := (ev_eq [19, 74] 300 _).symm
set_option maxRecDepth 20000 in
theorem e55_74 (v1 v3 v4 : Int) (h : Hp) : X (55, 74, [aR 80, aL v1, aN, aI v3, aI v4], [], h) = cond (decide ((wr v4) < 0))
  (some (some (h 80 2), h))
  (cond (inb 80 (h 80 2))
    (X (55, 74, [aR 80, aL v1, aN, aI v3, aI (v4 + (-1))], [], (up (up h 82 (wr (h 80 2)) (qand (qshr v1 (8 * v4)) 255)) 80 2 (((up h 82 (wr (h 80 2)) (qand (qshr v1 (8 * v4)) 255)) 80 2) + 1))))
    none) := (ev_eq [19, 74] 300 _).symm
-- 56: NodBenchModel.nextByte()I
set_option maxRecDepth 20000 in
theorem e56_0 (h : Hp) : X (56, 0, [aR 80], [], h) = cond (decide ((wr (h 80 2)) ≤ (wr (h 80 3))))
  (cond (decide ((wr (h 80 2)) ≤ (wr (h 80 3))))
    (some (some (-1), h))
    (cond (inb 80 (h 80 3))
      (some (some (h 82 (wr (h 80 3))), h))
      none))
  (cond (inb 80 (h 80 3))
    (cond (decide ((wr (h 82 (wr (h 80 3)))) ≠ 32))
    (cond (decide ((wr (h 80 2)) ≤ (wr (h 80 3))))
      (some (some (-1), h))
      (cond (inb 80 (h 80 3))
        (some (some (h 82 (wr (h 80 3))), h))
        none))
    (X (56, 0, [aR 80], [], (up h 80 3 ((h 80 3) + 1)))))
    none) := (ev_eq [0] 300 _).symm
-- 57: NodBenchModel.takes(I)Z
set_option maxRecDepth 20000 in
theorem e57_0 (a1 : Int) (h : Hp) : X (57, 0, [aR 80, aI a1, aN], [], h) = bI (X (56, 0, [aR 80], [], h)) (fun r1 h1 =>
  cond (decide ((wr r1) ≠ (wr a1)))
  (some (some 0, (up h1 80 3 ((h1 80 3) + 0))))
  (some (some 1, (up h1 80 3 ((h1 80 3) + 1))))) := (ev_eq [] 300 _).symm
-- 58: NodBenchModel.readNumber(II)I
set_option maxRecDepth 20000 in
theorem e58_0 (a1 a2 : Int) (h : Hp) : X (58, 0, [aR 80, aI a1, aI a2, aN, aN], [], h) = bI (X (56, 0, [aR 80], [], h)) (fun r1 h1 =>
  X (58, 13, [aR 80, aI a1, aI a2, aI (h1 80 3), aI 0], [], h1)) := (ev_eq [13] 300 _).symm
set_option maxRecDepth 20000 in
theorem e58_13 (v1 v2 v3 v4 : Int) (h : Hp) : X (58, 13, [aR 80, aI v1, aI v2, aI v3, aI v4], [], h) = cond (decide ((wr (h 80 2)) ≤ (wr (h 80 3))))
  (cond (decide ((wr (h 80 3)) ≠ (wr v3)))
    (bI (X (41, 0, [aL (wr v4), aN, aL (wr v1), aN, aL (wr v2), aN], [], h)) (fun r1 h1 =>
      cond (decide ((wr r1) ≠ 0))
      (some (some v4, h1))
      (some (some (-1), (up h1 80 3 v3)))))
    (some (some (-1), h)))
  (cond (inb 80 (h 80 3))
    (bI (X (41, 0, [aL (wr (h 82 (wr (h 80 3)))), aN, aL 48, aN, aL 57, aN], [], h)) (fun r2 h2 =>
    cond (decide ((wr r2) = 0))
    (cond (decide ((wr (h2 80 3)) ≠ (wr v3)))
      (bI (X (41, 0, [aL (wr v4), aN, aL (wr v1), aN, aL (wr v2), aN], [], h2)) (fun r3 h3 =>
        cond (decide ((wr r3) ≠ 0))
        (some (some v4, h3))
        (some (some (-1), (up h3 80 3 v3)))))
      (some (some (-1), h2)))
    (cond (decide ((wr v4) ≤ 999))
      (cond (inb 80 (h2 80 3))
        (X (58, 13, [aR 80, aI v1, aI v2, aI v3, aI (((10 * v4) + (h2 82 (wr (h2 80 3)))) - 48)], [], (up h2 80 3 ((h2 80 3) + 1))))
        none)
      (X (58, 13, [aR 80, aI v1, aI v2, aI v3, aI v4], [], (up h2 80 3 ((h2 80 3) + 1)))))))
    none) := (ev_eq [13] 300 _).symm
-- 59: NodBenchModel.readKind(I)I
set_option maxRecDepth 20000 in
theorem e59_0 (a1 : Int) (h : Hp) : X (59, 0, [aR 80, aI a1, aN, aN], [], h) = bI (X (56, 0, [aR 80], [], h)) (fun r1 h1 =>
  cond (decide ((wr r1) ≠ 112))
  (cond (decide ((wr r1) ≠ 99))
    (cond (decide ((wr r1) ≠ 103))
      (cond (decide ((wr r1) ≠ 111))
        (cond (decide ((wr r1) ≠ 108))
          (cond (decide ((wr r1) ≠ 116))
            (some (some (-1), h1))
            (cond (decide (5 ≠ (wr a1)))
              (some (some 5, (up h1 80 3 ((h1 80 3) + 1))))
              (some (some (-1), h1))))
          (cond (decide (4 ≠ (wr a1)))
            (some (some 4, (up h1 80 3 ((h1 80 3) + 1))))
            (some (some (-1), h1))))
        (cond (decide (3 ≠ (wr a1)))
          (some (some 3, (up h1 80 3 ((h1 80 3) + 1))))
          (some (some (-1), h1))))
      (cond (decide (2 ≠ (wr a1)))
        (some (some 2, (up h1 80 3 ((h1 80 3) + 1))))
        (some (some (-1), h1))))
    (cond (decide (1 ≠ (wr a1)))
      (some (some 1, (up h1 80 3 ((h1 80 3) + 1))))
      (some (some (-1), h1))))
  (cond (decide (0 ≠ (wr a1)))
    (some (some 0, (up h1 80 3 ((h1 80 3) + 1))))
    (some (some (-1), h1)))) := (ev_eq [] 300 _).symm
-- 60: NodBenchModel.readManners()Z
set_option maxRecDepth 20000 in
theorem e60_0 (h : Hp) : X (60, 0, [aR 80, aN, aN], [], h) = X (60, 7, [aR 80, aI 0, aN], [], (up h 80 3 0)) := (ev_eq [7] 300 _).symm
set_option maxRecDepth 20000 in
theorem e60_7 (v1 : Int) (w2 : AV) (h : Hp) : X (60, 7, [aR 80, aI v1, w2], [], h) = cond (decide (8 ≤ (wr v1)))
  (some (some 0, h))
  (bI (X (59, 0, [aR 80, aI (-4), aN, aN], [], h)) (fun r1 h1 =>
    cond (inb 32 (2 * v1))
    (cond (inb 32 (2 * v1))
    (cond (decide (0 ≤ (wr ((up h1 83 (wr (2 * v1)) r1) 83 (wr (2 * v1))))))
    (cond (inb 32 (2 * v1))
      (bI (X (59, 0, [aR 80, aI ((up h1 83 (wr (2 * v1)) r1) 83 (wr (2 * v1))), aN, aN], [], (up h1 83 (wr (2 * v1)) r1))) (fun r2 h2 =>
      cond (inb 32 ((2 * v1) + 1))
      (cond (inb 32 ((2 * v1) + 1))
      (cond (decide (0 ≤ (wr ((up h2 83 (wr ((2 * v1) + 1)) r2) 83 (wr ((2 * v1) + 1))))))
      (bI (X (56, 0, [aR 80], [], (up (up h2 83 (wr ((2 * v1) + 1)) r2) 80 4 (v1 + 1)))) (fun r3 h3 =>
        cond (decide (0 ≤ (wr r3)))
        (cond (decide ((wr r3) ≠ 44))
          (some (some 0, h3))
          (cond (decide ((wr v1) ≠ 7))
            (X (60, 7, [aR 80, aI (v1 + 1), aI r3], [], (up h3 80 3 ((h3 80 3) + 1))))
            (some (some 0, h3))))
        (some (some 1, h3))))
      (some (some 0, (up h2 83 (wr ((2 * v1) + 1)) r2))))
      none)
      none))
      none)
    (some (some 0, (up h1 83 (wr (2 * v1)) r1))))
    none)
    none)) := (ev_eq [7] 300 _).symm
-- 61: NodBenchModel.manners()I
set_option maxRecDepth 20000 in
theorem e61_0 (h : Hp) : X (61, 0, [aR 80, aN, aN], [], h) = bI (X (60, 0, [aR 80, aN, aN], [], h)) (fun r1 h1 =>
  cond (decide ((wr r1) ≠ 0))
  (X (61, 24, [aR 80, aI r1, aI 0], [], (up h1 80 2 0)))
  (some (some ((-20) - ((up h1 80 2 0) 80 3)), (up h1 80 2 0)))) := (ev_eq [24] 300 _).symm
set_option maxRecDepth 20000 in
theorem e61_24 (v1 v2 : Int) (h : Hp) : X (61, 24, [aR 80, aI v1, aI v2], [], h) = cond (decide ((wr (2 * (h 80 4))) ≤ (wr v2)))
  (some (some ((up h 81 25 (h 80 4)) 80 4), (up h 81 25 (h 80 4))))
  (cond (inb 32 v2)
    (cond (inb 115 (26 + v2))
    (X (61, 24, [aR 80, aI v1, aI (v2 + 1)], [], (up h 81 (wr (26 + v2)) (h 83 (wr v2)))))
    none)
    none) := (ev_eq [24] 300 _).symm
-- 62: NodBenchModel.isPair(II)Z
set_option maxRecDepth 20000 in
theorem e62_0 (a1 a2 : Int) (h : Hp) : X (62, 0, [aR 80, aI a1, aI a2, aN, aN], [], h) = X (62, 5, [aR 80, aI a1, aI a2, aI 0, aI 0], [], h) := (ev_eq [5] 300 _).symm
set_option maxRecDepth 20000 in
theorem e62_5 (v1 v2 v3 v4 : Int) (h : Hp) : X (62, 5, [aR 80, aI v1, aI v2, aI v3, aI v4], [], h) = cond (decide ((wr (h 81 25)) ≤ (wr v4)))
  (cond (bz v3) (some (some v3, h)) none)
  (cond (decide ((wr v3) ≠ 0))
    (X (62, 5, [aR 80, aI v1, aI v2, aI 1, aI (v4 + 1)], [], h))
    (cond (inb 115 (26 + (2 * v4)))
      (cond (decide ((wr (h 81 (wr (26 + (2 * v4))))) ≠ (wr v1)))
      (X (62, 5, [aR 80, aI v1, aI v2, aI 0, aI (v4 + 1)], [], h))
      (cond (inb 115 ((26 + (2 * v4)) + 1))
        (cond (decide ((wr (h 81 (wr ((26 + (2 * v4)) + 1)))) ≠ (wr v2)))
        (X (62, 5, [aR 80, aI v1, aI v2, aI 0, aI (v4 + 1)], [], h))
        (X (62, 5, [aR 80, aI v1, aI v2, aI 1, aI (v4 + 1)], [], h)))
        none))
      none)) := (ev_eq [5] 300 _).symm
-- 63: NodBenchModel.before(II)I
set_option maxRecDepth 20000 in
theorem e63_0 (a1 a2 : Int) (h : Hp) : X (63, 0, [aR 80, aI a1, aI a2], [], h) = bI (X (41, 0, [aL (wr a1), aN, aL 0, aN, aL 5, aN], [], h)) (fun r1 h1 =>
  cond (decide ((wr r1) = 0))
  (some (some (-1), h1))
  (bI (X (41, 0, [aL (wr a2), aN, aL 0, aN, aL 5, aN], [], h1)) (fun r2 h2 =>
    cond (decide ((wr r2) = 0))
    (some (some (-1), h2))
    (cond (decide ((wr a1) ≠ (wr a2)))
      (bI (X (62, 0, [aR 80, aI a1, aI a2, aN, aN], [], h2)) (fun r3 h3 =>
        cond (decide ((wr r3) = 0))
        (some (some 0, h3))
        (some (some 1, h3))))
      (some (some (-1), h2)))))) := (ev_eq [] 300 _).symm
-- 64: NodBenchModel.rounds()I
set_option maxRecDepth 20000 in
theorem e64_0 (h : Hp) : X (64, 0, [aR 80, aN, aN, aN, aN, aN, aN], [], h) = X (64, 4, [aR 80, aI 0, aI 0, aN, aN, aN, aN], [], h) := (ev_eq [4, 14, 23] 300 _).symm
set_option maxRecDepth 20000 in
theorem e64_4 (v1 v2 : Int) (w3 w4 w5 w6 : AV) (h : Hp) : X (64, 4, [aR 80, aI v1, aI v2, w3, w4, w5, w6], [], h) = cond (decide (5 < (wr v2)))
  (some (some v1, h))
  (X (64, 14, [aR 80, aI v1, aI v2, aI 0, aI 0, w5, w6], [], h)) := (ev_eq [4, 14, 23] 300 _).symm
set_option maxRecDepth 20000 in
theorem e64_14 (v1 v2 v3 v4 : Int) (w5 w6 : AV) (h : Hp) : X (64, 14, [aR 80, aI v1, aI v2, aI v3, aI v4, w5, w6], [], h) = cond (decide (5 < (wr v4)))
  (bI (X (42, 0, [aI v3, aI v2], [], h)) (fun r1 h1 =>
    cond (decide ((wr r1) = 0))
    (X (64, 4, [aR 80, aI (jor v1 0), aI (v2 + 1), aI v3, aI v4, w5, w6], [], h1))
    (X (64, 4, [aR 80, aI (jor v1 (jshl 1 v2)), aI (v2 + 1), aI v3, aI v4, w5, w6], [], h1))))
  (X (64, 23, [aR 80, aI v1, aI v2, aI v3, aI v4, aI 0, w6], [], h)) := (ev_eq [4, 14, 23] 300 _).symm
set_option maxRecDepth 20000 in
theorem e64_23 (v1 v2 v3 v4 v5 : Int) (w6 : AV) (h : Hp) : X (64, 23, [aR 80, aI v1, aI v2, aI v3, aI v4, aI v5, w6], [], h) = cond (decide ((wr (h 81 25)) ≤ (wr v5)))
  (X (64, 14, [aR 80, aI v1, aI v2, aI v3, aI (v4 + 1), aI v5, w6], [], h))
  (cond (inb 115 (26 + (2 * v5)))
    (cond (decide ((wr (h 81 (wr (26 + (2 * v5))))) = (wr v2)))
    (cond (inb 115 ((26 + (2 * v5)) + 1))
      (X (64, 23, [aR 80, aI v1, aI v2, aI (jor v3 (jshl 1 (h 81 (wr ((26 + (2 * v5)) + 1))))), aI v4, aI (v5 + 1), aI (h 81 (wr (26 + (2 * v5))))], [], h))
      none)
    (bI (X (42, 0, [aI v3, aI (h 81 (wr (26 + (2 * v5))))], [], h)) (fun r1 h1 =>
      cond (decide ((wr r1) = 0))
      (X (64, 23, [aR 80, aI v1, aI v2, aI (jor v3 0), aI v4, aI (v5 + 1), aI (h 81 (wr (26 + (2 * v5))))], [], h1))
      (cond (inb 115 ((26 + (2 * v5)) + 1))
        (X (64, 23, [aR 80, aI v1, aI v2, aI (jor v3 (jshl 1 (h1 81 (wr ((26 + (2 * v5)) + 1))))), aI v4, aI (v5 + 1), aI (h 81 (wr (26 + (2 * v5))))], [], h1))
        none))))
    none) := (ev_eq [4, 14, 23] 300 _).symm
-- 65: NodBenchModel.readPerson(I)Z
set_option maxRecDepth 20000 in
theorem e65_0 (a1 : Int) (h : Hp) : X (65, 0, [aR 80, aI a1, aN, aN], [], h) = bI (X (58, 0, [aR 80, aI 0, aI 239, aN, aN], [], h)) (fun r1 h1 =>
  cond (inb 32 a1)
  (cond (inb 32 a1)
  (cond (decide (0 ≤ (wr ((up h1 83 (wr a1) r1) 83 (wr a1)))))
  (bI (X (59, 0, [aR 80, aI (-4), aN, aN], [], (up h1 83 (wr a1) r1))) (fun r2 h2 =>
    cond (decide (0 ≤ (wr r2)))
    (bI (X (56, 0, [aR 80], [], h2)) (fun r3 h3 =>
      bI (X (41, 0, [aL (wr (r3 - 48)), aN, aL 0, aN, aL 3, aN], [], h3)) (fun r4 h4 =>
      cond (decide ((wr r4) ≠ 0))
      (cond (inb 32 (a1 + 1))
        (cond (inb 32 (a1 + 2))
        (cond (inb 32 (a1 + 3))
        (cond (decide ((wr r2) = 0))
        (cond (inb 32 (a1 + 3))
          (cond (decide ((wr ((up (up (up (up h4 80 3 ((h4 80 3) + 1)) 83 (wr (a1 + 1)) r2) 83 (wr (a1 + 2)) (r3 - 48)) 83 (wr (a1 + 3)) 0) 83 (wr (a1 + 3)))) < 0))
          (some (some 0, (up (up (up (up h4 80 3 ((h4 80 3) + 1)) 83 (wr (a1 + 1)) r2) 83 (wr (a1 + 2)) (r3 - 48)) 83 (wr (a1 + 3)) 0)))
          (some (some 1, (up (up (up (up h4 80 3 ((h4 80 3) + 1)) 83 (wr (a1 + 1)) r2) 83 (wr (a1 + 2)) (r3 - 48)) 83 (wr (a1 + 3)) 0))))
          none)
        (bI (X (57, 0, [aR 80, aI 58, aN], [], (up (up (up (up h4 80 3 ((h4 80 3) + 1)) 83 (wr (a1 + 1)) r2) 83 (wr (a1 + 2)) (r3 - 48)) 83 (wr (a1 + 3)) 0))) (fun r5 h5 =>
          cond (decide ((wr r5) ≠ 0))
          (bI (X (46, 0, [aI r2], [], h5)) (fun r6 h6 =>
            cond (inb 32 a1)
            (bI (X (47, 0, [aI r2, aI (h6 83 (wr a1))], [], h6)) (fun r7 h7 =>
            bI (X (58, 0, [aR 80, aI r6, aI r7, aN, aN], [], h7)) (fun r8 h8 =>
            cond (inb 32 (a1 + 3))
            (cond (inb 32 (a1 + 3))
            (cond (decide ((wr ((up h8 83 (wr (a1 + 3)) r8) 83 (wr (a1 + 3)))) < 0))
            (some (some 0, (up h8 83 (wr (a1 + 3)) r8)))
            (some (some 1, (up h8 83 (wr (a1 + 3)) r8))))
            none)
            none)))
            none))
          (some (some 0, h5)))))
        none)
        none)
        none)
      (some (some 0, h4)))))
    (some (some 0, h2))))
  (some (some 0, (up h1 83 (wr a1) r1))))
  none)
  none) := (ev_eq [] 300 _).symm
-- 66: NodBenchModel.readPeople()Z
set_option maxRecDepth 20000 in
theorem e66_0 (h : Hp) : X (66, 0, [aR 80, aN, aN], [], h) = X (66, 7, [aR 80, aI 0, aN], [], (up h 80 3 0)) := (ev_eq [7] 300 _).symm
set_option maxRecDepth 20000 in
theorem e66_7 (v1 : Int) (w2 : AV) (h : Hp) : X (66, 7, [aR 80, aI v1, w2], [], h) = cond (decide (8 ≤ (wr v1)))
  (some (some 0, h))
  (bI (X (65, 0, [aR 80, aI (4 * v1), aN, aN], [], h)) (fun r1 h1 =>
    cond (decide ((wr r1) ≠ 0))
    (bI (X (56, 0, [aR 80], [], (up h1 80 4 (v1 + 1)))) (fun r2 h2 =>
      cond (decide (0 ≤ (wr r2)))
      (cond (decide ((wr r2) ≠ 59))
        (some (some 0, h2))
        (cond (decide ((wr v1) ≠ 7))
          (X (66, 7, [aR 80, aI (v1 + 1), aI r2], [], (up h2 80 3 ((h2 80 3) + 1))))
          (some (some 0, h2))))
      (some (some 1, h2))))
    (some (some 0, h1)))) := (ev_eq [7] 300 _).symm
-- 67: NodBenchModel.people()I
set_option maxRecDepth 20000 in
theorem e67_0 (h : Hp) : X (67, 0, [aR 80, aN, aN], [], h) = bI (X (66, 0, [aR 80, aN, aN], [], h)) (fun r1 h1 =>
  cond (decide ((wr r1) ≠ 0))
  (cond (decide ((wr (((up h1 80 2 0) 81 24) + ((up h1 80 2 0) 80 4))) ≤ 12))
    (X (67, 44, [aR 80, aI r1, aI 0], [], (up h1 80 2 0)))
    (some (some (-3), (up h1 80 2 0))))
  (some (some ((-20) - ((up h1 80 2 0) 80 3)), (up h1 80 2 0)))) := (ev_eq [44] 300 _).symm
set_option maxRecDepth 20000 in
theorem e67_44 (v1 v2 : Int) (h : Hp) : X (67, 44, [aR 80, aI v1, aI v2], [], h) = cond (decide ((wr (h 80 4)) ≤ (wr v2)))
  (some (some (h 80 4), h))
  (cond (inb 32 (4 * v2))
    (cond (inb 32 ((4 * v2) + 1))
    (cond (inb 32 ((4 * v2) + 2))
    (cond (inb 32 ((4 * v2) + 3))
    (bV (X (51, 0, [aR 80, aI (h 83 (wr (4 * v2))), aI (h 83 (wr ((4 * v2) + 1))), aI (h 83 (wr ((4 * v2) + 2))), aI (h 83 (wr ((4 * v2) + 3))), aN], [], h)) (fun h1 =>
    X (67, 44, [aR 80, aI v1, aI (v2 + 1)], [], h1)))
    none)
    none)
    none)
    none) := (ev_eq [44] 300 _).symm
-- 68: NodBenchModel.count(I)I
set_option maxRecDepth 20000 in
theorem e68_0 (a1 : Int) (h : Hp) : X (68, 0, [aR 80, aI a1], [], h) = cond (decide ((wr a1) ≠ 0))
  (cond (decide ((wr a1) ≠ 1))
    (cond (decide ((wr a1) ≠ 2))
      (some (some (-1), h))
      (some (some (h 81 42), h)))
    (some (some (h 81 25), h)))
  (some (some (h 81 24), h)) := (ev_eq [] 300 _).symm
-- 69: NodBenchModel.asTold()V
set_option maxRecDepth 20000 in
theorem e69_0 (h : Hp) : X (69, 0, [aR 80], [], h) = some (none, (up (up (up (up (up h 80 6 (h 81 7)) 80 7 ((up h 80 6 (h 81 7)) 81 5)) 80 8 0) 80 9 240) 80 10 (-4))) := (ev_eq [] 300 _).symm
-- 70: NodBenchModel.kindOf(I)I
set_option maxRecDepth 20000 in
theorem e70_0 (a1 : Int) (h : Hp) : X (70, 0, [aR 80, aI a1, aN], [], h) = bI (X (50, 0, [aR 80, aI a1, aI 1], [], h)) (fun r1 h1 =>
  cond (decide ((wr (h1 80 8)) = 0))
  (some (some r1, h1))
  (cond (decide ((wr r1) ≠ 1))
    (some (some r1, h1))
    (some (some 0, h1)))) := (ev_eq [] 300 _).symm
-- 71: NodBenchModel.sizeOf(I)I
set_option maxRecDepth 20000 in
theorem e71_0 (a1 : Int) (h : Hp) : X (71, 0, [aR 80, aI a1], [], h) = bI (X (50, 0, [aR 80, aI a1, aI 1], [], h)) (fun r1 h1 =>
  cond (decide ((wr r1) ≠ 2))
  (some (some 1, h1))
  (bI (X (50, 0, [aR 80, aI a1, aI 3], [], h1)) (fun r2 h2 =>
    some (some r2, h2)))) := (ev_eq [] 300 _).symm
-- 72: NodBenchModel.isOut(II)Z
set_option maxRecDepth 20000 in
theorem e72_0 (a1 a2 : Int) (h : Hp) : X (72, 0, [aR 80, aI a1, aI a2, aN], [], h) = bI (X (50, 0, [aR 80, aI a1, aI 0], [], h)) (fun r1 h1 =>
  bI (X (70, 0, [aR 80, aI a1, aN], [], h1)) (fun r2 h2 =>
  cond (decide ((wr r2) ≠ 3))
  (some (some 0, h2))
  (bI (X (50, 0, [aR 80, aI a1, aI 3], [], h2)) (fun r3 h3 =>
    bI (X (41, 0, [aL (wr a2), aN, aL (wr (r1 + 5)), aN, aL (wr (((r1 + 5) + r3) - 1)), aN], [], h3)) (fun r4 h4 =>
    cond (decide ((wr r4) = 0))
    (some (some 0, h4))
    (some (some 1, h4))))))) := (ev_eq [] 300 _).symm
-- 73: NodBenchModel.placeOf(II)I
set_option maxRecDepth 20000 in
theorem e73_0 (a1 a2 : Int) (h : Hp) : X (73, 0, [aR 80, aI a1, aI a2, aN, aN], [], h) = bI (X (50, 0, [aR 80, aI a1, aI 0], [], h)) (fun r1 h1 =>
  bI (X (50, 0, [aR 80, aI a1, aI 3], [], h1)) (fun r2 h2 =>
  bI (X (70, 0, [aR 80, aI a1, aN], [], h2)) (fun r3 h3 =>
  cond (decide ((wr r3) ≠ 4))
  (cond (decide ((wr r3) ≠ 3))
    (bI (X (50, 0, [aR 80, aI a1, aI 0], [], h3)) (fun r4 h4 =>
      some (some r4, h4)))
    (cond (decide ((wr (h3 81 6)) ≠ 0))
      (bI (X (50, 0, [aR 80, aI a1, aI 0], [], h3)) (fun r5 h5 =>
        some (some r5, h5)))
      (cond (decide ((wr a2) < (wr ((r1 + 5) + r2))))
        (bI (X (50, 0, [aR 80, aI a1, aI 0], [], h3)) (fun r6 h6 =>
          some (some r6, h6)))
        (some (some ((r1 + 5) + r2), h3)))))
  (bI (X (50, 0, [aR 80, aI a1, aI 3], [], h3)) (fun r7 h7 =>
    some (some r7, h7)))))) := (ev_eq [] 300 _).symm
-- 74: NodBenchModel.lengthOf(II)I
set_option maxRecDepth 20000 in
theorem e74_0 (a1 a2 : Int) (h : Hp) : X (74, 0, [aR 80, aI a1, aI a2], [], h) = bI (X (50, 0, [aR 80, aI a1, aI 2], [], h)) (fun r1 h1 =>
  cond (inb 115 ((8 + (4 * a2)) + r1))
  (bI (X (71, 0, [aR 80, aI a1], [], h1)) (fun r2 h2 =>
  bI (X (70, 0, [aR 80, aI a1, aN], [], h2)) (fun r3 h3 =>
  cond (decide ((wr r3) ≠ 1))
  (some (some (((h1 81 (wr ((8 + (4 * a2)) + r1))) * r2) + 0), h3))
  (some (some (((h1 81 (wr ((8 + (4 * a2)) + r1))) * r2) + (h3 81 4)), h3)))))
  none) := (ev_eq [] 300 _).symm
-- 75: NodBenchModel.isFirst(III)Z
set_option maxRecDepth 20000 in
theorem e75_0 (a1 a2 a3 : Int) (h : Hp) : X (75, 0, [aR 80, aI a1, aI a2, aI a3, aN, aN], [], h) = bI (X (73, 0, [aR 80, aI a1, aI a3, aN, aN], [], h)) (fun r1 h1 =>
  bI (X (73, 0, [aR 80, aI a2, aI a3, aN, aN], [], h1)) (fun r2 h2 =>
  cond (decide ((wr r1) < (wr r2)))
  (some (some 1, h2))
  (cond (decide ((wr r1) ≠ (wr r2)))
    (some (some 0, h2))
    (cond (decide ((wr a2) ≤ (wr a1)))
      (some (some 0, h2))
      (some (some 1, h2)))))) := (ev_eq [] 300 _).symm
-- 76: NodBenchModel.goesBefore(IIII)Z
set_option maxRecDepth 20000 in
theorem e76_0 (a1 a2 a3 a4 : Int) (h : Hp) : X (76, 0, [aR 80, aI a1, aI a2, aI a3, aI a4, aN, aN], [], h) = cond (decide ((wr (h 80 6)) ≠ 1))
  (bI (X (74, 0, [aR 80, aI a1, aI a3], [], h)) (fun r1 h1 =>
    bI (X (74, 0, [aR 80, aI a2, aI a3], [], h1)) (fun r2 h2 =>
    cond (decide ((wr (h2 80 6)) ≠ 2))
    (bI (X (75, 0, [aR 80, aI a1, aI a2, aI a4, aN, aN], [], h2)) (fun r3 h3 =>
      cond (bz r3) (some (some r3, h3)) none))
    (cond (decide ((wr r1) = (wr r2)))
      (bI (X (75, 0, [aR 80, aI a1, aI a2, aI a4, aN, aN], [], h2)) (fun r4 h4 =>
        cond (bz r4) (some (some r4, h4)) none))
      (cond (decide ((wr r2) ≤ (wr r1)))
        (some (some 0, h2))
        (some (some 1, h2)))))))
  (bI (X (70, 0, [aR 80, aI a1, aN], [], h)) (fun r5 h5 =>
    bI (X (70, 0, [aR 80, aI a2, aN], [], h5)) (fun r6 h6 =>
    bI (X (62, 0, [aR 80, aI r5, aI r6, aN, aN], [], h6)) (fun r7 h7 =>
    bI (X (70, 0, [aR 80, aI a2, aN], [], h7)) (fun r8 h8 =>
    bI (X (70, 0, [aR 80, aI a1, aN], [], h8)) (fun r9 h9 =>
    bI (X (62, 0, [aR 80, aI r8, aI r9, aN, aN], [], h9)) (fun r10 h10 =>
    cond (decide ((wr r7) = (wr r10)))
    (bI (X (75, 0, [aR 80, aI a1, aI a2, aI a4, aN, aN], [], h10)) (fun r11 h11 =>
      cond (bz r11) (some (some r11, h11)) none))
    (cond (bz r7) (some (some r7, h10)) none)))))))) := (ev_eq [] 300 _).symm
-- 77: NodBenchModel.waitsFor(III)Z
set_option maxRecDepth 20000 in
theorem e77_0 (a1 a2 a3 : Int) (h : Hp) : X (77, 0, [aR 80, aI a1, aI a2, aI a3], [], h) = cond (inb 12 a1)
  (cond (decide ((wr (h 84 (wr a1))) ≠ 4))
  (some (some 0, h))
  (bI (X (72, 0, [aR 80, aI a1, aI a3, aN], [], h)) (fun r1 h1 =>
    cond (decide ((wr r1) ≠ 0))
    (some (some 0, h1))
    (bI (X (70, 0, [aR 80, aI a1, aN], [], h1)) (fun r2 h2 =>
      cond (decide ((wr r2) ≠ 1))
      (some (some 1, h2))
      (bI (X (50, 0, [aR 80, aI a1, aI 3], [], h2)) (fun r3 h3 =>
        cond (decide ((wr r3) ≠ (wr a2)))
        (some (some 0, h3))
        (some (some 1, h3)))))))))
  none := (ev_eq [] 300 _).symm
-- 78: NodBenchModel.nextFor(II)I
set_option maxRecDepth 20000 in
theorem e78_0 (a1 a2 : Int) (h : Hp) : X (78, 0, [aR 80, aI a1, aI a2, aN, aN, aN, aN], [], h) = X (78, 6, [aR 80, aI a1, aI a2, aI (-4), aI 0, aN, aN], [], h) := (ev_eq [6, 35] 300 _).symm
set_option maxRecDepth 20000 in
theorem e78_6 (v1 v2 v3 v4 : Int) (w5 w6 : AV) (h : Hp) : X (78, 6, [aR 80, aI v1, aI v2, aI v3, aI v4, w5, w6], [], h) = cond (decide ((wr (h 81 24)) ≤ (wr v4)))
  (cond (decide ((wr v3) < 0))
    (some (some v3, (up h 80 18 ((h 80 18) + 0))))
    (some (some v3, (up h 80 18 ((h 80 18) + 1)))))
  (bI (X (77, 0, [aR 80, aI v4, aI v1, aI v2], [], h)) (fun r1 h1 =>
    cond (decide ((wr r1) = 0))
    (X (78, 6, [aR 80, aI v1, aI v2, aI v3, aI (v4 + 1), w5, w6], [], h1))
    (X (78, 35, [aR 80, aI v1, aI v2, aI v3, aI v4, aI 1, aI 0], [], h1)))) := (ev_eq [6, 35] 300 _).symm
set_option maxRecDepth 20000 in
theorem e78_35 (v1 v2 v3 v4 v5 v6 : Int) (h : Hp) : X (78, 35, [aR 80, aI v1, aI v2, aI v3, aI v4, aI v5, aI v6], [], h) = cond (decide ((wr (h 81 24)) ≤ (wr v6)))
  (cond (decide ((wr v5) = 0))
    (cond (decide ((wr v3) < 0))
      (X (78, 6, [aR 80, aI v1, aI v2, aI v4, aI (v4 + 1), aI v5, aI v6], [], h))
      (bI (X (75, 0, [aR 80, aI v4, aI v3, aI v2, aN, aN], [], h)) (fun r1 h1 =>
        cond (decide ((wr r1) = 0))
        (X (78, 6, [aR 80, aI v1, aI v2, aI v3, aI (v4 + 1), aI v5, aI v6], [], h1))
        (X (78, 6, [aR 80, aI v1, aI v2, aI v4, aI (v4 + 1), aI v5, aI v6], [], h1)))))
    (some (some v4, h)))
  (cond (decide ((wr v5) = 0))
    (X (78, 35, [aR 80, aI v1, aI v2, aI v3, aI v4, aI 0, aI (v6 + 1)], [], h))
    (cond (decide ((wr v6) = (wr v4)))
      (X (78, 35, [aR 80, aI v1, aI v2, aI v3, aI v4, aI 1, aI (v6 + 1)], [], h))
      (bI (X (77, 0, [aR 80, aI v6, aI v1, aI v2], [], h)) (fun r2 h2 =>
        cond (decide ((wr r2) = 0))
        (X (78, 35, [aR 80, aI v1, aI v2, aI v3, aI v4, aI 1, aI (v6 + 1)], [], h2))
        (bI (X (76, 0, [aR 80, aI v6, aI v4, aI v1, aI v2, aN, aN], [], h2)) (fun r3 h3 =>
          cond (decide ((wr r3) ≠ 0))
          (X (78, 35, [aR 80, aI v1, aI v2, aI v3, aI v4, aI 0, aI (v6 + 1)], [], h3))
          (X (78, 35, [aR 80, aI v1, aI v2, aI v3, aI v4, aI 1, aI (v6 + 1)], [], h3)))))))) := (ev_eq [6, 35] 300 _).symm
-- 79: NodBenchModel.waiting(ZI)I
set_option maxRecDepth 20000 in
theorem e79_0 (a1 a2 : Int) (h : Hp) : X (79, 0, [aR 80, aI a1, aI a2, aN, aN], [], h) = X (79, 5, [aR 80, aI a1, aI a2, aI 0, aI 0], [], h) := (ev_eq [5] 300 _).symm
set_option maxRecDepth 20000 in
theorem e79_5 (v1 v2 v3 v4 : Int) (h : Hp) : X (79, 5, [aR 80, aI v1, aI v2, aI v3, aI v4], [], h) = cond (decide ((wr (h 81 24)) ≤ (wr v4)))
  (some (some v3, h))
  (cond (inb 12 v4)
    (cond (decide ((wr (h 84 (wr v4))) ≠ 4))
    (X (79, 5, [aR 80, aI v1, aI v2, aI (v3 + 0), aI (v4 + 1)], [], h))
    (bI (X (50, 0, [aR 80, aI v4, aI 0], [], h)) (fun r1 h1 =>
      cond (decide ((wr v2) < (wr r1)))
      (X (79, 5, [aR 80, aI v1, aI v2, aI (v3 + 0), aI (v4 + 1)], [], h1))
      (cond (decide ((wr v1) = 0))
        (X (79, 5, [aR 80, aI v1, aI v2, aI (v3 + 1), aI (v4 + 1)], [], h1))
        (bI (X (71, 0, [aR 80, aI v4], [], h1)) (fun r2 h2 =>
          X (79, 5, [aR 80, aI v1, aI v2, aI (v3 + r2), aI (v4 + 1)], [], h2)))))))
    none) := (ev_eq [5] 300 _).symm
-- 80: NodBenchModel.come(I)V
set_option maxRecDepth 20000 in
theorem e80_0 (a1 : Int) (h : Hp) : X (80, 0, [aR 80, aI a1, aN, aN], [], h) = X (80, 2, [aR 80, aI a1, aI 0, aN], [], h) := (ev_eq [2] 300 _).symm
set_option maxRecDepth 20000 in
theorem e80_2 (v1 v2 : Int) (w3 : AV) (h : Hp) : X (80, 2, [aR 80, aI v1, aI v2, w3], [], h) = cond (decide ((wr (h 81 24)) ≤ (wr v2)))
  (some (none, h))
  (bI (X (50, 0, [aR 80, aI v2, aI 0], [], h)) (fun r1 h1 =>
    cond (decide ((wr r1) ≠ (wr v1)))
    (X (80, 2, [aR 80, aI v1, aI (v2 + 1), w3], [], h1))
    (cond (decide ((wr (h1 80 9)) ≤ (wr v1)))
      (X (80, 2, [aR 80, aI v1, aI (v2 + 1), w3], [], h1))
      (bI (X (79, 0, [aR 80, aI 1, aI v1, aN, aN], [], h1)) (fun r2 h2 =>
        bI (X (71, 0, [aR 80, aI v2], [], h2)) (fun r3 h3 =>
        cond (decide ((wr (h3 81 0)) < (wr (r2 + r3))))
        (cond (inb 12 v2)
          (X (80, 2, [aR 80, aI v1, aI (v2 + 1), aI 1], [], (up h3 84 (wr v2) 1)))
          none)
        (bI (X (79, 0, [aR 80, aI 0, aI v1, aN, aN], [], h3)) (fun r4 h4 =>
          cond (decide ((wr (jdiv ((h3 81 1) * r4) 2)) ≤ (wr (h4 81 2))))
          (cond (inb 12 v2)
            (X (80, 2, [aR 80, aI v1, aI (v2 + 1), aI 0], [], (up h4 84 (wr v2) 4)))
            none)
          (cond (inb 12 v2)
            (X (80, 2, [aR 80, aI v1, aI (v2 + 1), aI 1], [], (up h4 84 (wr v2) 1)))
            none))))))))) := (ev_eq [2] 300 _).symm
-- 81: NodBenchModel.tire(I)V
set_option maxRecDepth 20000 in
theorem e81_0 (a1 : Int) (h : Hp) : X (81, 0, [aR 80, aI a1, aN], [], h) = X (81, 2, [aR 80, aI a1, aI 0], [], h) := (ev_eq [2] 300 _).symm
set_option maxRecDepth 20000 in
theorem e81_2 (v1 v2 : Int) (h : Hp) : X (81, 2, [aR 80, aI v1, aI v2], [], h) = cond (decide ((wr (h 81 24)) ≤ (wr v2)))
  (some (none, h))
  (cond (inb 12 v2)
    (cond (decide ((wr (h 84 (wr v2))) ≠ 4))
    (X (81, 2, [aR 80, aI v1, aI (v2 + 1)], [], h))
    (bI (X (70, 0, [aR 80, aI v2, aN], [], h)) (fun r1 h1 =>
      cond (decide ((wr r1) ≠ 5))
      (X (81, 2, [aR 80, aI v1, aI (v2 + 1)], [], h1))
      (bI (X (50, 0, [aR 80, aI v2, aI 0], [], h1)) (fun r2 h2 =>
        bI (X (50, 0, [aR 80, aI v2, aI 3], [], h2)) (fun r3 h3 =>
        cond (decide ((wr (v1 - r2)) < (wr r3)))
        (X (81, 2, [aR 80, aI v1, aI (v2 + 1)], [], h3))
        (cond (inb 12 v2)
          (cond (inb 12 v2)
          (X (81, 2, [aR 80, aI v1, aI (v2 + 1)], [], (up (up h3 84 (wr v2) 2) 89 (wr v2) v1)))
          none)
          none)))))))
    none) := (ev_eq [2] 300 _).symm
-- 82: NodBenchModel.begin(I)V
set_option maxRecDepth 20000 in
theorem e82_0 (a1 : Int) (h : Hp) : X (82, 0, [aR 80, aI a1, aN, aN, aN], [], h) = X (82, 2, [aR 80, aI a1, aI 0, aN, aN], [], h) := (ev_eq [2] 300 _).symm
set_option maxRecDepth 20000 in
theorem e82_2 (v1 v2 : Int) (w3 w4 : AV) (h : Hp) : X (82, 2, [aR 80, aI v1, aI v2, w3, w4], [], h) = cond (decide (3 ≤ (wr v2)))
  (some (none, h))
  (cond (decide ((wr v2) = (wr (h 80 10))))
    (X (82, 2, [aR 80, aI v1, aI (v2 + 1), aI 0, aI (-4)], [], h))
    (cond (inb 3 v2)
      (cond (decide ((wr v1) < (wr (h 90 (wr v2)))))
      (X (82, 2, [aR 80, aI v1, aI (v2 + 1), aI 0, aI (-4)], [], h))
      (cond (decide ((wr v2) < 2))
        (bI (X (78, 0, [aR 80, aI v2, aI v1, aN, aN, aN, aN], [], h)) (fun r1 h1 =>
          cond (decide ((wr r1) < 0))
          (X (82, 2, [aR 80, aI v1, aI (v2 + 1), aI 1, aI r1], [], h1))
          (cond (inb 12 r1)
            (cond (inb 12 r1)
            (cond (inb 12 r1)
            (bI (X (74, 0, [aR 80, aI r1, aI v2], [], (up (up (up h1 84 (wr r1) 3) 86 (wr r1) v1) 87 (wr r1) v2))) (fun r2 h2 =>
            cond (inb 12 r1)
            (cond (inb 12 r1)
            (cond (inb 3 v2)
            (X (82, 2, [aR 80, aI v1, aI (v2 + 1), aI 1, aI r1], [], (up (up h2 88 (wr r1) r2) 90 (wr v2) ((v1 + ((up h2 88 (wr r1) r2) 88 (wr r1))) + ((up h2 88 (wr r1) r2) 81 3)))))
            none)
            none)
            none))
            none)
            none)
            none)))
        (bI (X (79, 0, [aR 80, aI 0, aI v1, aN, aN], [], h)) (fun r3 h3 =>
          cond (decide ((wr r3) < (wr (h3 80 7))))
          (X (82, 2, [aR 80, aI v1, aI (v2 + 1), aI 0, aI (-4)], [], h3))
          (bI (X (78, 0, [aR 80, aI v2, aI v1, aN, aN, aN, aN], [], h3)) (fun r4 h4 =>
            cond (decide ((wr r4) < 0))
            (X (82, 2, [aR 80, aI v1, aI (v2 + 1), aI 1, aI r4], [], h4))
            (cond (inb 12 r4)
              (cond (inb 12 r4)
              (cond (inb 12 r4)
              (bI (X (74, 0, [aR 80, aI r4, aI v2], [], (up (up (up h4 84 (wr r4) 3) 86 (wr r4) v1) 87 (wr r4) v2))) (fun r5 h5 =>
              cond (inb 12 r4)
              (cond (inb 12 r4)
              (cond (inb 3 v2)
              (X (82, 2, [aR 80, aI v1, aI (v2 + 1), aI 1, aI r4], [], (up (up h5 88 (wr r4) r5) 90 (wr v2) ((v1 + ((up h5 88 (wr r4) r5) 88 (wr r4))) + ((up h5 88 (wr r4) r5) 81 3)))))
              none)
              none)
              none))
              none)
              none)
              none)))))))
      none)) := (ev_eq [2] 300 _).symm
-- 83: NodBenchModel.goTo(I)V
set_option maxRecDepth 20000 in
theorem e83_0 (a1 : Int) (h : Hp) : X (83, 0, [aR 80, aI a1, aN, aN], [], h) = X (83, 7, [aR 80, aI a1, aI 0, aN], [], (up h 80 18 0)) := (ev_eq [7, 27, 64, 92] 300 _).symm
set_option maxRecDepth 20000 in
theorem e83_7 (v1 v2 : Int) (h : Hp) : X (83, 7, [aR 80, aI v1, aI v2, aN], [], h) = cond (decide (3 ≤ (wr v2)))
  (X (83, 27, [aR 80, aI v1, aI 0, aN], [], h))
  (cond (inb 3 v2)
    (X (83, 7, [aR 80, aI v1, aI (v2 + 1), aN], [], (up h 90 (wr v2) 0)))
    none) := (ev_eq [7, 27, 64, 92] 300 _).symm
set_option maxRecDepth 20000 in
theorem e83_27 (v1 v2 : Int) (h : Hp) : X (83, 27, [aR 80, aI v1, aI v2, aN], [], h) = cond (decide (12 ≤ (wr v2)))
  (X (83, 64, [aR 80, aI v1, aI 0, aN], [], h))
  (cond (inb 12 v2)
    (cond (inb 12 v2)
    (cond (inb 12 v2)
    (X (83, 27, [aR 80, aI v1, aI (v2 + 1), aN], [], (up (up (up h 84 (wr v2) 0) 86 (wr v2) (-4)) 87 (wr v2) (-4))))
    none)
    none)
    none) := (ev_eq [7, 27, 64, 92] 300 _).symm
set_option maxRecDepth 20000 in
theorem e83_64 (v1 v2 : Int) (h : Hp) : X (83, 64, [aR 80, aI v1, aI v2, aN], [], h) = cond (decide ((wr v1) < (wr v2)))
  (X (83, 92, [aR 80, aI v1, aI 0, aN], [], h))
  (bV (X (80, 0, [aR 80, aI v2, aN, aN], [], h)) (fun h1 =>
    bV (X (81, 0, [aR 80, aI v2, aN], [], h1)) (fun h2 =>
    bV (X (82, 0, [aR 80, aI v2, aN, aN, aN], [], h2)) (fun h3 =>
    X (83, 64, [aR 80, aI v1, aI (v2 + 1), aN], [], h3))))) := (ev_eq [7, 27, 64, 92] 300 _).symm
set_option maxRecDepth 20000 in
theorem e83_92 (v1 v2 : Int) (w3 : AV) (h : Hp) : X (83, 92, [aR 80, aI v1, aI v2, w3], [], h) = cond (decide ((wr (h 81 24)) ≤ (wr v2)))
  (some (none, h))
  (cond (inb 12 v2)
    (cond (decide ((wr (h 84 (wr v2))) ≠ 3))
    (cond (inb 12 v2)
      (cond (decide ((wr (h 84 (wr v2))) ≠ 2))
      (cond (inb 12 v2)
        (cond (decide ((wr (h 84 (wr v2))) < 2))
        (cond (inb 12 v2)
          (X (83, 92, [aR 80, aI v1, aI (v2 + 1), aI 240], [], (up h 85 (wr v2) 0)))
          none)
        (bI (X (50, 0, [aR 80, aI v2, aI 0], [], h)) (fun r1 h1 =>
          cond (inb 12 v2)
          (X (83, 92, [aR 80, aI v1, aI (v2 + 1), aI 240], [], (up h1 85 (wr v2) (240 - r1))))
          none)))
        none)
      (cond (inb 12 v2)
        (cond (inb 12 v2)
        (cond (decide ((wr (h 84 (wr v2))) < 2))
        (cond (inb 12 v2)
          (X (83, 92, [aR 80, aI v1, aI (v2 + 1), aI (h 89 (wr v2))], [], (up h 85 (wr v2) 0)))
          none)
        (bI (X (50, 0, [aR 80, aI v2, aI 0], [], h)) (fun r2 h2 =>
          cond (inb 12 v2)
          (X (83, 92, [aR 80, aI v1, aI (v2 + 1), aI (h 89 (wr v2))], [], (up h2 85 (wr v2) ((h 89 (wr v2)) - r2))))
          none)))
        none)
        none))
      none)
    (cond (inb 12 v2)
      (cond (inb 12 v2)
      (cond (decide ((wr (h 84 (wr v2))) < 2))
      (cond (inb 12 v2)
        (X (83, 92, [aR 80, aI v1, aI (v2 + 1), aI (h 86 (wr v2))], [], (up h 85 (wr v2) 0)))
        none)
      (bI (X (50, 0, [aR 80, aI v2, aI 0], [], h)) (fun r3 h3 =>
        cond (inb 12 v2)
        (X (83, 92, [aR 80, aI v1, aI (v2 + 1), aI (h 86 (wr v2))], [], (up h3 85 (wr v2) ((h 86 (wr v2)) - r3))))
        none)))
      none)
      none))
    none) := (ev_eq [7, 27, 64, 92] 300 _).symm
-- 84: NodBenchModel.allWaits()I
set_option maxRecDepth 20000 in
theorem e84_0 (h : Hp) : X (84, 0, [aR 80, aN, aN], [], h) = X (84, 4, [aR 80, aI 0, aI 0], [], h) := (ev_eq [4] 300 _).symm
set_option maxRecDepth 20000 in
theorem e84_4 (v1 v2 : Int) (h : Hp) : X (84, 4, [aR 80, aI v1, aI v2], [], h) = cond (decide ((wr (h 81 24)) ≤ (wr v2)))
  (some (some v1, h))
  (cond (inb 12 v2)
    (X (84, 4, [aR 80, aI (v1 + (h 85 (wr v2))), aI (v2 + 1)], [], h))
    none) := (ev_eq [4] 300 _).symm
-- 85: NodBenchModel.mostWait()I
set_option maxRecDepth 20000 in
theorem e85_0 (h : Hp) : X (85, 0, [aR 80, aN, aN], [], h) = X (85, 4, [aR 80, aI 0, aI 0], [], h) := (ev_eq [4] 300 _).symm
set_option maxRecDepth 20000 in
theorem e85_4 (v1 v2 : Int) (h : Hp) : X (85, 4, [aR 80, aI v1, aI v2], [], h) = cond (decide ((wr (h 81 24)) ≤ (wr v2)))
  (some (some v1, h))
  (cond (inb 12 v2)
    (cond (decide ((wr (h 85 (wr v2))) ≤ (wr v1)))
    (X (85, 4, [aR 80, aI v1, aI (v2 + 1)], [], h))
    (cond (inb 12 v2)
      (X (85, 4, [aR 80, aI (h 85 (wr v2)), aI (v2 + 1)], [], h))
      none))
    none) := (ev_eq [4] 300 _).symm
-- 86: NodBenchModel.coin()I
set_option maxRecDepth 20000 in
theorem e86_0 (h : Hp) : X (86, 0, [aR 80, aN, aN], [], h) = X (86, 4, [aR 80, aI 0, aI 0], [], h) := (ev_eq [4] 300 _).symm
set_option maxRecDepth 20000 in
theorem e86_4 (v1 v2 : Int) (h : Hp) : X (86, 4, [aR 80, aI v1, aI v2], [], h) = cond (decide ((wr (h 81 24)) ≤ (wr v2)))
  (some (some v1, h))
  (cond (inb 12 v2)
    (cond (decide ((wr (h 84 (wr v2))) ≠ 3))
    (X (86, 4, [aR 80, aI (v1 + 0), aI (v2 + 1)], [], h))
    (bI (X (50, 0, [aR 80, aI v2, aI 2], [], h)) (fun r1 h1 =>
      cond (inb 115 (20 + r1))
      (bI (X (71, 0, [aR 80, aI v2], [], h1)) (fun r2 h2 =>
      X (86, 4, [aR 80, aI (v1 + ((h1 81 (wr (20 + r1))) * r2)), aI (v2 + 1)], [], h2)))
      none)))
    none) := (ev_eq [4] 300 _).symm
-- 87: NodBenchModel.fates(I)I
set_option maxRecDepth 20000 in
theorem e87_0 (a1 : Int) (h : Hp) : X (87, 0, [aR 80, aI a1, aN, aN], [], h) = X (87, 4, [aR 80, aI a1, aI 0, aI 0], [], h) := (ev_eq [4] 300 _).symm
set_option maxRecDepth 20000 in
theorem e87_4 (v1 v2 v3 : Int) (h : Hp) : X (87, 4, [aR 80, aI v1, aI v2, aI v3], [], h) = cond (decide ((wr (h 81 24)) ≤ (wr v3)))
  (some (some v2, h))
  (cond (inb 12 v3)
    (cond (decide ((wr (h 84 (wr v3))) ≠ (wr v1)))
    (X (87, 4, [aR 80, aI v1, aI (v2 + 0), aI (v3 + 1)], [], h))
    (X (87, 4, [aR 80, aI v1, aI (v2 + 1), aI (v3 + 1)], [], h)))
    none) := (ev_eq [4] 300 _).symm
-- 88: NodBenchModel.minutesOfThird()I
set_option maxRecDepth 20000 in
theorem e88_0 (h : Hp) : X (88, 0, [aR 80, aN, aN], [], h) = X (88, 4, [aR 80, aI 0, aI 0], [], h) := (ev_eq [4] 300 _).symm
set_option maxRecDepth 20000 in
theorem e88_4 (v1 v2 : Int) (h : Hp) : X (88, 4, [aR 80, aI v1, aI v2], [], h) = cond (decide ((wr (h 81 24)) ≤ (wr v2)))
  (some (some v1, h))
  (cond (inb 12 v2)
    (cond (decide ((wr (h 87 (wr v2))) ≠ 2))
    (X (88, 4, [aR 80, aI v1, aI (v2 + 1)], [], h))
    (cond (inb 12 v2)
      (cond (inb 12 v2)
      (cond (decide ((wr ((h 86 (wr v2)) + (h 88 (wr v2)))) ≤ 240))
      (cond (inb 12 v2)
        (X (88, 4, [aR 80, aI (v1 + (h 88 (wr v2))), aI (v2 + 1)], [], h))
        none)
      (cond (inb 12 v2)
        (X (88, 4, [aR 80, aI (v1 + (240 - (h 86 (wr v2)))), aI (v2 + 1)], [], h))
        none))
      none)
      none))
    none) := (ev_eq [4] 300 _).symm
-- 89: NodBenchModel.fate(II)I
set_option maxRecDepth 20000 in
theorem e89_0 (a1 a2 : Int) (h : Hp) : X (89, 0, [aR 80, aI a1, aI a2], [], h) = bI (X (49, 0, [aR 80, aI a1], [], h)) (fun r1 h1 =>
  cond (decide ((wr r1) = 0))
  (some (some (-1), h1))
  (bI (X (41, 0, [aL (wr a2), aN, aL 0, aN, aL 3, aN], [], h1)) (fun r2 h2 =>
    cond (decide ((wr r2) ≠ 0))
    (bV (X (69, 0, [aR 80], [], h2)) (fun h3 =>
      bV (X (83, 0, [aR 80, aI 239, aN, aN], [], h3)) (fun h4 =>
      cond (decide ((wr a2) ≠ 0))
      (cond (decide ((wr a2) ≠ 1))
        (cond (decide ((wr a2) ≠ 2))
          (cond (inb 12 a1)
            (some (some (h4 87 (wr a1)), h4))
            none)
          (cond (inb 12 a1)
            (some (some (h4 86 (wr a1)), h4))
            none))
        (cond (inb 12 a1)
          (some (some (h4 85 (wr a1)), h4))
          none))
      (cond (inb 12 a1)
        (some (some (h4 84 (wr a1)), h4))
        none))))
    (some (some (-1), h2))))) := (ev_eq [] 300 _).symm
-- 90: NodBenchModel.at(II)I
set_option maxRecDepth 20000 in
theorem e90_0 (a1 a2 : Int) (h : Hp) : X (90, 0, [aR 80, aI a1, aI a2, aN, aN, aN], [], h) = bI (X (41, 0, [aL (wr a1), aN, aL 0, aN, aL 239, aN], [], h)) (fun r1 h1 =>
  cond (decide ((wr r1) = 0))
  (some (some (-1), h1))
  (bI (X (41, 0, [aL (wr a2), aN, aL 0, aN, aL 4, aN], [], h1)) (fun r2 h2 =>
    cond (decide ((wr r2) ≠ 0))
    (bV (X (69, 0, [aR 80], [], h2)) (fun h3 =>
      bV (X (83, 0, [aR 80, aI a1, aN, aN], [], h3)) (fun h4 =>
      X (90, 44, [aR 80, aI a1, aI a2, aI 0, aI (-4), aI 0], [], h4))))
    (some (some (-1), h2))))) := (ev_eq [44] 300 _).symm
set_option maxRecDepth 20000 in
theorem e90_44 (v1 v2 v3 v4 v5 : Int) (h : Hp) : X (90, 44, [aR 80, aI v1, aI v2, aI v3, aI v4, aI v5], [], h) = cond (decide ((wr (h 81 24)) ≤ (wr v5)))
  (cond (decide ((wr v2) ≠ 0))
    (cond (decide ((wr v2) ≠ 1))
      (some (some v4, h))
      (some (some v3, h)))
    (bI (X (79, 0, [aR 80, aI 0, aI v1, aN, aN], [], h)) (fun r1 h1 =>
      some (some r1, h1))))
  (cond (decide ((wr v2) ≠ 1))
    (cond (inb 12 v5)
      (cond (decide ((wr (h 84 (wr v5))) ≠ 3))
      (X (90, 44, [aR 80, aI v1, aI v2, aI (v3 + 0), aI v4, aI (v5 + 1)], [], h))
      (cond (inb 12 v5)
        (cond (decide ((wr (h 87 (wr v5))) ≠ (wr (v2 - 2))))
        (X (90, 44, [aR 80, aI v1, aI v2, aI (v3 + 0), aI v4, aI (v5 + 1)], [], h))
        (cond (inb 12 v5)
          (cond (inb 12 v5)
          (cond (decide ((wr ((h 86 (wr v5)) + (h 88 (wr v5)))) ≤ (wr v1)))
          (X (90, 44, [aR 80, aI v1, aI v2, aI (v3 + 0), aI v4, aI (v5 + 1)], [], h))
          (X (90, 44, [aR 80, aI v1, aI v2, aI (v3 + 0), aI v5, aI (v5 + 1)], [], h)))
          none)
          none))
        none))
      none)
    (cond (inb 12 v5)
      (cond (decide ((wr (h 84 (wr v5))) ≠ 4))
      (cond (inb 12 v5)
        (cond (decide ((wr (h 84 (wr v5))) ≠ 3))
        (X (90, 44, [aR 80, aI v1, aI v2, aI (v3 + 0), aI v4, aI (v5 + 1)], [], h))
        (cond (inb 12 v5)
          (cond (decide ((wr (h 87 (wr v5))) ≠ (wr (v2 - 2))))
          (X (90, 44, [aR 80, aI v1, aI v2, aI (v3 + 0), aI v4, aI (v5 + 1)], [], h))
          (cond (inb 12 v5)
            (cond (inb 12 v5)
            (cond (decide ((wr ((h 86 (wr v5)) + (h 88 (wr v5)))) ≤ (wr v1)))
            (X (90, 44, [aR 80, aI v1, aI v2, aI (v3 + 0), aI v4, aI (v5 + 1)], [], h))
            (X (90, 44, [aR 80, aI v1, aI v2, aI (v3 + 0), aI v5, aI (v5 + 1)], [], h)))
            none)
            none))
          none))
        none)
      (bI (X (72, 0, [aR 80, aI v5, aI v1, aN], [], h)) (fun r2 h2 =>
        cond (decide ((wr r2) ≠ 0))
        (cond (inb 12 v5)
          (cond (decide ((wr (h2 84 (wr v5))) ≠ 3))
          (X (90, 44, [aR 80, aI v1, aI v2, aI (v3 + 0), aI v4, aI (v5 + 1)], [], h2))
          (cond (inb 12 v5)
            (cond (decide ((wr (h2 87 (wr v5))) ≠ (wr (v2 - 2))))
            (X (90, 44, [aR 80, aI v1, aI v2, aI (v3 + 0), aI v4, aI (v5 + 1)], [], h2))
            (cond (inb 12 v5)
              (cond (inb 12 v5)
              (cond (decide ((wr ((h2 86 (wr v5)) + (h2 88 (wr v5)))) ≤ (wr v1)))
              (X (90, 44, [aR 80, aI v1, aI v2, aI (v3 + 0), aI v4, aI (v5 + 1)], [], h2))
              (X (90, 44, [aR 80, aI v1, aI v2, aI (v3 + 0), aI v5, aI (v5 + 1)], [], h2)))
              none)
              none))
            none))
          none)
        (bI (X (71, 0, [aR 80, aI v5], [], h2)) (fun r3 h3 =>
          cond (inb 12 v5)
          (cond (decide ((wr (h3 84 (wr v5))) ≠ 3))
          (X (90, 44, [aR 80, aI v1, aI v2, aI (v3 + r3), aI v4, aI (v5 + 1)], [], h3))
          (cond (inb 12 v5)
            (cond (decide ((wr (h3 87 (wr v5))) ≠ (wr (v2 - 2))))
            (X (90, 44, [aR 80, aI v1, aI v2, aI (v3 + r3), aI v4, aI (v5 + 1)], [], h3))
            (cond (inb 12 v5)
              (cond (inb 12 v5)
              (cond (decide ((wr ((h3 86 (wr v5)) + (h3 88 (wr v5)))) ≤ (wr v1)))
              (X (90, 44, [aR 80, aI v1, aI v2, aI (v3 + r3), aI v4, aI (v5 + 1)], [], h3))
              (X (90, 44, [aR 80, aI v1, aI v2, aI (v3 + r3), aI v5, aI (v5 + 1)], [], h3)))
              none)
              none))
            none))
          none)))))
      none)) := (ev_eq [44] 300 _).symm
-- 91: NodBenchModel.day(I)I
set_option maxRecDepth 20000 in
theorem e91_0 (a1 : Int) (h : Hp) : X (91, 0, [aR 80, aI a1], [], h) = bI (X (41, 0, [aL (wr a1), aN, aL 0, aN, aL 8, aN], [], h)) (fun r1 h1 =>
  cond (decide ((wr r1) ≠ 0))
  (bV (X (69, 0, [aR 80], [], h1)) (fun h2 =>
    bV (X (83, 0, [aR 80, aI 239, aN, aN], [], h2)) (fun h3 =>
    cond (decide ((wr a1) = 0)) (bI (X (86, 0, [aR 80, aN, aN], [], h3)) (fun r4 h4 =>
      some (some r4, h4)))
    (cond (decide ((wr a1) = 1)) (bI (X (84, 0, [aR 80, aN, aN], [], h3)) (fun r5 h5 =>
      some (some r5, h5)))
    (cond (decide ((wr a1) = 2)) (bI (X (85, 0, [aR 80, aN, aN], [], h3)) (fun r6 h6 =>
      some (some r6, h6)))
    (cond (decide ((wr a1) = 3)) (bI (X (87, 0, [aR 80, aI (a1 - 2), aN, aN], [], h3)) (fun r7 h7 =>
      some (some r7, h7)))
    (cond (decide ((wr a1) = 4)) (bI (X (87, 0, [aR 80, aI (a1 - 2), aN, aN], [], h3)) (fun r8 h8 =>
      some (some r8, h8)))
    (cond (decide ((wr a1) = 5)) (bI (X (87, 0, [aR 80, aI (a1 - 2), aN, aN], [], h3)) (fun r9 h9 =>
      some (some r9, h9)))
    (cond (decide ((wr a1) = 6)) (bI (X (87, 0, [aR 80, aI (a1 - 2), aN, aN], [], h3)) (fun r10 h10 =>
      some (some r10, h10)))
    (cond (decide ((wr a1) = 7)) (some (some (h3 80 18), h3))
    (bI (X (88, 0, [aR 80, aN, aN], [], h3)) (fun r11 h11 =>
      some (some r11, h11)))))))))))))
  (some (some (-1), h1))) := (ev_eq [] 300 _).symm
-- 92: NodBenchModel.more(IIIII)I
set_option maxRecDepth 20000 in
theorem e92_0 (a1 a2 a3 a4 a5 : Int) (h : Hp) : X (92, 0, [aR 80, aI a1, aI a2, aI a3, aI a4, aI a5], [], h) = bI (X (48, 0, [aI a1, aI a2, aI a3, aI a4], [], h)) (fun r1 h1 =>
  cond (decide ((wr r1) = 0))
  (some (some (-1), h1))
  (bI (X (41, 0, [aL (wr a5), aN, aL 0, aN, aL 1, aN], [], h1)) (fun r2 h2 =>
    cond (decide ((wr r2) ≠ 0))
    (cond (decide ((wr (h2 81 24)) ≠ 12))
      (bV (X (51, 0, [aR 80, aI a1, aI a2, aI a3, aI a4, aN], [], h2)) (fun h3 =>
        bV (X (69, 0, [aR 80], [], h3)) (fun h4 =>
        bV (X (83, 0, [aR 80, aI 239, aN, aN], [], h4)) (fun h5 =>
        cond (decide ((wr a5) ≠ 0))
        (cond (inb 12 ((up h5 81 24 ((h5 81 24) - 1)) 81 24))
          (some (some ((up h5 81 24 ((h5 81 24) - 1)) 84 (wr ((up h5 81 24 ((h5 81 24) - 1)) 81 24))), (up h5 81 24 ((h5 81 24) - 1))))
          none)
        (cond (inb 12 ((up h5 81 24 ((h5 81 24) - 1)) 81 24))
          (some (some ((up h5 81 24 ((h5 81 24) - 1)) 85 (wr ((up h5 81 24 ((h5 81 24) - 1)) 81 24))), (up h5 81 24 ((h5 81 24) - 1))))
          none)))))
      (some (some (-3), h2)))
    (some (some (-1), h2))))) := (ev_eq [] 300 _).symm
-- 93: NodBenchModel.tell(I)I
set_option maxRecDepth 20000 in
theorem e93_0 (a1 : Int) (h : Hp) : X (93, 0, [aR 80, aI a1, aN, aN, aN, aN, aN, aN], [], h) = bI (X (41, 0, [aL (wr a1), aN, aL 0, aN, aL 1, aN], [], h)) (fun r1 h1 =>
  cond (decide ((wr r1) ≠ 0))
  (bV (X (69, 0, [aR 80], [], h1)) (fun h2 =>
    bV (X (83, 0, [aR 80, aI 239, aN, aN], [], h2)) (fun h3 =>
    X (93, 34, [aR 80, aI a1, aI 0, aI 0, aI 13, aI 0, aN, aN], [], h3))))
  (some (some (-1), h1))) := (ev_eq [34, 49] 300 _).symm
set_option maxRecDepth 20000 in
theorem e93_34 (v1 v2 v3 v4 v5 : Int) (w6 w7 : AV) (h : Hp) : X (93, 34, [aR 80, aI v1, aI v2, aI v3, aI v4, aI v5, w6, w7], [], h) = cond (decide (60 < (wr v5)))
  (cond (decide ((wr v2) ≠ 0))
    (cond (decide ((wr v1) ≠ 0))
      (some (some v4, h))
      (some (some v3, h)))
    (some (some (-4), h)))
  (X (93, 49, [aR 80, aI v1, aI 0, aI v3, aI v4, aI v5, aI 0, aI 0], [], h)) := (ev_eq [34, 49] 300 _).symm
set_option maxRecDepth 20000 in
theorem e93_49 (v1 v2 v3 v4 v5 v6 v7 : Int) (h : Hp) : X (93, 49, [aR 80, aI v1, aI v2, aI v3, aI v4, aI v5, aI v6, aI v7], [], h) = cond (decide ((wr (h 81 24)) ≤ (wr v7)))
  (cond (decide ((wr v4) ≤ (wr v6)))
    (cond (decide ((wr v4) ≤ (wr v6)))
      (X (93, 34, [aR 80, aI v1, aI v2, aI v3, aI v4, aI (v5 + 5), aI v6, aI v7], [], h))
      (X (93, 34, [aR 80, aI v1, aI v2, aI v3, aI v6, aI (v5 + 5), aI v6, aI v7], [], h)))
    (cond (decide ((wr v4) ≤ (wr v6)))
      (X (93, 34, [aR 80, aI v1, aI v2, aI v5, aI v4, aI (v5 + 5), aI v6, aI v7], [], h))
      (X (93, 34, [aR 80, aI v1, aI v2, aI v5, aI v6, aI (v5 + 5), aI v6, aI v7], [], h))))
  (cond (inb 12 v7)
    (cond (decide ((wr (h 84 (wr v7))) < 2))
    (cond (inb 12 v7)
      (cond (decide ((wr (h 84 (wr v7))) < 2))
      (X (93, 49, [aR 80, aI v1, aI (v2 + 0), aI v3, aI v4, aI v5, aI (v6 + 0), aI (v7 + 1)], [], h))
      (cond (inb 12 v7)
        (bI (X (41, 0, [aL (wr ((h 85 (wr v7)) - v5)), aN, aL (-10), aN, aL 10, aN], [], h)) (fun r1 h1 =>
        cond (decide ((wr r1) ≠ 0))
        (X (93, 49, [aR 80, aI v1, aI (v2 + 0), aI v3, aI v4, aI v5, aI (v6 + 0), aI (v7 + 1)], [], h1))
        (X (93, 49, [aR 80, aI v1, aI (v2 + 0), aI v3, aI v4, aI v5, aI (v6 + 1), aI (v7 + 1)], [], h1))))
        none))
      none)
    (cond (inb 12 v7)
      (cond (decide ((wr (h 84 (wr v7))) < 2))
      (X (93, 49, [aR 80, aI v1, aI (v2 + 1), aI v3, aI v4, aI v5, aI (v6 + 0), aI (v7 + 1)], [], h))
      (cond (inb 12 v7)
        (bI (X (41, 0, [aL (wr ((h 85 (wr v7)) - v5)), aN, aL (-10), aN, aL 10, aN], [], h)) (fun r2 h2 =>
        cond (decide ((wr r2) ≠ 0))
        (X (93, 49, [aR 80, aI v1, aI (v2 + 1), aI v3, aI v4, aI v5, aI (v6 + 0), aI (v7 + 1)], [], h2))
        (X (93, 49, [aR 80, aI v1, aI (v2 + 1), aI v3, aI v4, aI v5, aI (v6 + 1), aI (v7 + 1)], [], h2))))
        none))
      none))
    none) := (ev_eq [34, 49] 300 _).symm
-- 94: NodBenchModel.waitsOfOthers()I
set_option maxRecDepth 20000 in
theorem e94_0 (h : Hp) : X (94, 0, [aR 80, aN, aN], [], h) = X (94, 4, [aR 80, aI 0, aI 0], [], h) := (ev_eq [4] 300 _).symm
set_option maxRecDepth 20000 in
theorem e94_4 (v1 v2 : Int) (h : Hp) : X (94, 4, [aR 80, aI v1, aI v2], [], h) = cond (decide ((wr (h 81 24)) ≤ (wr v2)))
  (some (some v1, h))
  (bI (X (50, 0, [aR 80, aI v2, aI 1], [], h)) (fun r1 h1 =>
    cond (decide ((wr r1) ≠ 1))
    (cond (inb 12 v2)
      (X (94, 4, [aR 80, aI (v1 + (h1 85 (wr v2))), aI (v2 + 1)], [], h1))
      none)
    (X (94, 4, [aR 80, aI (v1 + 0), aI (v2 + 1)], [], h1)))) := (ev_eq [4] 300 _).symm
-- 95: NodBenchModel.choosers()I
set_option maxRecDepth 20000 in
theorem e95_0 (h : Hp) : X (95, 0, [aR 80, aN], [], h) = bV (X (69, 0, [aR 80], [], h)) (fun h1 =>
  bV (X (83, 0, [aR 80, aI 239, aN, aN], [], h1)) (fun h2 =>
  bI (X (94, 0, [aR 80, aN, aN], [], h2)) (fun r3 h3 =>
  bV (X (83, 0, [aR 80, aI 239, aN, aN], [], (up h3 80 8 1))) (fun h4 =>
  bI (X (94, 0, [aR 80, aN, aN], [], h4)) (fun r5 h5 =>
  some (some (r3 - r5), h5)))))) := (ev_eq [] 300 _).symm
-- 96: NodBenchModel.third(II)I
set_option maxRecDepth 20000 in
theorem e96_0 (a1 a2 : Int) (h : Hp) : X (96, 0, [aR 80, aI a1, aI a2, aN, aN, aN, aN], [], h) = bI (X (41, 0, [aL (wr a1), aN, aL 0, aN, aL 99, aN], [], h)) (fun r1 h1 =>
  cond (decide ((wr r1) = 0))
  (some (some (-1), h1))
  (bI (X (41, 0, [aL (wr a2), aN, aL 0, aN, aL 1, aN], [], h1)) (fun r2 h2 =>
    cond (decide ((wr r2) ≠ 0))
    (bV (X (69, 0, [aR 80], [], h2)) (fun h3 =>
      X (96, 37, [aR 80, aI a1, aI a2, aI (-4), aI 0, aI 0, aN], [], h3)))
    (some (some (-1), h2))))) := (ev_eq [37] 300 _).symm
set_option maxRecDepth 20000 in
theorem e96_37 (v1 v2 v3 v4 v5 : Int) (w6 : AV) (h : Hp) : X (96, 37, [aR 80, aI v1, aI v2, aI v3, aI v4, aI v5, w6], [], h) = cond (decide (13 < (wr v5)))
  (cond (decide ((wr v2) ≠ 0))
    (some (some v4, h))
    (some (some v3, h)))
  (bV (X (83, 0, [aR 80, aI 239, aN, aN], [], (up h 80 7 v5))) (fun h1 =>
    bI (X (84, 0, [aR 80, aN, aN], [], h1)) (fun r2 h2 =>
    bI (X (88, 0, [aR 80, aN, aN], [], h2)) (fun r3 h3 =>
    cond (decide ((wr v3) < 0))
    (X (96, 37, [aR 80, aI v1, aI v2, aI v5, aI (r2 + (v1 * r3)), aI (v5 + 1), aI (r2 + (v1 * r3))], [], h3))
    (cond (decide ((wr v4) < (wr (r2 + (v1 * r3)))))
      (X (96, 37, [aR 80, aI v1, aI v2, aI v3, aI v4, aI (v5 + 1), aI (r2 + (v1 * r3))], [], h3))
      (X (96, 37, [aR 80, aI v1, aI v2, aI v5, aI (r2 + (v1 * r3)), aI (v5 + 1), aI (r2 + (v1 * r3))], [], h3))))))) := (ev_eq [37] 300 _).symm
-- 97: NodBenchModel.last(I)I
set_option maxRecDepth 20000 in
theorem e97_0 (a1 : Int) (h : Hp) : X (97, 0, [aR 80, aI a1, aN, aN, aN], [], h) = bI (X (41, 0, [aL (wr a1), aN, aL 1, aN, aL 239, aN], [], h)) (fun r1 h1 =>
  cond (decide ((wr r1) ≠ 0))
  (bV (X (69, 0, [aR 80], [], h1)) (fun h2 =>
    X (97, 22, [aR 80, aI a1, aI 240, aN, aN], [], h2)))
  (some (some (-1), h1))) := (ev_eq [22, 55] 300 _).symm
set_option maxRecDepth 20000 in
theorem e97_22 (v1 v2 : Int) (w3 w4 : AV) (h : Hp) : X (97, 22, [aR 80, aI v1, aI v2, w3, w4], [], h) = cond (decide ((wr v2) ≤ 0))
  (some (some 0, h))
  (bV (X (83, 0, [aR 80, aI 239, aN, aN], [], (up h 80 9 v2))) (fun h1 =>
    bI (X (87, 0, [aR 80, aI 4, aN, aN], [], h1)) (fun r2 h2 =>
    cond (decide ((wr r2) ≠ 0))
    (X (97, 55, [aR 80, aI v1, aI v2, aI 0, aI 0], [], h2))
    (X (97, 55, [aR 80, aI v1, aI v2, aI 1, aI 0], [], h2))))) := (ev_eq [22, 55] 300 _).symm
set_option maxRecDepth 20000 in
theorem e97_55 (v1 v2 v3 v4 : Int) (h : Hp) : X (97, 55, [aR 80, aI v1, aI v2, aI v3, aI v4], [], h) = cond (decide ((wr (h 81 24)) ≤ (wr v4)))
  (cond (decide ((wr v3) = 0))
    (X (97, 22, [aR 80, aI v1, aI (v2 + (-1)), aI v3, aI v4], [], h))
    (some (some v2, h)))
  (cond (decide ((wr v3) = 0))
    (X (97, 55, [aR 80, aI v1, aI v2, aI 0, aI (v4 + 1)], [], h))
    (cond (inb 12 v4)
      (cond (decide ((wr (h 84 (wr v4))) ≠ 3))
      (X (97, 55, [aR 80, aI v1, aI v2, aI 1, aI (v4 + 1)], [], h))
      (cond (inb 12 v4)
        (cond (inb 12 v4)
        (cond (decide ((wr v1) < (wr ((h 86 (wr v4)) + (h 88 (wr v4))))))
        (X (97, 55, [aR 80, aI v1, aI v2, aI 0, aI (v4 + 1)], [], h))
        (X (97, 55, [aR 80, aI v1, aI v2, aI 1, aI (v4 + 1)], [], h)))
        none)
        none))
      none)) := (ev_eq [22, 55] 300 _).symm
-- 98: NodBenchModel.worth(I)I
set_option maxRecDepth 20000 in
theorem e98_0 (a1 : Int) (h : Hp) : X (98, 0, [aR 80, aI a1, aN], [], h) = bI (X (41, 0, [aL (wr a1), aN, aL 0, aN, aL 2, aN], [], h)) (fun r1 h1 =>
  cond (decide ((wr r1) ≠ 0))
  (bV (X (69, 0, [aR 80], [], h1)) (fun h2 =>
    bV (X (83, 0, [aR 80, aI 239, aN, aN], [], h2)) (fun h3 =>
    bI (X (86, 0, [aR 80, aN, aN], [], h3)) (fun r4 h4 =>
    bV (X (83, 0, [aR 80, aI 239, aN, aN], [], (up h4 80 10 a1))) (fun h5 =>
    bI (X (86, 0, [aR 80, aN, aN], [], h5)) (fun r6 h6 =>
    some (some (r4 - r6), h6)))))))
  (some (some (-100001), h1))) := (ev_eq [] 300 _).symm
-- 99: NodBenchModel.byRule(II)I
set_option maxRecDepth 20000 in
theorem e99_0 (a1 a2 : Int) (h : Hp) : X (99, 0, [aR 80, aI a1, aI a2], [], h) = bV (X (69, 0, [aR 80], [], h)) (fun h1 =>
  bV (X (83, 0, [aR 80, aI 239, aN, aN], [], (up h1 80 6 a1))) (fun h2 =>
  cond (decide ((wr a2) ≠ 0))
  (cond (decide ((wr a2) ≠ 1))
    (bI (X (86, 0, [aR 80, aN, aN], [], h2)) (fun r3 h3 =>
      some (some r3, h3)))
    (bI (X (85, 0, [aR 80, aN, aN], [], h2)) (fun r4 h4 =>
      some (some r4, h4))))
  (bI (X (84, 0, [aR 80, aN, aN], [], h2)) (fun r5 h5 =>
    some (some r5, h5))))) := (ev_eq [] 300 _).symm
-- 100: NodBenchModel.rule(II)I
set_option maxRecDepth 20000 in
theorem e100_0 (a1 a2 : Int) (h : Hp) : X (100, 0, [aR 80, aI a1, aI a2], [], h) = bI (X (41, 0, [aL (wr a1), aN, aL 0, aN, aL 2, aN], [], h)) (fun r1 h1 =>
  cond (decide ((wr r1) = 0))
  (some (some (-1), h1))
  (bI (X (41, 0, [aL (wr a2), aN, aL 0, aN, aL 2, aN], [], h1)) (fun r2 h2 =>
    cond (decide ((wr r2) = 0))
    (some (some (-1), h2))
    (bI (X (99, 0, [aR 80, aI a1, aI a2], [], h2)) (fun r3 h3 =>
      some (some r3, h3)))))) := (ev_eq [] 300 _).symm
-- 101: NodBenchModel.best()I
set_option maxRecDepth 20000 in
theorem e101_0 (h : Hp) : X (101, 0, [aR 80, aN, aN, aN, aN, aN, aN], [], h) = X (101, 2, [aR 80, aI 0, aN, aN, aN, aN, aN], [], h) := (ev_eq [2, 9, 46, 56, 135] 300 _).symm
set_option maxRecDepth 20000 in
theorem e101_2 (v1 : Int) (w2 : AV) (h : Hp) : X (101, 2, [aR 80, aI v1, w2, aN, aN, aN, aN], [], h) = cond (decide (3 ≤ (wr v1)))
  (X (101, 46, [aR 80, aI 0, aI 0, aN, aN, aN, aN], [], h))
  (X (101, 9, [aR 80, aI v1, aI 0, aN, aN, aN, aN], [], h)) := (ev_eq [2, 9, 46, 56, 135] 300 _).symm
set_option maxRecDepth 20000 in
theorem e101_9 (v1 v2 : Int) (h : Hp) : X (101, 9, [aR 80, aI v1, aI v2, aN, aN, aN, aN], [], h) = cond (decide (3 ≤ (wr v2)))
  (X (101, 2, [aR 80, aI (v1 + 1), aI v2, aN, aN, aN, aN], [], h))
  (bI (X (99, 0, [aR 80, aI v1, aI v2], [], h)) (fun r1 h1 =>
    cond (inb 9 ((3 * v1) + v2))
    (X (101, 9, [aR 80, aI v1, aI (v2 + 1), aN, aN, aN, aN], [], (up h1 91 (wr ((3 * v1) + v2)) r1)))
    none)) := (ev_eq [2, 9, 46, 56, 135] 300 _).symm
set_option maxRecDepth 20000 in
theorem e101_46 (v1 v2 : Int) (w3 w4 w5 w6 : AV) (h : Hp) : X (101, 46, [aR 80, aI v1, aI v2, w3, w4, w5, w6], [], h) = cond (decide (3 ≤ (wr v2)))
  (some (some v1, h))
  (X (101, 56, [aR 80, aI v1, aI v2, aI 1, aI 0, w5, w6], [], h)) := (ev_eq [2, 9, 46, 56, 135] 300 _).symm
set_option maxRecDepth 20000 in
theorem e101_56 (v1 v2 v3 v4 : Int) (w5 w6 : AV) (h : Hp) : X (101, 56, [aR 80, aI v1, aI v2, aI v3, aI v4, w5, w6], [], h) = cond (decide (3 ≤ (wr v4)))
  (cond (decide ((wr v3) = 0))
    (X (101, 46, [aR 80, aI (jor v1 0), aI (v2 + 1), aI v3, aI v4, w5, w6], [], h))
    (X (101, 46, [aR 80, aI (jor v1 (jshl 1 v2)), aI (v2 + 1), aI v3, aI v4, w5, w6], [], h)))
  (cond (inb 9 (3 * v4))
    (cond (inb 9 (3 * v2))
    (cond (decide ((wr (h 91 (wr (3 * v2)))) < (wr (h 91 (wr (3 * v4))))))
    (X (101, 135, [aR 80, aI v1, aI v2, aI v3, aI v4, w5, w6], [aI 0], h))
    (cond (inb 9 ((3 * v4) + 1))
      (cond (inb 9 ((3 * v2) + 1))
      (cond (decide ((wr (h 91 (wr ((3 * v2) + 1)))) < (wr (h 91 (wr ((3 * v4) + 1))))))
      (X (101, 135, [aR 80, aI v1, aI v2, aI v3, aI v4, w5, w6], [aI 0], h))
      (cond (inb 9 ((3 * v4) + 2))
        (cond (inb 9 ((3 * v2) + 2))
        (cond (decide ((wr (h 91 (wr ((3 * v4) + 2)))) < (wr (h 91 (wr ((3 * v2) + 2))))))
        (X (101, 135, [aR 80, aI v1, aI v2, aI v3, aI v4, w5, w6], [aI 0], h))
        (X (101, 135, [aR 80, aI v1, aI v2, aI v3, aI v4, w5, w6], [aI 1], h)))
        none)
        none))
      none)
      none))
    none)
    none) := (ev_eq [2, 9, 46, 56, 135] 300 _).symm
set_option maxRecDepth 20000 in
theorem e101_135 (v1 v2 v3 v4 s0 : Int) (w5 w6 : AV) (h : Hp) : X (101, 135, [aR 80, aI v1, aI v2, aI v3, aI v4, w5, w6], [aI s0], h) = cond (inb 9 (3 * v4))
  (cond (inb 9 (3 * v2))
  (cond (decide ((wr (h 91 (wr (3 * v4)))) < (wr (h 91 (wr (3 * v2))))))
  (cond (decide ((wr v3) = 0))
    (X (101, 56, [aR 80, aI v1, aI v2, aI 0, aI (v4 + 1), aI s0, aI 1], [], h))
    (cond (decide ((wr s0) = 0))
      (X (101, 56, [aR 80, aI v1, aI v2, aI 1, aI (v4 + 1), aI s0, aI 1], [], h))
      (X (101, 56, [aR 80, aI v1, aI v2, aI 0, aI (v4 + 1), aI s0, aI 1], [], h))))
  (cond (inb 9 ((3 * v4) + 1))
    (cond (inb 9 ((3 * v2) + 1))
    (cond (decide ((wr (h 91 (wr ((3 * v4) + 1)))) < (wr (h 91 (wr ((3 * v2) + 1))))))
    (cond (decide ((wr v3) = 0))
      (X (101, 56, [aR 80, aI v1, aI v2, aI 0, aI (v4 + 1), aI s0, aI 1], [], h))
      (cond (decide ((wr s0) = 0))
        (X (101, 56, [aR 80, aI v1, aI v2, aI 1, aI (v4 + 1), aI s0, aI 1], [], h))
        (X (101, 56, [aR 80, aI v1, aI v2, aI 0, aI (v4 + 1), aI s0, aI 1], [], h))))
    (cond (inb 9 ((3 * v4) + 2))
      (cond (inb 9 ((3 * v2) + 2))
      (cond (decide ((wr (h 91 (wr ((3 * v4) + 2)))) ≤ (wr (h 91 (wr ((3 * v2) + 2))))))
      (cond (decide ((wr v3) = 0))
        (X (101, 56, [aR 80, aI v1, aI v2, aI 0, aI (v4 + 1), aI s0, aI 0], [], h))
        (cond (decide ((wr s0) = 0))
          (X (101, 56, [aR 80, aI v1, aI v2, aI 1, aI (v4 + 1), aI s0, aI 0], [], h))
          (X (101, 56, [aR 80, aI v1, aI v2, aI 1, aI (v4 + 1), aI s0, aI 0], [], h))))
      (cond (decide ((wr v3) = 0))
        (X (101, 56, [aR 80, aI v1, aI v2, aI 0, aI (v4 + 1), aI s0, aI 1], [], h))
        (cond (decide ((wr s0) = 0))
          (X (101, 56, [aR 80, aI v1, aI v2, aI 1, aI (v4 + 1), aI s0, aI 1], [], h))
          (X (101, 56, [aR 80, aI v1, aI v2, aI 0, aI (v4 + 1), aI s0, aI 1], [], h)))))
      none)
      none))
    none)
    none))
  none)
  none := (ev_eq [2, 9, 46, 56, 135] 300 _).symm
-- 102: NodBenchModel.word(II)I
set_option maxRecDepth 20000 in
theorem e102_0 (a1 a2 : Int) (h : Hp) : X (102, 0, [aR 80, aI a1, aI a2], [], h) = bI (X (49, 0, [aR 80, aI a1], [], h)) (fun r1 h1 =>
  cond (decide ((wr r1) = 0))
  (some (some (-1), h1))
  (bI (X (49, 0, [aR 80, aI a2], [], h1)) (fun r2 h2 =>
    cond (decide ((wr r2) = 0))
    (some (some (-1), h2))
    (cond (decide ((wr a1) ≠ (wr a2)))
      (cond (decide ((wr (h2 81 42)) ≠ 12))
        (cond (inb 115 (43 + (2 * (h2 81 42))))
          (cond (inb 115 ((43 + (2 * ((up h2 81 (wr (43 + (2 * (h2 81 42)))) a1) 81 42))) + 1))
          (some (some (((up (up (up h2 81 (wr (43 + (2 * (h2 81 42)))) a1) 81 (wr ((43 + (2 * ((up h2 81 (wr (43 + (2 * (h2 81 42)))) a1) 81 42))) + 1)) a2) 81 42 (((up (up h2 81 (wr (43 + (2 * (h2 81 42)))) a1) 81 (wr ((43 + (2 * ((up h2 81 (wr (43 + (2 * (h2 81 42)))) a1) 81 42))) + 1)) a2) 81 42) + 1)) 81 42) - 1), (up (up (up h2 81 (wr (43 + (2 * (h2 81 42)))) a1) 81 (wr ((43 + (2 * ((up h2 81 (wr (43 + (2 * (h2 81 42)))) a1) 81 42))) + 1)) a2) 81 42 (((up (up h2 81 (wr (43 + (2 * (h2 81 42)))) a1) 81 (wr ((43 + (2 * ((up h2 81 (wr (43 + (2 * (h2 81 42)))) a1) 81 42))) + 1)) a2) 81 42) + 1))))
          none)
          none)
        (some (some (-3), h2)))
      (some (some (-1), h2)))))) := (ev_eq [] 300 _).symm
-- 103: NodBenchModel.hush()I
set_option maxRecDepth 20000 in
theorem e103_0 (h : Hp) : X (103, 0, [aR 80, aN], [], h) = some (some (h 81 42), (up h 81 42 0)) := (ev_eq [] 300 _).symm
