/-! block equations, written by wip/whole/gen10.py -/
-- 104: NodBenchModel.behind(II)I
set_option maxRecDepth 20000 in
theorem e104_0 (a1 a2 : Int) (h : Hp) : X (104, 0, [aR 80, aI a1, aI a2, aN, aN, aN], [], h) = X (104, 5, [aR 80, aI a1, aI a2, aI 0, aI 0, aN], [], h) := (ev_eq [5] 300 _).symm
set_option maxRecDepth 20000 in
theorem e104_5 (v1 v2 v3 v4 : Int) (w5 : AV) (h : Hp) : X (104, 5, [aR 80, aI v1, aI v2, aI v3, aI v4, w5], [], h) = cond (decide ((wr (h 81 42)) ≤ (wr v4)))
  (some (some v3, h))
  (bI (X (42, 0, [aI v1, aI v4], [], h)) (fun r1 h1 =>
    cond (decide ((wr r1) ≠ 0))
    (X (104, 5, [aR 80, aI v1, aI v2, aI (jor v3 0), aI (v4 + 1), aI 0], [], h1))
    (cond (inb 115 (43 + (2 * v4)))
      (bI (X (42, 0, [aI v2, aI (h1 81 (wr (43 + (2 * v4))))], [], h1)) (fun r2 h2 =>
      cond (decide ((wr r2) = 0))
      (X (104, 5, [aR 80, aI v1, aI v2, aI (jor v3 0), aI (v4 + 1), aI 0], [], h2))
      (cond (inb 115 ((43 + (2 * v4)) + 1))
        (X (104, 5, [aR 80, aI v1, aI v2, aI (jor v3 (jshl 1 (h2 81 (wr ((43 + (2 * v4)) + 1))))), aI (v4 + 1), aI 1], [], h2))
        none)))
      none))) := (ev_eq [5] 300 _).symm
-- 105: NodBenchModel.allPeople()I
set_option maxRecDepth 20000 in
theorem e105_0 (h : Hp) : X (105, 0, [aR 80], [], h) = some (some ((jshl 1 (h 81 24)) - 1), h) := (ev_eq [] 300 _).symm
-- 106: NodBenchModel.isTrue(I)Z
set_option maxRecDepth 20000 in
theorem e106_0 (a1 : Int) (h : Hp) : X (106, 0, [aR 80, aI a1, aN, aN, aN], [], h) = bI (X (105, 0, [aR 80], [], h)) (fun r1 h1 =>
  X (106, 7, [aR 80, aI a1, aI r1, aI 1, aN], [], h1)) := (ev_eq [7] 300 _).symm
set_option maxRecDepth 20000 in
theorem e106_7 (v1 v2 v3 : Int) (w4 : AV) (h : Hp) : X (106, 7, [aR 80, aI v1, aI v2, aI v3, w4], [], h) = cond (decide ((wr v3) = 0))
  (cond (decide ((wr v2) ≠ 0))
    (some (some 0, h))
    (some (some 1, h)))
  (cond (decide ((wr v2) = 0))
    (cond (decide ((wr v2) ≠ 0))
      (some (some 0, h))
      (some (some 1, h)))
    (bI (X (104, 0, [aR 80, aI v1, aI v2, aN, aN, aN], [], h)) (fun r1 h1 =>
      cond (decide ((wr (jand v2 r1)) = (wr v2)))
      (X (106, 7, [aR 80, aI v1, aI (jand v2 r1), aI 0, aI (jand v2 r1)], [], h1))
      (X (106, 7, [aR 80, aI v1, aI (jand v2 r1), aI 1, aI (jand v2 r1)], [], h1))))) := (ev_eq [7] 300 _).symm
-- 107: NodBenchModel.ones(I)I
set_option maxRecDepth 20000 in
theorem e107_0 (a0 : Int) (h : Hp) : X (107, 0, [aI a0, aN, aN], [], h) = X (107, 4, [aI a0, aI 0, aI a0], [], h) := (ev_eq [4] 300 _).symm
set_option maxRecDepth 20000 in
theorem e107_4 (v0 v1 v2 : Int) (h : Hp) : X (107, 4, [aI v0, aI v1, aI v2], [], h) = cond (decide ((wr v2) = 0))
  (some (some v1, h))
  (X (107, 4, [aI v0, aI (v1 + 1), aI (jand v2 (v2 - 1))], [], h)) := (ev_eq [4] 300 _).symm
-- 108: NodBenchModel.drops()I
set_option maxRecDepth 20000 in
theorem e108_0 (h : Hp) : X (108, 0, [aR 80, aN, aN], [], h) = X (108, 24, [aR 80, aI ((jshl 1 (h 81 42)) - 1), aI ((jshl 1 (h 81 42)) - 1)], [], h) := (ev_eq [24] 300 _).symm
set_option maxRecDepth 20000 in
theorem e108_24 (v1 v2 : Int) (h : Hp) : X (108, 24, [aR 80, aI v1, aI v2], [], h) = cond (decide ((wr v2) < 0))
  (some (some v1, h))
  (bI (X (107, 0, [aI v2, aN, aN], [], h)) (fun r1 h1 =>
    bI (X (107, 0, [aI v1, aN, aN], [], h1)) (fun r2 h2 =>
    cond (decide ((wr r2) < (wr r1)))
    (X (108, 24, [aR 80, aI v1, aI (v2 + (-1))], [], h2))
    (bI (X (106, 0, [aR 80, aI v2, aN, aN, aN], [], h2)) (fun r3 h3 =>
      cond (decide ((wr r3) = 0))
      (X (108, 24, [aR 80, aI v1, aI (v2 + (-1))], [], h3))
      (X (108, 24, [aR 80, aI v2, aI (v2 + (-1))], [], h3))))))) := (ev_eq [24] 300 _).symm
-- 109: NodBenchModel.first()I
set_option maxRecDepth 20000 in
theorem e109_0 (h : Hp) : X (109, 0, [aR 80], [], h) = bI (X (105, 0, [aR 80], [], h)) (fun r1 h1 =>
  bI (X (108, 0, [aR 80, aN, aN], [], h1)) (fun r2 h2 =>
  bI (X (105, 0, [aR 80], [], h2)) (fun r3 h3 =>
  bI (X (104, 0, [aR 80, aI r2, aI r3, aN, aN, aN], [], h3)) (fun r4 h4 =>
  some (some (jand r1 (jxor r4 (-1))), h4))))) := (ev_eq [] 300 _).symm
-- 110: NodBenchModel.orders(I)I
set_option maxRecDepth 20000 in
theorem e110_0 (a1 : Int) (h : Hp) : X (110, 0, [aR 80, aI a1, aN, aN, aN, aN, aN, aN], [], h) = bI (X (105, 0, [aR 80], [], h)) (fun r1 h1 =>
  bI (X (41, 0, [aL (wr a1), aN, aL 1, aN, aL (wr r1), aN], [], h1)) (fun r2 h2 =>
  cond (decide ((wr r2) = 0))
  (some (some (-1), h2))
  (bI (X (107, 0, [aI a1, aN, aN], [], h2)) (fun r3 h3 =>
    cond (decide ((wr r3) ≤ 8))
    (bI (X (108, 0, [aR 80, aN, aN], [], h3)) (fun r4 h4 =>
      X (110, 35, [aR 80, aI a1, aI r4, aI 0, aI 0, aN, aN, aN], [], h4)))
    (some (some (-1), h3)))))) := (ev_eq [35, 76, 107, 152] 300 _).symm
set_option maxRecDepth 20000 in
theorem e110_35 (v1 v2 v3 v4 : Int) (h : Hp) : X (110, 35, [aR 80, aI v1, aI v2, aI v3, aI v4, aN, aN, aN], [], h) = cond (decide ((wr (h 81 24)) ≤ (wr v4)))
  (X (110, 76, [aR 80, aI v1, aI v2, aI v3, aI 0, aN, aN, aN], [], h))
  (bI (X (42, 0, [aI v1, aI v4], [], h)) (fun r1 h1 =>
    cond (decide ((wr r1) = 0))
    (X (110, 35, [aR 80, aI v1, aI v2, aI v3, aI (v4 + 1), aN, aN, aN], [], h1))
    (cond (inb 8 v3)
      (X (110, 35, [aR 80, aI v1, aI v2, aI (v3 + 1), aI (v4 + 1), aN, aN, aN], [], (up h1 93 (wr v3) v4)))
      none))) := (ev_eq [35, 76, 107, 152] 300 _).symm
set_option maxRecDepth 20000 in
theorem e110_76 (v1 v2 v3 v4 : Int) (w5 w6 w7 : AV) (h : Hp) : X (110, 76, [aR 80, aI v1, aI v2, aI v3, aI v4, w5, w6, w7], [], h) = cond (decide ((wr (jshl 1 v3)) ≤ (wr v4)))
  (cond (inb 256 ((jshl 1 v3) - 1))
    (some (some (h 92 (wr ((jshl 1 v3) - 1))), h))
    none)
  (cond (decide ((wr v4) ≠ 0))
    (cond (inb 256 v4)
      (X (110, 107, [aR 80, aI v1, aI v2, aI v3, aI v4, aI v1, aI 0, w7], [], (up h 92 (wr v4) 0)))
      none)
    (cond (inb 256 v4)
      (X (110, 107, [aR 80, aI v1, aI v2, aI v3, aI v4, aI v1, aI 0, w7], [], (up h 92 (wr v4) 1)))
      none)) := (ev_eq [35, 76, 107, 152] 300 _).symm
set_option maxRecDepth 20000 in
theorem e110_107 (v1 v2 v3 v4 v5 v6 : Int) (w7 : AV) (h : Hp) : X (110, 107, [aR 80, aI v1, aI v2, aI v3, aI v4, aI v5, aI v6, w7], [], h) = cond (decide ((wr v3) ≤ (wr v6)))
  (X (110, 152, [aR 80, aI v1, aI v2, aI v3, aI v4, aI v5, aI 0, w7], [], h))
  (bI (X (42, 0, [aI v4, aI v6], [], h)) (fun r1 h1 =>
    cond (decide ((wr r1) = 0))
    (X (110, 107, [aR 80, aI v1, aI v2, aI v3, aI v4, aI (jand v5 (-1)), aI (v6 + 1), w7], [], h1))
    (cond (inb 8 v6)
      (X (110, 107, [aR 80, aI v1, aI v2, aI v3, aI v4, aI (jand v5 (jxor (jshl 1 (h1 93 (wr v6))) (-1))), aI (v6 + 1), w7], [], h1))
      none))) := (ev_eq [35, 76, 107, 152] 300 _).symm
set_option maxRecDepth 20000 in
theorem e110_152 (v1 v2 v3 v4 v5 v6 : Int) (w7 : AV) (h : Hp) : X (110, 152, [aR 80, aI v1, aI v2, aI v3, aI v4, aI v5, aI v6, w7], [], h) = cond (decide ((wr v3) ≤ (wr v6)))
  (X (110, 76, [aR 80, aI v1, aI v2, aI v3, aI (v4 + 1), aI v5, aI v6, w7], [], h))
  (bI (X (42, 0, [aI v4, aI v6], [], h)) (fun r1 h1 =>
    cond (decide ((wr r1) = 0))
    (cond (inb 256 v4)
      (cond (inb 256 v4)
      (X (110, 152, [aR 80, aI v1, aI v2, aI v3, aI v4, aI v5, aI (v6 + 1), aI 0], [], (up h1 92 (wr v4) ((h1 92 (wr v4)) + 0))))
      none)
      none)
    (bI (X (104, 0, [aR 80, aI v2, aI v5, aN, aN, aN], [], h1)) (fun r2 h2 =>
      cond (inb 8 v6)
      (bI (X (42, 0, [aI r2, aI (h2 93 (wr v6))], [], h2)) (fun r3 h3 =>
      cond (decide ((wr r3) ≠ 0))
      (cond (inb 256 v4)
        (cond (inb 256 v4)
        (X (110, 152, [aR 80, aI v1, aI v2, aI v3, aI v4, aI v5, aI (v6 + 1), aI 0], [], (up h3 92 (wr v4) ((h3 92 (wr v4)) + 0))))
        none)
        none)
      (cond (inb 256 v4)
        (cond (inb 256 (jand v4 (jxor (jshl 1 v6) (-1))))
        (cond (inb 256 v4)
        (X (110, 152, [aR 80, aI v1, aI v2, aI v3, aI v4, aI v5, aI (v6 + 1), aI 1], [], (up h3 92 (wr v4) ((h3 92 (wr v4)) + (h3 92 (wr (jand v4 (jxor (jshl 1 v6) (-1)))))))))
        none)
        none)
        none)))
      none)))) := (ev_eq [35, 76, 107, 152] 300 _).symm
-- 111: NodBenchModel.image()I
set_option maxRecDepth 20000 in
theorem e111_0 (h : Hp) : X (111, 0, [aR 80, aN], [], h) = X (111, 2, [aR 80, aI 0], [], h) := (ev_eq [2] 300 _).symm
set_option maxRecDepth 20000 in
theorem e111_2 (v1 : Int) (h : Hp) : X (111, 2, [aR 80, aI v1], [], h) = cond (decide (115 ≤ (wr v1)))
  (some (some 1, (up h 80 22 1)))
  (cond (inb 115 v1)
    (cond (inb 115 v1)
    (X (111, 2, [aR 80, aI (v1 + 1)], [], (up h 94 (wr v1) (h 81 (wr v1)))))
    none)
    none) := (ev_eq [2] 300 _).symm
-- 112: NodBenchModel.restore()I
set_option maxRecDepth 20000 in
theorem e112_0 (h : Hp) : X (112, 0, [aR 80, aN], [], h) = cond (decide ((wr (h 80 22)) ≠ 0))
  (X (112, 12, [aR 80, aI 0], [], h))
  (some (some (-4), h)) := (ev_eq [12] 300 _).symm
set_option maxRecDepth 20000 in
theorem e112_12 (v1 : Int) (h : Hp) : X (112, 12, [aR 80, aI v1], [], h) = cond (decide (115 ≤ (wr v1)))
  (some (some 1, h))
  (cond (inb 115 v1)
    (cond (inb 115 v1)
    (X (112, 12, [aR 80, aI (v1 + 1)], [], (up h 81 (wr v1) (h 94 (wr v1)))))
    none)
    none) := (ev_eq [12] 300 _).symm
-- 113: NodBenchModel.isSheet(II)Z
set_option maxRecDepth 20000 in
theorem e113_0 (a0 a1 : Int) (h : Hp) : X (113, 0, [aI a0, aI a1], [], h) = bI (X (41, 0, [aL (wr a0), aN, aL 0, aN, aL 3, aN], [], h)) (fun r1 h1 =>
  cond (decide ((wr r1) = 0))
  (some (some 0, h1))
  (bI (X (41, 0, [aL (wr a1), aN, aL 0, aN, aL 2, aN], [], h1)) (fun r2 h2 =>
    cond (decide ((wr r2) = 0))
    (some (some 0, h2))
    (some (some 1, h2))))) := (ev_eq [] 300 _).symm
-- 114: NodBenchModel.sheet(III)I
set_option maxRecDepth 20000 in
theorem e114_0 (a1 a2 a3 : Int) (h : Hp) : X (114, 0, [aR 80, aI a1, aI a2, aI a3, aN], [], h) = bI (X (113, 0, [aI a1, aI a2], [], h)) (fun r1 h1 =>
  cond (decide ((wr r1) = 0))
  (some (some (-1), h1))
  (cond (decide ((wr a3) ≤ 24))
    (cond (decide (0 ≤ (wr a3)))
      (cond (inb 4 a1)
        (cond (inb 4 a1)
        (X (114, 40, [aR 80, aI a1, aI a2, aI a3, aI 0], [], (up (up h1 95 (wr a1) a2) 96 (wr a1) a3)))
        none)
        none)
      (some (some (-14), h1)))
    (some (some (-1), h1)))) := (ev_eq [40] 300 _).symm
set_option maxRecDepth 20000 in
theorem e114_40 (v1 v2 v3 v4 : Int) (h : Hp) : X (114, 40, [aR 80, aI v1, aI v2, aI v3, aI v4], [], h) = cond (decide (24 ≤ (wr v4)))
  (some (some v3, h))
  (cond (inb 96 ((24 * v1) + v4))
    (X (114, 40, [aR 80, aI v1, aI v2, aI v3, aI (v4 + 1)], [], (up h 97 (wr ((24 * v1) + v4)) 0)))
    none) := (ev_eq [40] 300 _).symm
-- 115: NodBenchModel.drop(I)I
set_option maxRecDepth 20000 in
theorem e115_0 (a1 : Int) (h : Hp) : X (115, 0, [aR 80, aI a1], [], h) = bI (X (41, 0, [aL (wr a1), aN, aL 0, aN, aL 3, aN], [], h)) (fun r1 h1 =>
  cond (decide ((wr r1) ≠ 0))
  (cond (inb 4 a1)
    (cond (decide (0 ≤ (wr (h1 95 (wr a1)))))
    (cond (inb 4 a1)
      (cond (inb 4 a1)
      (some (some ((up h1 95 (wr a1) (-1)) 96 (wr a1)), (up h1 95 (wr a1) (-1))))
      none)
      none)
    (some (some (-11), h1)))
    none)
  (some (some (-1), h1))) := (ev_eq [] 300 _).symm
-- 116: NodBenchModel.lacksRow(IIII)I
set_option maxRecDepth 20000 in
theorem e116_0 (a1 a2 a3 a4 : Int) (h : Hp) : X (116, 0, [aR 80, aI a1, aI a2, aI a3, aI a4], [], h) = cond (inb 4 a1)
  (cond (decide ((wr (h 95 (wr a1))) = (wr a2)))
  (cond (inb 4 a1)
    (bI (X (41, 0, [aL (wr a3), aN, aL 0, aN, aL (wr ((h 96 (wr a1)) - a4)), aN], [], h)) (fun r1 h1 =>
    cond (decide ((wr r1) = 0))
    (some (some (-13), h1))
    (some (some 0, h1))))
    none)
  (cond (inb 4 a1)
    (cond (decide (0 ≤ (wr (h 95 (wr a1)))))
    (some (some (-12), h))
    (some (some (-11), h)))
    none))
  none := (ev_eq [] 300 _).symm
-- 117: NodBenchModel.cutTo(II)I
set_option maxRecDepth 20000 in
theorem e117_0 (a0 a1 : Int) (h : Hp) : X (117, 0, [aI a0, aI a1], [], h) = cond (decide ((wr a0) ≠ 0))
  (cond (decide ((wr a0) ≠ 1))
    (some (some a1, h))
    (some (some (jshr (jshl a1 16) 16), h)))
  (some (some (jshr (jshl a1 24) 24), h)) := (ev_eq [] 300 _).symm
-- 118: NodBenchModel.item(IIII)I
set_option maxRecDepth 20000 in
theorem e118_0 (a1 a2 a3 a4 : Int) (h : Hp) : X (118, 0, [aR 80, aI a1, aI a2, aI a3, aI a4, aN], [], h) = bI (X (113, 0, [aI a1, aI a2], [], h)) (fun r1 h1 =>
  cond (decide ((wr r1) ≠ 0))
  (bI (X (116, 0, [aR 80, aI a1, aI a2, aI a3, aI 1], [], h1)) (fun r2 h2 =>
    cond (decide (0 ≤ (wr r2)))
    (bI (X (117, 0, [aI a2, aI a4], [], h2)) (fun r3 h3 =>
      cond (inb 96 ((24 * a1) + a3))
      (some (some 1, (up h3 97 (wr ((24 * a1) + a3)) r3)))
      none))
    (some (some r2, h2))))
  (some (some (-1), h1))) := (ev_eq [] 300 _).symm
-- 119: NodBenchModel.crowd(IIII)I
set_option maxRecDepth 20000 in
theorem e119_0 (a1 a2 a3 a4 : Int) (h : Hp) : X (119, 0, [aR 80, aI a1, aI a2, aI a3, aI a4, aN, aN, aN], [], h) = bI (X (113, 0, [aI a1, aI a2], [], h)) (fun r1 h1 =>
  cond (decide ((wr r1) = 0))
  (some (some (-1), h1))
  (bI (X (41, 0, [aL (wr a4), aN, aL 1, aN, aL 6, aN], [], h1)) (fun r2 h2 =>
    cond (decide ((wr r2) ≠ 0))
    (bI (X (116, 0, [aR 80, aI a1, aI a2, aI a3, aI (4 * a4)], [], h2)) (fun r3 h3 =>
      cond (decide (0 ≤ (wr r3)))
      (X (119, 55, [aR 80, aI a1, aI a2, aI a3, aI a4, aI r3, aI ((24 * a1) + a3), aI 0], [], h3))
      (some (some r3, h3))))
    (some (some (-1), h2))))) := (ev_eq [55, 152] 300 _).symm
set_option maxRecDepth 20000 in
theorem e119_55 (v1 v2 v3 v4 v5 v6 v7 : Int) (h : Hp) : X (119, 55, [aR 80, aI v1, aI v2, aI v3, aI v4, aI v5, aI v6, aI v7], [], h) = cond (decide ((wr v4) ≤ (wr v7)))
  (cond (decide ((wr ((h 81 24) + v4)) ≤ 12))
    (X (119, 152, [aR 80, aI v1, aI v2, aI v3, aI v4, aI v5, aI v6, aI 0], [], h))
    (some (some (-3), h)))
  (cond (inb 96 (v6 + (4 * v7)))
    (cond (inb 96 ((v6 + (4 * v7)) + 1))
    (cond (inb 96 ((v6 + (4 * v7)) + 2))
    (cond (inb 96 ((v6 + (4 * v7)) + 3))
    (bI (X (48, 0, [aI (h 97 (wr (v6 + (4 * v7)))), aI (h 97 (wr ((v6 + (4 * v7)) + 1))), aI (h 97 (wr ((v6 + (4 * v7)) + 2))), aI (h 97 (wr ((v6 + (4 * v7)) + 3)))], [], h)) (fun r1 h1 =>
    cond (decide ((wr r1) ≠ 0))
    (X (119, 55, [aR 80, aI v1, aI v2, aI v3, aI v4, aI v5, aI v6, aI (v7 + 1)], [], h1))
    (some (some (-2), h1))))
    none)
    none)
    none)
    none) := (ev_eq [55, 152] 300 _).symm
set_option maxRecDepth 20000 in
theorem e119_152 (v1 v2 v3 v4 v5 v6 v7 : Int) (h : Hp) : X (119, 152, [aR 80, aI v1, aI v2, aI v3, aI v4, aI v5, aI v6, aI v7], [], h) = cond (decide ((wr v4) ≤ (wr v7)))
  (some (some v4, h))
  (cond (inb 96 (v6 + (4 * v7)))
    (cond (inb 96 ((v6 + (4 * v7)) + 1))
    (cond (inb 96 ((v6 + (4 * v7)) + 2))
    (cond (inb 96 ((v6 + (4 * v7)) + 3))
    (bV (X (51, 0, [aR 80, aI (h 97 (wr (v6 + (4 * v7)))), aI (h 97 (wr ((v6 + (4 * v7)) + 1))), aI (h 97 (wr ((v6 + (4 * v7)) + 2))), aI (h 97 (wr ((v6 + (4 * v7)) + 3))), aN], [], h)) (fun h1 =>
    X (119, 152, [aR 80, aI v1, aI v2, aI v3, aI v4, aI v5, aI v6, aI (v7 + 1)], [], h1)))
    none)
    none)
    none)
    none) := (ev_eq [55, 152] 300 _).symm
-- 120: NodBenchModel.film(III)I
set_option maxRecDepth 20000 in
theorem e120_0 (a1 a2 a3 : Int) (h : Hp) : X (120, 0, [aR 80, aI a1, aI a2, aI a3, aN, aN], [], h) = bI (X (113, 0, [aI a1, aI a2], [], h)) (fun r1 h1 =>
  cond (decide ((wr r1) ≠ 0))
  (bI (X (116, 0, [aR 80, aI a1, aI a2, aI a3, aI (h1 81 24)], [], h1)) (fun r2 h2 =>
    cond (decide (0 ≤ (wr r2)))
    (bV (X (69, 0, [aR 80], [], h2)) (fun h3 =>
      bV (X (83, 0, [aR 80, aI 239, aN, aN], [], h3)) (fun h4 =>
      X (120, 48, [aR 80, aI a1, aI a2, aI a3, aI r2, aI 0], [], h4))))
    (some (some r2, h2))))
  (some (some (-1), h1))) := (ev_eq [48] 300 _).symm
set_option maxRecDepth 20000 in
theorem e120_48 (v1 v2 v3 v4 v5 : Int) (h : Hp) : X (120, 48, [aR 80, aI v1, aI v2, aI v3, aI v4, aI v5], [], h) = cond (decide ((wr (h 81 24)) ≤ (wr v5)))
  (some (some (h 81 24), h))
  (cond (inb 12 v5)
    (bI (X (117, 0, [aI v2, aI (h 85 (wr v5))], [], h)) (fun r1 h1 =>
    cond (inb 96 (((24 * v1) + v3) + v5))
    (X (120, 48, [aR 80, aI v1, aI v2, aI v3, aI v4, aI (v5 + 1)], [], (up h1 97 (wr (((24 * v1) + v3) + v5)) r1)))
    none))
    none) := (ev_eq [48] 300 _).symm
-- 121: NodBench$Claims.add(II)V
set_option maxRecDepth 20000 in
theorem e121_0 {d : Nat} (hd : d = 24 ∨ d = 50 ∨ d = 66) (a1 a2 : Int) (h : Hp) : X (121, 0, [aR d, aI a1, aI a2], [], h) = cond (decide (12 ≤ (wr (h d 2))))
  (some (none, h))
  (cond (inb 12 (h d 2))
    (cond (inb 12 ((up h (d + 1) (wr (h d 2)) a1) d 2))
    (some (none, (up (up (up (up h (d + 1) (wr (h d 2)) a1) (d + 2) (wr ((up h (d + 1) (wr (h d 2)) a1) d 2)) a2) d 2 (((up (up h (d + 1) (wr (h d 2)) a1) (d + 2) (wr ((up h (d + 1) (wr (h d 2)) a1) d 2)) a2) d 2) + 1)) d 3 (-1))))
    none)
    none) := by
  rcases hd with rfl | rfl | rfl <;> exact (ev_eq [] 300 _).symm
-- 122: NodBench$Claims.clear()V
set_option maxRecDepth 20000 in
theorem e122_0 {d : Nat} (hd : d = 24 ∨ d = 50 ∨ d = 66) (h : Hp) : X (122, 0, [aR d], [], h) = some (none, (up (up h d 2 0) d 3 0)) := by
  rcases hd with rfl | rfl | rfl <;> exact (ev_eq [] 300 _).symm
-- 123: NodBench$Claims.copyFrom(LNodBench$Claims;)V
set_option maxRecDepth 20000 in
theorem e123_0 {d q1 : Nat} (hd : d = 24 ∨ d = 50 ∨ d = 66) (hq1 : q1 = 24 ∨ q1 = 50 ∨ q1 = 66) (h : Hp) : X (123, 0, [aR d, aR q1], [], h) = some (none, (up (up (cpy (cpy h (q1 + 1) (d + 1) 0 0 12) (q1 + 2) (d + 2) 0 0 12) d 2 ((cpy (cpy h (q1 + 1) (d + 1) 0 0 12) (q1 + 2) (d + 2) 0 0 12) q1 2)) d 3 ((up (cpy (cpy h (q1 + 1) (d + 1) 0 0 12) (q1 + 2) (d + 2) 0 0 12) d 2 ((cpy (cpy h (q1 + 1) (d + 1) 0 0 12) (q1 + 2) (d + 2) 0 0 12) q1 2)) q1 3))) := by
  rcases hd with rfl | rfl | rfl <;> rcases hq1 with rfl | rfl | rfl <;> exact (ev_eq [] 300 _).symm
-- 124: NodBench$Claims.forget(I)V
set_option maxRecDepth 20000 in
theorem e124_0 {d : Nat} (hd : d = 24 ∨ d = 50 ∨ d = 66) (a1 : Int) (h : Hp) : X (124, 0, [aR d, aI a1, aN, aN], [], h) = X (124, 4, [aR d, aI a1, aI 0, aI 0], [], h) := by
  rcases hd with rfl | rfl | rfl <;> exact (ev_eq [4] 300 _).symm
set_option maxRecDepth 20000 in
theorem e124_4 {d : Nat} (hd : d = 24 ∨ d = 50 ∨ d = 66) (v1 v2 v3 : Int) (h : Hp) : X (124, 4, [aR d, aI v1, aI v2, aI v3], [], h) = cond (decide ((wr (h d 2)) ≤ (wr v3)))
  (some (none, (up (up h d 2 v2) d 3 (-1))))
  (cond (inb 12 v3)
    (cond (decide ((wr (h (d + 1) (wr v3))) = (wr v1)))
    (X (124, 4, [aR d, aI v1, aI v2, aI (v3 + 1)], [], h))
    (cond (inb 12 v3)
      (cond (decide ((wr (h (d + 2) (wr v3))) = (wr v1)))
      (X (124, 4, [aR d, aI v1, aI v2, aI (v3 + 1)], [], h))
      (cond (inb 12 v3)
        (cond (decide ((wr (h (d + 1) (wr v3))) ≤ (wr v1)))
        (cond (inb 12 v3)
          (cond (inb 12 v2)
          (cond (inb 12 v3)
          (cond (decide ((wr ((up h (d + 1) (wr v2) (h (d + 1) (wr v3))) (d + 2) (wr v3))) ≤ (wr v1)))
          (cond (inb 12 v3)
            (cond (inb 12 v2)
            (X (124, 4, [aR d, aI v1, aI (v2 + 1), aI (v3 + 1)], [], (up (up h (d + 1) (wr v2) (h (d + 1) (wr v3))) (d + 2) (wr v2) ((up h (d + 1) (wr v2) (h (d + 1) (wr v3))) (d + 2) (wr v3)))))
            none)
            none)
          (cond (inb 12 v3)
            (cond (inb 12 v2)
            (X (124, 4, [aR d, aI v1, aI (v2 + 1), aI (v3 + 1)], [], (up (up h (d + 1) (wr v2) (h (d + 1) (wr v3))) (d + 2) (wr v2) (((up h (d + 1) (wr v2) (h (d + 1) (wr v3))) (d + 2) (wr v3)) - 1))))
            none)
            none))
          none)
          none)
          none)
        (cond (inb 12 v3)
          (cond (inb 12 v2)
          (cond (inb 12 v3)
          (cond (decide ((wr ((up h (d + 1) (wr v2) ((h (d + 1) (wr v3)) - 1)) (d + 2) (wr v3))) ≤ (wr v1)))
          (cond (inb 12 v3)
            (cond (inb 12 v2)
            (X (124, 4, [aR d, aI v1, aI (v2 + 1), aI (v3 + 1)], [], (up (up h (d + 1) (wr v2) ((h (d + 1) (wr v3)) - 1)) (d + 2) (wr v2) ((up h (d + 1) (wr v2) ((h (d + 1) (wr v3)) - 1)) (d + 2) (wr v3)))))
            none)
            none)
          (cond (inb 12 v3)
            (cond (inb 12 v2)
            (X (124, 4, [aR d, aI v1, aI (v2 + 1), aI (v3 + 1)], [], (up (up h (d + 1) (wr v2) ((h (d + 1) (wr v3)) - 1)) (d + 2) (wr v2) (((up h (d + 1) (wr v2) ((h (d + 1) (wr v3)) - 1)) (d + 2) (wr v3)) - 1))))
            none)
            none))
          none)
          none)
          none))
        none))
      none))
    none) := by
  rcases hd with rfl | rfl | rfl <;> exact (ev_eq [4] 300 _).symm
-- 125: NodBench$Claims.fewestFalse()I
set_option maxRecDepth 20000 in
theorem e125_0 {d : Nat} (hd : d = 24 ∨ d = 50 ∨ d = 66) (h : Hp) : X (125, 0, [aR d], [], h) = cond (decide ((wr (h d 3)) ≠ (-1)))
  (some (some (h d 3), h))
  (bI (X (128, 0, [aR d, aN, aN, aN, aN], [], h)) (fun r1 h1 =>
    some (some ((up h1 d 3 r1) d 3), (up h1 d 3 r1)))) := by
  rcases hd with rfl | rfl | rfl <;> exact (ev_eq [] 300 _).symm
-- 126: NodBench$Claims.held()I
set_option maxRecDepth 20000 in
theorem e126_0 {d : Nat} (hd : d = 24 ∨ d = 50 ∨ d = 66) (h : Hp) : X (126, 0, [aR d], [], h) = bI (X (125, 0, [aR d], [], h)) (fun r1 h1 =>
  some (some (jand ((jshl 1 (h d 2)) - 1) (jxor r1 (-1))), h1)) := by
  rcases hd with rfl | rfl | rfl <;> exact (ev_eq [] 300 _).symm
-- 127: NodBench$Claims.behindOthers(II)I
set_option maxRecDepth 20000 in
theorem e127_0 {d : Nat} (hd : d = 24 ∨ d = 50 ∨ d = 66) (a1 a2 : Int) (h : Hp) : X (127, 0, [aR d, aI a1, aI a2, aN, aN], [], h) = X (127, 5, [aR d, aI a1, aI a2, aI 0, aI 0], [], h) := by
  rcases hd with rfl | rfl | rfl <;> exact (ev_eq [5] 300 _).symm
set_option maxRecDepth 20000 in
theorem e127_5 {d : Nat} (hd : d = 24 ∨ d = 50 ∨ d = 66) (v1 v2 v3 v4 : Int) (h : Hp) : X (127, 5, [aR d, aI v1, aI v2, aI v3, aI v4], [], h) = cond (decide ((wr (h d 2)) ≤ (wr v4)))
  (some (some v3, h))
  (cond (decide ((wr (jand (jshr v1 v4) 1)) = 0))
    (X (127, 5, [aR d, aI v1, aI v2, aI v3, aI (v4 + 1)], [], h))
    (cond (inb 12 v4)
      (cond (decide ((wr (jand (jshr v2 (h (d + 1) (wr v4))) 1)) = 0))
      (X (127, 5, [aR d, aI v1, aI v2, aI v3, aI (v4 + 1)], [], h))
      (cond (inb 12 v4)
        (X (127, 5, [aR d, aI v1, aI v2, aI (jor v3 (jshl 1 (h (d + 2) (wr v4)))), aI (v4 + 1)], [], h))
        none))
      none)) := by
  rcases hd with rfl | rfl | rfl <;> exact (ev_eq [5] 300 _).symm
-- 128: NodBench$Claims.findFewestFalse()I
set_option maxRecDepth 20000 in
theorem e128_0 {d : Nat} (hd : d = 24 ∨ d = 50 ∨ d = 66) (h : Hp) : X (128, 0, [aR d, aN, aN, aN, aN], [], h) = X (128, 21, [aR d, aI ((jshl 1 (h d 2)) - 1), aI ((jshl 1 (h d 2)) - 1), aI ((h d 2) + 1), aI 0], [], h) := by
  rcases hd with rfl | rfl | rfl <;> exact (ev_eq [21] 300 _).symm
set_option maxRecDepth 20000 in
theorem e128_21 {d : Nat} (hd : d = 24 ∨ d = 50 ∨ d = 66) (v1 v2 v3 v4 : Int) (h : Hp) : X (128, 21, [aR d, aI v1, aI v2, aI v3, aI v4], [], h) = cond (decide ((wr v1) < (wr v4)))
  (some (some v2, h))
  (cond (decide ((wr v3) ≤ 0))
    (some (some v2, h))
    (bI (X (186, 0, [aI v4], [], h)) (fun r1 h1 =>
      cond (decide ((wr v3) ≤ (wr r1)))
      (X (128, 21, [aR d, aI v1, aI v2, aI v3, aI (v4 + 1)], [], h1))
      (bI (X (129, 0, [aR d, aI (jand v1 (jxor v4 (-1))), aN, aN], [], h1)) (fun r2 h2 =>
        cond (decide ((wr r2) = 0))
        (X (128, 21, [aR d, aI v1, aI v2, aI v3, aI (v4 + 1)], [], h2))
        (bI (X (186, 0, [aI v4], [], h2)) (fun r3 h3 =>
          X (128, 21, [aR d, aI v1, aI v4, aI r3, aI (v4 + 1)], [], h3)))))))) := by
  rcases hd with rfl | rfl | rfl <;> exact (ev_eq [21] 300 _).symm
-- 129: NodBench$Claims.canBeTrue(I)Z
set_option maxRecDepth 20000 in
theorem e129_0 {d : Nat} (hd : d = 24 ∨ d = 50 ∨ d = 66) (a1 : Int) (h : Hp) : X (129, 0, [aR d, aI a1, aN, aN], [], h) = X (129, 6, [aR d, aI a1, aI 4095, aI 0], [], h) := by
  rcases hd with rfl | rfl | rfl <;> exact (ev_eq [6] 300 _).symm
set_option maxRecDepth 20000 in
theorem e129_6 {d : Nat} (hd : d = 24 ∨ d = 50 ∨ d = 66) (v1 v2 v3 : Int) (h : Hp) : X (129, 6, [aR d, aI v1, aI v2, aI v3], [], h) = cond (decide (12 ≤ (wr v3)))
  (cond (decide ((wr v2) ≠ 0))
    (some (some 0, h))
    (some (some 1, h)))
  (cond (decide ((wr v2) = 0))
    (cond (decide ((wr v2) ≠ 0))
      (some (some 0, h))
      (some (some 1, h)))
    (bI (X (127, 0, [aR d, aI v1, aI v2, aN, aN], [], h)) (fun r1 h1 =>
      X (129, 6, [aR d, aI v1, aI (jand v2 r1), aI (v3 + 1)], [], h1)))) := by
  rcases hd with rfl | rfl | rfl <;> exact (ev_eq [6] 300 _).symm
-- 130: NodBench$Day.play(I)V
set_option maxRecDepth 20000 in
theorem e130_0 {d : Nat} (hd : d = 1 ∨ d = 27) (a1 : Int) (h : Hp) : X (130, 0, [aR d, aI a1, aN], [], h) = bV (X (131, 0, [aR d, aN], [], (up h d 14 a1))) (fun h1 =>
  X (130, 11, [aR d, aI a1, aI 0], [], h1)) := by
  rcases hd with rfl | rfl <;> exact (ev_eq [11, 48] 300 _).symm
set_option maxRecDepth 20000 in
theorem e130_11 {d : Nat} (hd : d = 1 ∨ d = 27) (v1 v2 : Int) (h : Hp) : X (130, 11, [aR d, aI v1, aI v2], [], h) = cond (decide (240 ≤ (wr v2)))
  (X (130, 48, [aR d, aI v1, aI 0], [], h))
  (bV (X (133, 0, [aR d, aI v2, aN, aN, aN, aN], [], h)) (fun h1 =>
    cond (decide ((wr (h1 d 11)) ≤ 0))
    (X (130, 11, [aR d, aI v1, aI (v2 + 1)], [], h1))
    (bV (X (134, 0, [aR d, aI v2, aN, aN, aN, aN], [], h1)) (fun h2 =>
      bV (X (136, 0, [aR d, aI v2, aN, aN, aN, aN], [], h2)) (fun h3 =>
      X (130, 11, [aR d, aI v1, aI (v2 + 1)], [], h3)))))) := by
  rcases hd with rfl | rfl <;> exact (ev_eq [11, 48] 300 _).symm
set_option maxRecDepth 20000 in
theorem e130_48 {d : Nat} (hd : d = 1 ∨ d = 27) (v1 v2 : Int) (h : Hp) : X (130, 48, [aR d, aI v1, aI v2], [], h) = cond (decide ((wr (h (d + 18) 4)) ≤ (wr v2)))
  (some (none, h))
  (cond (inb 12 v2)
    (cond (decide ((wr (h (d + 1) (wr v2))) ≠ 4))
    (X (130, 48, [aR d, aI v1, aI (v2 + 1)], [], h))
    (cond (inb 12 v2)
      (cond (inb 12 v2)
      (X (130, 48, [aR d, aI v1, aI (v2 + 1)], [], (up h (d + 2) (wr v2) (240 - (h (d + 19) (wr v2))))))
      none)
      none))
    none) := by
  rcases hd with rfl | rfl <;> exact (ev_eq [11, 48] 300 _).symm
-- 131: NodBench$Day.prepare()V
set_option maxRecDepth 20000 in
theorem e131_0 {d : Nat} (hd : d = 1 ∨ d = 27) (h : Hp) : X (131, 0, [aR d, aN], [], h) = X (131, 22, [aR d, aI 0], [], (up (up (up (up h d 10 0) d 11 0) d 12 0) d 13 0)) := by
  rcases hd with rfl | rfl <;> exact (ev_eq [22, 42] 300 _).symm
set_option maxRecDepth 20000 in
theorem e131_22 {d : Nat} (hd : d = 1 ∨ d = 27) (v1 : Int) (h : Hp) : X (131, 22, [aR d, aI v1], [], h) = cond (decide (3 ≤ (wr v1)))
  (X (131, 42, [aR d, aI 0], [], h))
  (cond (inb 3 v1)
    (X (131, 22, [aR d, aI (v1 + 1)], [], (up h (d + 9) (wr v1) 0)))
    none) := by
  rcases hd with rfl | rfl <;> exact (ev_eq [22, 42] 300 _).symm
set_option maxRecDepth 20000 in
theorem e131_42 {d : Nat} (hd : d = 1 ∨ d = 27) (v1 : Int) (h : Hp) : X (131, 42, [aR d, aI v1], [], h) = cond (decide ((wr (h (d + 18) 4)) ≤ (wr v1)))
  (some (none, h))
  (cond (inb 12 v1)
    (cond (inb 12 v1)
    (cond (inb 12 v1)
    (cond (inb 12 v1)
    (cond (inb 12 v1)
    (bI (X (162, 0, [aR (d + 18), aI v1], [], (up (up (up (up (up h (d + 1) (wr v1) 0) (d + 2) (wr v1) 0) (d + 3) (wr v1) (-4)) (d + 4) (wr v1) (-4)) (d + 5) (wr v1) 0))) (fun r1 h1 =>
    cond (inb 12 v1)
    (cond (inb 12 v1)
    (cond (decide ((wr ((up h1 (d + 6) (wr v1) r1) (d + 20) (wr v1))) ≠ 4))
    (cond (inb 12 v1)
      (cond (inb 12 v1)
      (bV (X (132, 0, [aR d, aI v1, aN, aN], [], (up (up h1 (d + 6) (wr v1) r1) (d + 7) (wr v1) ((up h1 (d + 6) (wr v1) r1) (d + 19) (wr v1))))) (fun h2 =>
      X (131, 42, [aR d, aI (v1 + 1)], [], h2)))
      none)
      none)
    (cond (inb 12 v1)
      (cond (inb 12 v1)
      (bV (X (132, 0, [aR d, aI v1, aN, aN], [], (up (up h1 (d + 6) (wr v1) r1) (d + 7) (wr v1) ((up h1 (d + 6) (wr v1) r1) (d + 22) (wr v1))))) (fun h3 =>
      X (131, 42, [aR d, aI (v1 + 1)], [], h3)))
      none)
      none))
    none)
    none))
    none)
    none)
    none)
    none)
    none) := by
  rcases hd with rfl | rfl <;> exact (ev_eq [22, 42] 300 _).symm
-- 132: NodBench$Day.putInLine(I)V
set_option maxRecDepth 20000 in
theorem e132_0 {d : Nat} (hd : d = 1 ∨ d = 27) (a1 : Int) (h : Hp) : X (132, 0, [aR d, aI a1, aN, aN], [], h) = X (132, 13, [aR d, aI a1, aR (d + 19), aI a1], [], h) := by
  rcases hd with rfl | rfl <;> exact (ev_eq [13] 300 _).symm
set_option maxRecDepth 20000 in
theorem e132_13 {d : Nat} (hd : d = 1 ∨ d = 27) (v1 v3 : Int) (h : Hp) : X (132, 13, [aR d, aI v1, aR (d + 19), aI v3], [], h) = cond (decide ((wr v3) ≤ 0))
  (cond (inb 12 v3)
    (some (none, (up h (d + 8) (wr v3) v1)))
    none)
  (cond (inb 12 (v3 - 1))
    (cond (inb 12 (h (d + 8) (wr (v3 - 1))))
    (cond (inb 12 v1)
    (cond (decide ((wr (h (d + 19) (wr (h (d + 8) (wr (v3 - 1)))))) ≤ (wr (h (d + 19) (wr v1)))))
    (cond (inb 12 v3)
      (some (none, (up h (d + 8) (wr v3) v1)))
      none)
    (cond (inb 12 (v3 - 1))
      (cond (inb 12 v3)
      (X (132, 13, [aR d, aI v1, aR (d + 19), aI (v3 + (-1))], [], (up h (d + 8) (wr v3) (h (d + 8) (wr (v3 - 1))))))
      none)
      none))
    none)
    none)
    none) := by
  rcases hd with rfl | rfl <;> exact (ev_eq [13] 300 _).symm
-- 133: NodBench$Day.letIn(I)V
set_option maxRecDepth 20000 in
theorem e133_0 {d : Nat} (hd : d = 1 ∨ d = 27) (a1 : Int) (h : Hp) : X (133, 0, [aR d, aI a1, aN, aN, aN, aN], [], h) = X (133, 11, [aR d, aI a1, aR (d + 12), aN, aN, aN], [], h) := by
  rcases hd with rfl | rfl <;> exact (ev_eq [11] 300 _).symm
set_option maxRecDepth 20000 in
theorem e133_11 {d : Nat} (hd : d = 1 ∨ d = 27) (v1 : Int) (w3 w4 w5 : AV) (h : Hp) : X (133, 11, [aR d, aI v1, aR (d + 12), w3, w4, w5], [], h) = cond (decide ((wr (h (d + 18) 4)) ≤ (wr (h d 10))))
  (some (none, h))
  (cond (inb 12 (h d 10))
    (cond (inb 12 (h (d + 8) (wr (h d 10))))
    (cond (decide ((wr (h (d + 19) (wr (h (d + 8) (wr (h d 10)))))) ≠ (wr v1)))
    (some (none, h))
    (cond (inb 12 (h d 10))
      (cond (inb 12 (h (d + 8) (wr (h d 10))))
      (cond (decide ((wr (((up h d 10 ((h d 10) + 1)) d 12) + ((up h d 10 ((h d 10) + 1)) (d + 6) (wr (h (d + 8) (wr (h d 10))))))) ≤ (wr ((up h d 10 ((h d 10) + 1)) (d + 12) 0))))
      (cond (decide ((wr (jdiv (((up h d 10 ((h d 10) + 1)) (d + 12) 1) * ((up h d 10 ((h d 10) + 1)) d 11)) 2)) ≤ (wr ((up h d 10 ((h d 10) + 1)) (d + 12) 2))))
        (cond (inb 12 (h (d + 8) (wr (h d 10))))
          (cond (inb 12 (h (d + 8) (wr (h d 10))))
          (X (133, 11, [aR d, aI v1, aR (d + 12), aI (h (d + 8) (wr (h d 10))), aI 0, aI 0], [], (up (up (up (up h d 10 ((h d 10) + 1)) (d + 1) (wr (h (d + 8) (wr (h d 10)))) 4) d 11 (((up (up h d 10 ((h d 10) + 1)) (d + 1) (wr (h (d + 8) (wr (h d 10)))) 4) d 11) + 1)) d 12 (((up (up (up h d 10 ((h d 10) + 1)) (d + 1) (wr (h (d + 8) (wr (h d 10)))) 4) d 11 (((up (up h d 10 ((h d 10) + 1)) (d + 1) (wr (h (d + 8) (wr (h d 10)))) 4) d 11) + 1)) d 12) + ((up (up (up h d 10 ((h d 10) + 1)) (d + 1) (wr (h (d + 8) (wr (h d 10)))) 4) d 11 (((up (up h d 10 ((h d 10) + 1)) (d + 1) (wr (h (d + 8) (wr (h d 10)))) 4) d 11) + 1)) (d + 6) (wr (h (d + 8) (wr (h d 10)))))))))
          none)
          none)
        (cond (inb 12 (h (d + 8) (wr (h d 10))))
          (X (133, 11, [aR d, aI v1, aR (d + 12), aI (h (d + 8) (wr (h d 10))), aI 0, aI 1], [], (up (up h d 10 ((h d 10) + 1)) (d + 1) (wr (h (d + 8) (wr (h d 10)))) 1)))
          none))
      (cond (decide ((wr (jdiv (((up h d 10 ((h d 10) + 1)) (d + 12) 1) * ((up h d 10 ((h d 10) + 1)) d 11)) 2)) ≤ (wr ((up h d 10 ((h d 10) + 1)) (d + 12) 2))))
        (cond (inb 12 (h (d + 8) (wr (h d 10))))
          (X (133, 11, [aR d, aI v1, aR (d + 12), aI (h (d + 8) (wr (h d 10))), aI 1, aI 0], [], (up (up h d 10 ((h d 10) + 1)) (d + 1) (wr (h (d + 8) (wr (h d 10)))) 1)))
          none)
        (cond (inb 12 (h (d + 8) (wr (h d 10))))
          (X (133, 11, [aR d, aI v1, aR (d + 12), aI (h (d + 8) (wr (h d 10))), aI 1, aI 1], [], (up (up h d 10 ((h d 10) + 1)) (d + 1) (wr (h (d + 8) (wr (h d 10)))) 1)))
          none)))
      none)
      none))
    none)
    none) := by
  rcases hd with rfl | rfl <;> exact (ev_eq [11] 300 _).symm
-- 134: NodBench$Day.moveAbout(I)V
set_option maxRecDepth 20000 in
theorem e134_0 {d : Nat} (hd : d = 1 ∨ d = 27) (a1 : Int) (h : Hp) : X (134, 0, [aR d, aI a1, aN, aN, aN, aN], [], h) = X (134, 2, [aR d, aI a1, aI 0, aN, aN, aN], [], h) := by
  rcases hd with rfl | rfl <;> exact (ev_eq [2] 300 _).symm
set_option maxRecDepth 20000 in
theorem e134_2 {d : Nat} (hd : d = 1 ∨ d = 27) (v1 v2 : Int) (w3 w4 w5 : AV) (h : Hp) : X (134, 2, [aR d, aI v1, aI v2, w3, w4, w5], [], h) = cond (decide ((wr (h (d + 18) 4)) ≤ (wr v2)))
  (some (none, h))
  (cond (inb 12 v2)
    (cond (decide ((wr (h (d + 1) (wr v2))) = 4))
    (cond (inb 12 v2)
      (cond (inb 12 v2)
      (cond (inb 12 v2)
      (cond (decide ((wr (h (d + 20) (wr v2))) ≠ 5))
      (cond (decide ((wr (h (d + 20) (wr v2))) ≠ 3))
        (X (134, 2, [aR d, aI v1, aI (v2 + 1), aI (h (d + 20) (wr v2)), aI (v1 - (h (d + 19) (wr v2))), aI (h (d + 22) (wr v2))], [], h))
        (cond (decide ((wr (v1 - (h (d + 19) (wr v2)))) ≠ (wr (5 + (h (d + 22) (wr v2))))))
          (X (134, 2, [aR d, aI v1, aI (v2 + 1), aI (h (d + 20) (wr v2)), aI (v1 - (h (d + 19) (wr v2))), aI (h (d + 22) (wr v2))], [], h))
          (cond (decide ((wr (h (d + 12) 6)) ≠ 0))
            (X (134, 2, [aR d, aI v1, aI (v2 + 1), aI (h (d + 20) (wr v2)), aI (v1 - (h (d + 19) (wr v2))), aI (h (d + 22) (wr v2))], [], h))
            (cond (inb 12 v2)
              (X (134, 2, [aR d, aI v1, aI (v2 + 1), aI (h (d + 20) (wr v2)), aI (v1 - (h (d + 19) (wr v2))), aI (h (d + 22) (wr v2))], [], (up h (d + 7) (wr v2) v1)))
              none))))
      (cond (decide ((wr (v1 - (h (d + 19) (wr v2)))) < (wr (h (d + 22) (wr v2)))))
        (cond (decide ((wr (h (d + 20) (wr v2))) ≠ 3))
          (X (134, 2, [aR d, aI v1, aI (v2 + 1), aI (h (d + 20) (wr v2)), aI (v1 - (h (d + 19) (wr v2))), aI (h (d + 22) (wr v2))], [], h))
          (cond (decide ((wr (v1 - (h (d + 19) (wr v2)))) ≠ (wr (5 + (h (d + 22) (wr v2))))))
            (X (134, 2, [aR d, aI v1, aI (v2 + 1), aI (h (d + 20) (wr v2)), aI (v1 - (h (d + 19) (wr v2))), aI (h (d + 22) (wr v2))], [], h))
            (cond (decide ((wr (h (d + 12) 6)) ≠ 0))
              (X (134, 2, [aR d, aI v1, aI (v2 + 1), aI (h (d + 20) (wr v2)), aI (v1 - (h (d + 19) (wr v2))), aI (h (d + 22) (wr v2))], [], h))
              (cond (inb 12 v2)
                (X (134, 2, [aR d, aI v1, aI (v2 + 1), aI (h (d + 20) (wr v2)), aI (v1 - (h (d + 19) (wr v2))), aI (h (d + 22) (wr v2))], [], (up h (d + 7) (wr v2) v1)))
                none))))
        (bV (X (135, 0, [aR d, aI v2, aI 2, aI v1], [], h)) (fun h1 =>
          X (134, 2, [aR d, aI v1, aI (v2 + 1), aI (h (d + 20) (wr v2)), aI (v1 - (h (d + 19) (wr v2))), aI (h (d + 22) (wr v2))], [], h1)))))
      none)
      none)
      none)
    (X (134, 2, [aR d, aI v1, aI (v2 + 1), w3, w4, w5], [], h)))
    none) := by
  rcases hd with rfl | rfl <;> exact (ev_eq [2] 300 _).symm
-- 135: NodBench$Day.leaveBench(III)V
set_option maxRecDepth 20000 in
theorem e135_0 {d : Nat} (hd : d = 1 ∨ d = 27) (a1 a2 a3 : Int) (h : Hp) : X (135, 0, [aR d, aI a1, aI a2, aI a3], [], h) = cond (inb 12 a1)
  (cond (inb 12 a1)
  (cond (inb 12 a1)
  (cond (inb 12 a1)
  (some (none, (up (up (up (up h (d + 1) (wr a1) a2) (d + 2) (wr a1) (a3 - ((up h (d + 1) (wr a1) a2) (d + 19) (wr a1)))) d 11 (((up (up h (d + 1) (wr a1) a2) (d + 2) (wr a1) (a3 - ((up h (d + 1) (wr a1) a2) (d + 19) (wr a1)))) d 11) - 1)) d 12 (((up (up (up h (d + 1) (wr a1) a2) (d + 2) (wr a1) (a3 - ((up h (d + 1) (wr a1) a2) (d + 19) (wr a1)))) d 11 (((up (up h (d + 1) (wr a1) a2) (d + 2) (wr a1) (a3 - ((up h (d + 1) (wr a1) a2) (d + 19) (wr a1)))) d 11) - 1)) d 12) - ((up (up (up h (d + 1) (wr a1) a2) (d + 2) (wr a1) (a3 - ((up h (d + 1) (wr a1) a2) (d + 19) (wr a1)))) d 11 (((up (up h (d + 1) (wr a1) a2) (d + 2) (wr a1) (a3 - ((up h (d + 1) (wr a1) a2) (d + 19) (wr a1)))) d 11) - 1)) (d + 6) (wr a1))))))
  none)
  none)
  none)
  none := by
  rcases hd with rfl | rfl <;> exact (ev_eq [] 300 _).symm
-- 136: NodBench$Day.serve(I)V
set_option maxRecDepth 20000 in
theorem e136_0 {d : Nat} (hd : d = 1 ∨ d = 27) (a1 : Int) (h : Hp) : X (136, 0, [aR d, aI a1, aN, aN, aN, aN], [], h) = X (136, 13, [aR d, aI a1, aR (d + 12), aI 0, aN, aN], [], h) := by
  rcases hd with rfl | rfl <;> exact (ev_eq [13] 300 _).symm
set_option maxRecDepth 20000 in
theorem e136_13 {d : Nat} (hd : d = 1 ∨ d = 27) (v1 v3 : Int) (w4 w5 : AV) (h : Hp) : X (136, 13, [aR d, aI v1, aR (d + 12), aI v3, w4, w5], [], h) = cond (decide (3 ≤ (wr v3)))
  (some (none, h))
  (cond (inb 3 v3)
    (cond (decide ((wr v1) < (wr (h (d + 9) (wr v3)))))
    (X (136, 13, [aR d, aI v1, aR (d + 12), aI (v3 + 1), aI 0, w5], [], h))
    (cond (decide ((wr v3) = (wr (h d 14))))
      (X (136, 13, [aR d, aI v1, aR (d + 12), aI (v3 + 1), aI 0, w5], [], h))
      (cond (decide ((wr v3) < 2))
        (bI (X (138, 0, [aR d, aI v3, aI v1, aI (h (d + 12) 7), aN, aN], [], h)) (fun r1 h1 =>
          cond (decide ((wr r1) = (-1)))
          (cond (decide ((wr r1) = (-1)))
            (X (136, 13, [aR d, aI v1, aR (d + 12), aI (v3 + 1), aI 1, aI r1], [], h1))
            (bV (X (137, 0, [aR d, aI r1, aI v3, aI v1], [], h1)) (fun h2 =>
              X (136, 13, [aR d, aI v1, aR (d + 12), aI (v3 + 1), aI 1, aI r1], [], h2))))
          (bI (X (139, 0, [aR d, aI r1, aI v3, aI v1, aI (h1 (d + 12) 7), aN], [], h1)) (fun r3 h3 =>
            cond (decide ((wr r3) = 0))
            (cond (decide ((wr r1) = (-1)))
              (X (136, 13, [aR d, aI v1, aR (d + 12), aI (v3 + 1), aI 1, aI r1], [], h3))
              (bV (X (137, 0, [aR d, aI r1, aI v3, aI v1], [], h3)) (fun h4 =>
                X (136, 13, [aR d, aI v1, aR (d + 12), aI (v3 + 1), aI 1, aI r1], [], h4))))
            (bI (X (138, 0, [aR d, aI v3, aI v1, aI 0, aN, aN], [], (up h3 d 13 ((h3 d 13) + 1)))) (fun r5 h5 =>
              cond (decide ((wr r5) = (-1)))
              (X (136, 13, [aR d, aI v1, aR (d + 12), aI (v3 + 1), aI 1, aI r5], [], h5))
              (bV (X (137, 0, [aR d, aI r5, aI v3, aI v1], [], h5)) (fun h6 =>
                X (136, 13, [aR d, aI v1, aR (d + 12), aI (v3 + 1), aI 1, aI r5], [], h6)))))))))
        (cond (decide ((wr (h d 11)) < (wr (h (d + 12) 5))))
          (X (136, 13, [aR d, aI v1, aR (d + 12), aI (v3 + 1), aI 1, w5], [], h))
          (bI (X (138, 0, [aR d, aI v3, aI v1, aI (h (d + 12) 7), aN, aN], [], h)) (fun r7 h7 =>
            cond (decide ((wr r7) = (-1)))
            (cond (decide ((wr r7) = (-1)))
              (X (136, 13, [aR d, aI v1, aR (d + 12), aI (v3 + 1), aI 1, aI r7], [], h7))
              (bV (X (137, 0, [aR d, aI r7, aI v3, aI v1], [], h7)) (fun h8 =>
                X (136, 13, [aR d, aI v1, aR (d + 12), aI (v3 + 1), aI 1, aI r7], [], h8))))
            (bI (X (139, 0, [aR d, aI r7, aI v3, aI v1, aI (h7 (d + 12) 7), aN], [], h7)) (fun r9 h9 =>
              cond (decide ((wr r9) = 0))
              (cond (decide ((wr r7) = (-1)))
                (X (136, 13, [aR d, aI v1, aR (d + 12), aI (v3 + 1), aI 1, aI r7], [], h9))
                (bV (X (137, 0, [aR d, aI r7, aI v3, aI v1], [], h9)) (fun h10 =>
                  X (136, 13, [aR d, aI v1, aR (d + 12), aI (v3 + 1), aI 1, aI r7], [], h10))))
              (bI (X (138, 0, [aR d, aI v3, aI v1, aI 0, aN, aN], [], (up h9 d 13 ((h9 d 13) + 1)))) (fun r11 h11 =>
                cond (decide ((wr r11) = (-1)))
                (X (136, 13, [aR d, aI v1, aR (d + 12), aI (v3 + 1), aI 1, aI r11], [], h11))
                (bV (X (137, 0, [aR d, aI r11, aI v3, aI v1], [], h11)) (fun h12 =>
                  X (136, 13, [aR d, aI v1, aR (d + 12), aI (v3 + 1), aI 1, aI r11], [], h12)))))))))))))
    none) := by
  rcases hd with rfl | rfl <;> exact (ev_eq [13] 300 _).symm
-- 137: NodBench$Day.begin(III)V
set_option maxRecDepth 20000 in
theorem e137_0 {d : Nat} (hd : d = 1 ∨ d = 27) (a1 a2 a3 : Int) (h : Hp) : X (137, 0, [aR d, aI a1, aI a2, aI a3], [], h) = bV (X (135, 0, [aR d, aI a1, aI 3, aI a3], [], h)) (fun h1 =>
  cond (inb 12 a1)
  (cond (inb 12 a1)
  (bI (X (143, 0, [aR d, aI a1, aI a2, aN, aN], [], (up (up h1 (d + 3) (wr a1) a3) (d + 4) (wr a1) a2))) (fun r2 h2 =>
  cond (inb 12 a1)
  (cond (inb 12 a1)
  (cond (inb 3 a2)
  (some (none, (up (up h2 (d + 5) (wr a1) r2) (d + 9) (wr a2) ((a3 + ((up h2 (d + 5) (wr a1) r2) (d + 5) (wr a1))) + ((up h2 (d + 5) (wr a1) r2) (d + 12) 3)))))
  none)
  none)
  none))
  none)
  none) := by
  rcases hd with rfl | rfl <;> exact (ev_eq [] 300 _).symm
-- 138: NodBench$Day.leader(III)I
set_option maxRecDepth 20000 in
theorem e138_0 {d : Nat} (hd : d = 1 ∨ d = 27) (a1 a2 a3 : Int) (h : Hp) : X (138, 0, [aR d, aI a1, aI a2, aI a3, aN, aN], [], h) = X (138, 6, [aR d, aI a1, aI a2, aI a3, aI (-1), aI 0], [], h) := by
  rcases hd with rfl | rfl <;> exact (ev_eq [6] 300 _).symm
set_option maxRecDepth 20000 in
theorem e138_6 {d : Nat} (hd : d = 1 ∨ d = 27) (v1 v2 v3 v4 v5 : Int) (h : Hp) : X (138, 6, [aR d, aI v1, aI v2, aI v3, aI v4, aI v5], [], h) = cond (decide ((wr (h (d + 18) 4)) ≤ (wr v5)))
  (some (some v4, h))
  (bI (X (140, 0, [aR d, aI v5, aI v1, aI v2], [], h)) (fun r1 h1 =>
    cond (decide ((wr r1) = 0))
    (X (138, 6, [aR d, aI v1, aI v2, aI v3, aI v4, aI (v5 + 1)], [], h1))
    (cond (decide ((wr v4) = (-1)))
      (X (138, 6, [aR d, aI v1, aI v2, aI v3, aI v5, aI (v5 + 1)], [], h1))
      (bI (X (142, 0, [aR d, aI v5, aI v4, aI v1, aI v3, aN, aN, aN], [], h1)) (fun r2 h2 =>
        cond (decide ((wr r2) = 0))
        (X (138, 6, [aR d, aI v1, aI v2, aI v3, aI v4, aI (v5 + 1)], [], h2))
        (X (138, 6, [aR d, aI v1, aI v2, aI v3, aI v5, aI (v5 + 1)], [], h2))))))) := by
  rcases hd with rfl | rfl <;> exact (ev_eq [6] 300 _).symm
-- 139: NodBench$Day.isBeaten(IIII)Z
set_option maxRecDepth 20000 in
theorem e139_0 {d : Nat} (hd : d = 1 ∨ d = 27) (a1 a2 a3 a4 : Int) (h : Hp) : X (139, 0, [aR d, aI a1, aI a2, aI a3, aI a4, aN], [], h) = X (139, 3, [aR d, aI a1, aI a2, aI a3, aI a4, aI 0], [], h) := by
  rcases hd with rfl | rfl <;> exact (ev_eq [3] 300 _).symm
set_option maxRecDepth 20000 in
theorem e139_3 {d : Nat} (hd : d = 1 ∨ d = 27) (v1 v2 v3 v4 v5 : Int) (h : Hp) : X (139, 3, [aR d, aI v1, aI v2, aI v3, aI v4, aI v5], [], h) = cond (decide ((wr (h (d + 18) 4)) ≤ (wr v5)))
  (some (some 0, h))
  (cond (decide ((wr v4) ≠ 1))
    (some (some 0, h))
    (cond (decide ((wr v5) = (wr v1)))
      (X (139, 3, [aR d, aI v1, aI v2, aI v3, aI v4, aI (v5 + 1)], [], h))
      (bI (X (140, 0, [aR d, aI v5, aI v2, aI v3], [], h)) (fun r1 h1 =>
        cond (decide ((wr r1) = 0))
        (X (139, 3, [aR d, aI v1, aI v2, aI v3, aI v4, aI (v5 + 1)], [], h1))
        (bI (X (142, 0, [aR d, aI v5, aI v1, aI v2, aI v4, aN, aN, aN], [], h1)) (fun r2 h2 =>
          cond (decide ((wr r2) = 0))
          (X (139, 3, [aR d, aI v1, aI v2, aI v3, aI v4, aI (v5 + 1)], [], h2))
          (some (some 1, h2)))))))) := by
  rcases hd with rfl | rfl <;> exact (ev_eq [3] 300 _).symm
-- 140: NodBench$Day.waitsFor(III)Z
set_option maxRecDepth 20000 in
theorem e140_0 {d : Nat} (hd : d = 1 ∨ d = 27) (a1 a2 a3 : Int) (h : Hp) : X (140, 0, [aR d, aI a1, aI a2, aI a3], [], h) = cond (inb 12 a1)
  (cond (decide ((wr (h (d + 1) (wr a1))) ≠ 4))
  (some (some 0, h))
  (bI (X (141, 0, [aR d, aI a1, aI a3, aN], [], h)) (fun r1 h1 =>
    cond (decide ((wr r1) = 0))
    (cond (inb 12 a1)
      (cond (decide ((wr (h1 (d + 20) (wr a1))) ≠ 1))
      (some (some 1, h1))
      (cond (inb 12 a1)
        (cond (decide ((wr (h1 (d + 22) (wr a1))) ≠ (wr a2)))
        (some (some 0, h1))
        (some (some 1, h1)))
        none))
      none)
    (some (some 0, h1)))))
  none := by
  rcases hd with rfl | rfl <;> exact (ev_eq [] 300 _).symm
-- 141: NodBench$Day.isOut(II)Z
set_option maxRecDepth 20000 in
theorem e141_0 {d : Nat} (hd : d = 1 ∨ d = 27) (a1 a2 : Int) (h : Hp) : X (141, 0, [aR d, aI a1, aI a2, aN], [], h) = cond (inb 12 a1)
  (cond (inb 12 a1)
  (cond (decide ((wr (h (d + 20) (wr a1))) ≠ 3))
  (some (some 0, h))
  (cond (decide ((wr ((a2 - (h (d + 19) (wr a1))) - 5)) < 0))
    (some (some 0, h))
    (cond (inb 12 a1)
      (cond (decide ((wr (h (d + 22) (wr a1))) ≤ (wr ((a2 - (h (d + 19) (wr a1))) - 5))))
      (some (some 0, h))
      (some (some 1, h)))
      none)))
  none)
  none := by
  rcases hd with rfl | rfl <;> exact (ev_eq [] 300 _).symm
-- 142: NodBench$Day.goesBefore(IIII)Z
set_option maxRecDepth 20000 in
theorem e142_0 {d : Nat} (hd : d = 1 ∨ d = 27) (a1 a2 a3 a4 : Int) (h : Hp) : X (142, 0, [aR d, aI a1, aI a2, aI a3, aI a4, aN, aN, aN], [], h) = cond (decide ((wr a4) ≠ 1))
  (cond (decide ((wr a4) ≠ 2))
    (cond (inb 12 a1)
      (cond (inb 12 a2)
      (cond (decide ((wr (h (d + 7) (wr a1))) < (wr (h (d + 7) (wr a2)))))
      (some (some 1, h))
      (cond (inb 12 a1)
        (cond (inb 12 a2)
        (cond (decide ((wr (h (d + 7) (wr a1))) ≠ (wr (h (d + 7) (wr a2)))))
        (some (some 0, h))
        (cond (decide ((wr a2) ≤ (wr a1)))
          (some (some 0, h))
          (some (some 1, h))))
        none)
        none))
      none)
      none)
    (bI (X (143, 0, [aR d, aI a1, aI a3, aN, aN], [], h)) (fun r1 h1 =>
      bI (X (143, 0, [aR d, aI a2, aI a3, aN, aN], [], h1)) (fun r2 h2 =>
      cond (decide ((wr (r1 - r2)) = 0))
      (cond (inb 12 a1)
        (cond (inb 12 a2)
        (cond (decide ((wr (h2 (d + 7) (wr a1))) < (wr (h2 (d + 7) (wr a2)))))
        (some (some 1, h2))
        (cond (inb 12 a1)
          (cond (inb 12 a2)
          (cond (decide ((wr (h2 (d + 7) (wr a1))) ≠ (wr (h2 (d + 7) (wr a2)))))
          (some (some 0, h2))
          (cond (decide ((wr a2) ≤ (wr a1)))
            (some (some 0, h2))
            (some (some 1, h2))))
          none)
          none))
        none)
        none)
      (cond (decide (0 ≤ (wr (r1 - r2))))
        (some (some 0, h2))
        (some (some 1, h2)))))))
  (cond (inb 12 a1)
    (cond (inb 12 a2)
    (bI (X (166, 0, [aR (d + 15), aI (h (d + 20) (wr a1)), aI (h (d + 20) (wr a2))], [], h)) (fun r3 h3 =>
    bI (X (166, 0, [aR (d + 15), aI (h (d + 20) (wr a2)), aI (h (d + 20) (wr a1))], [], h3)) (fun r4 h4 =>
    cond (decide ((wr r3) = (wr r4)))
    (cond (inb 12 a1)
      (cond (inb 12 a2)
      (cond (decide ((wr (h4 (d + 7) (wr a1))) < (wr (h4 (d + 7) (wr a2)))))
      (some (some 1, h4))
      (cond (inb 12 a1)
        (cond (inb 12 a2)
        (cond (decide ((wr (h4 (d + 7) (wr a1))) ≠ (wr (h4 (d + 7) (wr a2)))))
        (some (some 0, h4))
        (cond (decide ((wr a2) ≤ (wr a1)))
          (some (some 0, h4))
          (some (some 1, h4))))
        none)
        none))
      none)
      none)
    (cond (bz r3) (some (some r3, h4)) none))))
    none)
    none) := by
  rcases hd with rfl | rfl <;> exact (ev_eq [] 300 _).symm
-- 143: NodBench$Day.lengthOf(II)I
set_option maxRecDepth 20000 in
theorem e143_0 {d : Nat} (hd : d = 1 ∨ d = 27) (a1 a2 : Int) (h : Hp) : X (143, 0, [aR d, aI a1, aI a2, aN, aN], [], h) = cond (inb 12 a1)
  (cond (inb 12 ((a2 * 4) + (h (d + 21) (wr a1))))
  (cond (inb 12 a1)
  (cond (decide ((wr (h (d + 20) (wr a1))) ≠ 1))
  (cond (inb 12 a1)
    (some (some (((h (d + 13) (wr ((a2 * 4) + (h (d + 21) (wr a1))))) * (h (d + 6) (wr a1))) + 0), h))
    none)
  (cond (inb 12 a1)
    (some (some (((h (d + 13) (wr ((a2 * 4) + (h (d + 21) (wr a1))))) * (h (d + 6) (wr a1))) + (h (d + 12) 4)), h))
    none))
  none)
  none)
  none := by
  rcases hd with rfl | rfl <;> exact (ev_eq [] 300 _).symm
