/-! block equations, written by wip/whole/gen10.py -/
-- 171: NodBench$Room.copyFrom(LNodBench$Room;)V
set_option maxRecDepth 20000 in
theorem e171_0 {d q1 : Nat} (hd : d = 11 ∨ d = 37 ∨ d = 53) (hq1 : q1 = 11 ∨ q1 = 37 ∨ q1 = 53) (h : Hp) : X (171, 0, [aR d, aR q1], [], h) = bV (X (176, 0, [aR (d + 1), aR (q1 + 1)], [], h)) (fun h1 =>
  bV (X (165, 0, [aR (d + 5), aR (q1 + 5)], [], h1)) (fun h2 =>
  bV (X (158, 0, [aR (d + 8), aR (q1 + 8)], [], h2)) (fun h3 =>
  bV (X (123, 0, [aR (d + 13), aR (q1 + 13)], [], h3)) (fun h4 =>
  some (none, h4))))) := by
  rcases hd with rfl | rfl | rfl <;> rcases hq1 with rfl | rfl | rfl <;> exact (ev_eq [] 300 _).symm
-- 172: NodBench$Sheets.renew(III)V
set_option maxRecDepth 20000 in
theorem e172_0 (a1 a2 a3 : Int) (h : Hp) : X (172, 0, [aR 72, aI a1, aI a2, aI a3, aN], [], h) = cond (inb 4 a1)
  (cond (inb 4 a1)
  (X (172, 17, [aR 72, aI a1, aI a2, aI a3, aI 0], [], (up (up h 73 (wr a1) a2) 74 (wr a1) a3)))
  none)
  none := (ev_eq [17] 300 _).symm
set_option maxRecDepth 20000 in
theorem e172_17 (v1 v2 v3 v4 : Int) (h : Hp) : X (172, 17, [aR 72, aI v1, aI v2, aI v3, aI v4], [], h) = cond (decide (24 ≤ (wr v4)))
  (some (none, h))
  (cond (inb 96 ((v1 * 24) + v4))
    (X (172, 17, [aR 72, aI v1, aI v2, aI v3, aI (v4 + 1)], [], (up h 75 (wr ((v1 * 24) + v4)) 0)))
    none) := (ev_eq [17] 300 _).symm
-- 173: NodBench$Sheets.refusal(IIII)I
set_option maxRecDepth 20000 in
theorem e173_0 (a1 a2 a3 a4 : Int) (h : Hp) : X (173, 0, [aR 72, aI a1, aI a2, aI a3, aI a4], [], h) = cond (inb 4 a1)
  (cond (decide ((wr (h 73 (wr a1))) ≠ (-1)))
  (cond (inb 4 a1)
    (cond (decide ((wr (h 73 (wr a1))) = (wr a2)))
    (cond (decide ((wr a3) < 0))
      (some (some (-13), h))
      (cond (inb 4 a1)
        (cond (decide ((wr a3) ≤ (wr ((h 74 (wr a1)) - a4))))
        (some (some 0, h))
        (some (some (-13), h)))
        none))
    (some (some (-12), h)))
    none)
  (some (some (-11), h)))
  none := (ev_eq [] 300 _).symm
-- 174: NodBench$Sheets.read(II)I
set_option maxRecDepth 20000 in
theorem e174_0 (a1 a2 : Int) (h : Hp) : X (174, 0, [aR 72, aI a1, aI a2], [], h) = cond (inb 96 ((a1 * 24) + a2))
  (some (some (h 75 (wr ((a1 * 24) + a2))), h))
  none := (ev_eq [] 300 _).symm
-- 175: NodBench$Sheets.write(III)V
set_option maxRecDepth 20000 in
theorem e175_0 (a1 a2 a3 : Int) (h : Hp) : X (175, 0, [aR 72, aI a1, aI a2, aI a3, aN], [], h) = cond (inb 4 a1)
  (cond (decide ((wr (h 73 (wr a1))) ≠ 0))
  (cond (inb 4 a1)
    (cond (decide ((wr (h 73 (wr a1))) ≠ 1))
    (cond (inb 96 ((a1 * 24) + a2))
      (some (none, (up h 75 (wr ((a1 * 24) + a2)) a3)))
      none)
    (cond (inb 96 ((a1 * 24) + a2))
      (some (none, (up h 75 (wr ((a1 * 24) + a2)) (jshort a3))))
      none))
    none)
  (cond (inb 96 ((a1 * 24) + a2))
    (some (none, (up h 75 (wr ((a1 * 24) + a2)) (jbyte a3))))
    none))
  none := (ev_eq [] 300 _).symm
-- 176: NodBench$Shop.copyFrom(LNodBench$Shop;)V
set_option maxRecDepth 20000 in
theorem e176_0 {d q1 : Nat} (hd : d = 12 ∨ d = 38 ∨ d = 54) (hq1 : q1 = 12 ∨ q1 = 38 ∨ q1 = 54) (h : Hp) : X (176, 0, [aR d, aR q1], [], h) = some (none, (cpy (cpy (cpy h (q1 + 1) (d + 1) 0 0 8) (q1 + 2) (d + 2) 0 0 12) (q1 + 3) (d + 3) 0 0 4)) := by
  rcases hd with rfl | rfl | rfl <;> rcases hq1 with rfl | rfl | rfl <;> exact (ev_eq [] 300 _).symm
-- 177: NodBench$Tape.areSigns(JI)Z
set_option maxRecDepth 20000 in
theorem e177_0 (a0 a2 : Int) (h : Hp) : X (177, 0, [aL a0, aN, aI a2, aN, aN], [], h) = X (177, 2, [aL a0, aN, aI a2, aI 0, aN], [], h) := (ev_eq [2] 300 _).symm
set_option maxRecDepth 20000 in
theorem e177_2 (v0 v2 v3 : Int) (w4 : AV) (h : Hp) : X (177, 2, [aL v0, aN, aI v2, aI v3, w4], [], h) = cond (decide ((wr v2) ≤ (wr v3)))
  (some (some 1, h))
  (cond (decide ((wr (qand (qushr v0 (8 * v3)) 255)) < 32))
    (some (some 0, h))
    (cond (decide ((wr (qand (qushr v0 (8 * v3)) 255)) ≤ 126))
      (X (177, 2, [aL v0, aN, aI v2, aI (v3 + 1), aI (qand (qushr v0 (8 * v3)) 255)], [], h))
      (some (some 0, h)))) := (ev_eq [2] 300 _).symm
-- 178: NodBench$Tape.add(JI)V
set_option maxRecDepth 20000 in
theorem e178_0 (a1 a3 : Int) (h : Hp) : X (178, 0, [aR 70, aL a1, aN, aI a3, aN], [], h) = X (178, 5, [aR 70, aL a1, aN, aI a3, aI (a3 - 1)], [], h) := (ev_eq [5] 300 _).symm
set_option maxRecDepth 20000 in
theorem e178_5 (v1 v3 v4 : Int) (h : Hp) : X (178, 5, [aR 70, aL v1, aN, aI v3, aI v4], [], h) = cond (decide ((wr v4) < 0))
  (some (none, h))
  (cond (decide (80 ≤ (wr (h 70 1))))
    (some (none, h))
    (cond (inb 80 (h 70 1))
      (X (178, 5, [aR 70, aL v1, aN, aI v3, aI (v4 + (-1))], [], (up (up h 71 (wr (h 70 1)) (qand (qushr v1 (8 * v4)) 255)) 70 1 (((up h 71 (wr (h 70 1)) (qand (qushr v1 (8 * v4)) 255)) 70 1) + 1))))
      none)) := (ev_eq [5] 300 _).symm
-- 179: NodBench$Tape.readHabits(LNodBench$Habits;)I
set_option maxRecDepth 20000 in
theorem e179_0 {q1 : Nat} (hq1 : q1 = 16 ∨ q1 = 42 ∨ q1 = 58) (h : Hp) : X (179, 0, [aR 70, aR q1, aN, aN, aN], [], h) = X (179, 7, [aR 70, aR q1, aI 1, aN, aN], [], (up h 70 2 0)) := by
  rcases hq1 with rfl | rfl | rfl <;> exact (ev_eq [7] 300 _).symm
set_option maxRecDepth 20000 in
theorem e179_7 {q1 : Nat} (hq1 : q1 = 16 ∨ q1 = 42 ∨ q1 = 58) (v2 : Int) (w3 w4 : AV) (h : Hp) : X (179, 7, [aR 70, aR q1, aI v2, w3, w4], [], h) = cond (decide (8 < (wr v2)))
  (bI (X (184, 0, [aI (h 70 2)], [], h)) (fun r1 h1 =>
    some (some r1, h1)))
  (bI (X (183, 0, [aR 70], [], h)) (fun r2 h2 =>
    bI (X (185, 0, [aI r2], [], h2)) (fun r3 h3 =>
    cond (decide ((wr r3) ≠ (-1)))
    (bI (X (183, 0, [aR 70], [], (up h3 70 2 ((h3 70 2) + 1)))) (fun r4 h4 =>
      bI (X (185, 0, [aI r4], [], h4)) (fun r5 h5 =>
      cond (decide ((wr r5) = (-1)))
      (bI (X (184, 0, [aI (h5 70 2)], [], h5)) (fun r6 h6 =>
        some (some r6, h6)))
      (cond (decide ((wr r5) ≠ (wr r3)))
        (bV (X (164, 0, [aR q1, aI r3, aI r5], [], (up h5 70 2 ((h5 70 2) + 1)))) (fun h7 =>
          bI (X (183, 0, [aR 70], [], h7)) (fun r8 h8 =>
          cond (decide ((wr r8) ≠ (-1)))
          (bI (X (183, 0, [aR 70], [], h8)) (fun r9 h9 =>
            cond (decide ((wr r9) ≠ 44))
            (bI (X (184, 0, [aI (h9 70 2)], [], h9)) (fun r10 h10 =>
              some (some r10, h10)))
            (cond (decide ((wr v2) ≠ 8))
              (X (179, 7, [aR 70, aR q1, aI (v2 + 1), aI r3, aI r5], [], (up h9 70 2 ((h9 70 2) + 1))))
              (bI (X (184, 0, [aI (h9 70 2)], [], h9)) (fun r11 h11 =>
                some (some r11, h11))))))
          (some (some v2, h8)))))
        (bI (X (184, 0, [aI (h5 70 2)], [], h5)) (fun r12 h12 =>
          some (some r12, h12)))))))
    (bI (X (184, 0, [aI (h3 70 2)], [], h3)) (fun r13 h13 =>
      some (some r13, h13)))))) := by
  rcases hq1 with rfl | rfl | rfl <;> exact (ev_eq [7] 300 _).symm
-- 180: NodBench$Tape.readGuests(LNodBench$Guests;)I
set_option maxRecDepth 20000 in
theorem e180_0 {q1 : Nat} (hq1 : q1 = 19 ∨ q1 = 45 ∨ q1 = 61) (h : Hp) : X (180, 0, [aR 70, aR q1, aN, aN], [], h) = X (180, 7, [aR 70, aR q1, aI 1, aN], [], (up h 70 2 0)) := by
  rcases hq1 with rfl | rfl | rfl <;> exact (ev_eq [7] 300 _).symm
set_option maxRecDepth 20000 in
theorem e180_7 {q1 : Nat} (hq1 : q1 = 19 ∨ q1 = 45 ∨ q1 = 61) (v2 : Int) (w3 : AV) (h : Hp) : X (180, 7, [aR 70, aR q1, aI v2, w3], [], h) = cond (decide (8 < (wr v2)))
  (bI (X (184, 0, [aI (h 70 2)], [], h)) (fun r1 h1 =>
    some (some r1, h1)))
  (bI (X (181, 0, [aR 70, aR q1, aN, aN, aN, aN, aN], [], h)) (fun r2 h2 =>
    cond (decide ((wr r2) = 0))
    (bI (X (183, 0, [aR 70], [], h2)) (fun r3 h3 =>
      cond (decide ((wr r3) ≠ (-1)))
      (bI (X (183, 0, [aR 70], [], h3)) (fun r4 h4 =>
        cond (decide ((wr r4) ≠ 59))
        (bI (X (184, 0, [aI (h4 70 2)], [], h4)) (fun r5 h5 =>
          some (some r5, h5)))
        (cond (decide ((wr v2) ≠ 8))
          (X (180, 7, [aR 70, aR q1, aI (v2 + 1), aI r2], [], (up h4 70 2 ((h4 70 2) + 1))))
          (bI (X (184, 0, [aI (h4 70 2)], [], h4)) (fun r6 h6 =>
            some (some r6, h6))))))
      (some (some v2, h3))))
    (some (some r2, h2)))) := by
  rcases hq1 with rfl | rfl | rfl <;> exact (ev_eq [7] 300 _).symm
-- 181: NodBench$Tape.readGuest(LNodBench$Guests;)I
set_option maxRecDepth 20000 in
theorem e181_0 {q1 : Nat} (hq1 : q1 = 19 ∨ q1 = 45 ∨ q1 = 61) (h : Hp) : X (181, 0, [aR 70, aR q1, aN, aN, aN, aN, aN], [], h) = bI (X (183, 0, [aR 70], [], h)) (fun r1 h1 =>
  bI (X (182, 0, [aR 70, aN], [], h1)) (fun r2 h2 =>
  cond (decide ((wr r2) < 0))
  (bI (X (184, 0, [aI (h1 70 2)], [], h2)) (fun r3 h3 =>
    some (some r3, h3)))
  (cond (decide ((wr r2) < 240))
    (bI (X (183, 0, [aR 70], [], h2)) (fun r4 h4 =>
      bI (X (185, 0, [aI r4], [], h4)) (fun r5 h5 =>
      cond (decide ((wr r5) ≠ (-1)))
      (bI (X (183, 0, [aR 70], [], (up h5 70 2 ((h5 70 2) + 1)))) (fun r6 h6 =>
        bI (X (35, 0, [aI (r6 - 48), aI 4], [], h6)) (fun r7 h7 =>
        cond (decide ((wr r7) ≠ 0))
        (cond (decide ((wr r5) = 0))
          (bV (X (155, 0, [aR q1, aI r2, aI r5, aI (r6 - 48), aI 0], [], (up h7 70 2 ((h7 70 2) + 1)))) (fun h8 =>
            some (some 0, h8)))
          (bI (X (183, 0, [aR 70], [], (up h7 70 2 ((h7 70 2) + 1)))) (fun r9 h9 =>
            cond (decide ((wr r9) = 58))
            (bI (X (183, 0, [aR 70], [], (up h9 70 2 ((h9 70 2) + 1)))) (fun r10 h10 =>
              bI (X (182, 0, [aR 70, aN], [], h10)) (fun r11 h11 =>
              bI (X (37, 0, [aI r2, aI r5, aI (r6 - 48), aI r11, aN], [], h11)) (fun r12 h12 =>
              cond (decide ((wr r12) ≠ 0))
              (bV (X (155, 0, [aR q1, aI r2, aI r5, aI (r6 - 48), aI r11], [], h12)) (fun h13 =>
                some (some 0, h13)))
              (bI (X (184, 0, [aI (h10 70 2)], [], h12)) (fun r14 h14 =>
                some (some r14, h14)))))))
            (bI (X (184, 0, [aI (h9 70 2)], [], h9)) (fun r15 h15 =>
              some (some r15, h15))))))
        (bI (X (184, 0, [aI (h7 70 2)], [], h7)) (fun r16 h16 =>
          some (some r16, h16))))))
      (bI (X (184, 0, [aI (h5 70 2)], [], h5)) (fun r17 h17 =>
        some (some r17, h17))))))
    (bI (X (184, 0, [aI (h1 70 2)], [], h2)) (fun r18 h18 =>
      some (some r18, h18)))))) := by
  rcases hq1 with rfl | rfl | rfl <;> exact (ev_eq [] 300 _).symm
-- 182: NodBench$Tape.readNumber()I
set_option maxRecDepth 20000 in
theorem e182_0 (h : Hp) : X (182, 0, [aR 70, aN], [], h) = X (182, 2, [aR 70, aI (-1)], [], h) := (ev_eq [2] 300 _).symm
set_option maxRecDepth 20000 in
theorem e182_2 (v1 : Int) (h : Hp) : X (182, 2, [aR 70, aI v1], [], h) = cond (decide ((wr (h 70 1)) ≤ (wr (h 70 2))))
  (some (some v1, h))
  (cond (inb 80 (h 70 2))
    (cond (decide ((wr (h 71 (wr (h 70 2)))) < 48))
    (some (some v1, h))
    (cond (inb 80 (h 70 2))
      (cond (decide (57 < (wr (h 71 (wr (h 70 2))))))
      (some (some v1, h))
      (cond (inb 80 (h 70 2))
        (X (182, 2, [aR 70, aI (jmin ((((jmax v1 0) * 10) + (h 71 (wr (h 70 2)))) - 48) 1000)], [], (up h 70 2 ((h 70 2) + 1))))
        none))
      none))
    none) := (ev_eq [2] 300 _).symm
-- 183: NodBench$Tape.peek()I
set_option maxRecDepth 20000 in
theorem e183_0 (h : Hp) : X (183, 0, [aR 70], [], h) = cond (decide ((wr (h 70 1)) ≤ (wr (h 70 2))))
  (cond (decide ((wr (h 70 1)) ≤ (wr (h 70 2))))
    (some (some (-1), h))
    (cond (inb 80 (h 70 2))
      (some (some (h 71 (wr (h 70 2))), h))
      none))
  (cond (inb 80 (h 70 2))
    (cond (decide ((wr (h 71 (wr (h 70 2)))) ≠ 32))
    (cond (decide ((wr (h 70 1)) ≤ (wr (h 70 2))))
      (some (some (-1), h))
      (cond (inb 80 (h 70 2))
        (some (some (h 71 (wr (h 70 2))), h))
        none))
    (X (183, 0, [aR 70], [], (up h 70 2 ((h 70 2) + 1)))))
    none) := (ev_eq [0] 300 _).symm
-- 184: NodBench$Tape.faultAt(I)I
set_option maxRecDepth 20000 in
theorem e184_0 (a0 : Int) (h : Hp) : X (184, 0, [aI a0], [], h) = some (some ((-20) - a0), h) := (ev_eq [] 300 _).symm
-- 185: NodBench$Tape.kindOf(I)I
set_option maxRecDepth 20000 in
theorem e185_0 (a0 : Int) (h : Hp) : X (185, 0, [aI a0], [], h) = cond (decide ((wr a0) = 99)) (some (some 1, h))
  (cond (decide ((wr a0) = 100)) (some (some (-1), h))
  (cond (decide ((wr a0) = 101)) (some (some (-1), h))
  (cond (decide ((wr a0) = 102)) (some (some (-1), h))
  (cond (decide ((wr a0) = 103)) (some (some 2, h))
  (cond (decide ((wr a0) = 104)) (some (some (-1), h))
  (cond (decide ((wr a0) = 105)) (some (some (-1), h))
  (cond (decide ((wr a0) = 106)) (some (some (-1), h))
  (cond (decide ((wr a0) = 107)) (some (some (-1), h))
  (cond (decide ((wr a0) = 108)) (some (some 4, h))
  (cond (decide ((wr a0) = 109)) (some (some (-1), h))
  (cond (decide ((wr a0) = 110)) (some (some (-1), h))
  (cond (decide ((wr a0) = 111)) (some (some 3, h))
  (cond (decide ((wr a0) = 112)) (some (some 0, h))
  (cond (decide ((wr a0) = 113)) (some (some (-1), h))
  (cond (decide ((wr a0) = 114)) (some (some (-1), h))
  (cond (decide ((wr a0) = 115)) (some (some (-1), h))
  (cond (decide ((wr a0) = 116)) (some (some 5, h))
  (some (some (-1), h))))))))))))))))))) := (ev_eq [] 300 _).symm
-- 186: java/lang/Integer.bitCount(I)I
set_option maxRecDepth 20000 in
theorem e186_0 (a0 : Int) (h : Hp) : X (186, 0, [aI a0], [], h) = some (some (jand (((jand (((jand (a0 - (jand (jushr a0 1) 1431655765)) 858993459) + (jand (jushr (a0 - (jand (jushr a0 1) 1431655765)) 2) 858993459)) + (jushr ((jand (a0 - (jand (jushr a0 1) 1431655765)) 858993459) + (jand (jushr (a0 - (jand (jushr a0 1) 1431655765)) 2) 858993459)) 4)) 252645135) + (jushr (jand (((jand (a0 - (jand (jushr a0 1) 1431655765)) 858993459) + (jand (jushr (a0 - (jand (jushr a0 1) 1431655765)) 2) 858993459)) + (jushr ((jand (a0 - (jand (jushr a0 1) 1431655765)) 858993459) + (jand (jushr (a0 - (jand (jushr a0 1) 1431655765)) 2) 858993459)) 4)) 252645135) 8)) + (jushr ((jand (((jand (a0 - (jand (jushr a0 1) 1431655765)) 858993459) + (jand (jushr (a0 - (jand (jushr a0 1) 1431655765)) 2) 858993459)) + (jushr ((jand (a0 - (jand (jushr a0 1) 1431655765)) 858993459) + (jand (jushr (a0 - (jand (jushr a0 1) 1431655765)) 2) 858993459)) 4)) 252645135) + (jushr (jand (((jand (a0 - (jand (jushr a0 1) 1431655765)) 858993459) + (jand (jushr (a0 - (jand (jushr a0 1) 1431655765)) 2) 858993459)) + (jushr ((jand (a0 - (jand (jushr a0 1) 1431655765)) 858993459) + (jand (jushr (a0 - (jand (jushr a0 1) 1431655765)) 2) 858993459)) 4)) 252645135) 8)) 16)) 63), h) := (ev_eq [] 300 _).symm
