/-! block equations, written by wip/whole/gen10.py -/
-- 144: NodBench$Day.coin()I
set_option maxRecDepth 20000 in
theorem e144_0 {d : Nat} (hd : d = 1 ∨ d = 27) (h : Hp) : X (144, 0, [aR d, aN, aN], [], h) = X (144, 4, [aR d, aI 0, aI 0], [], h) := by
  rcases hd with rfl | rfl <;> exact (ev_eq [4] 300 _).symm
set_option maxRecDepth 20000 in
theorem e144_4 {d : Nat} (hd : d = 1 ∨ d = 27) (v1 v2 : Int) (h : Hp) : X (144, 4, [aR d, aI v1, aI v2], [], h) = cond (decide ((wr (h (d + 18) 4)) ≤ (wr v2)))
  (some (some v1, h))
  (cond (inb 12 v2)
    (cond (decide ((wr (h (d + 1) (wr v2))) ≠ 3))
    (X (144, 4, [aR d, aI v1, aI (v2 + 1)], [], h))
    (cond (inb 12 v2)
      (cond (inb 4 (h (d + 21) (wr v2)))
      (cond (inb 12 v2)
      (X (144, 4, [aR d, aI (v1 + ((h (d + 14) (wr (h (d + 21) (wr v2)))) * (h (d + 6) (wr v2)))), aI (v2 + 1)], [], h))
      none)
      none)
      none))
    none) := by
  rcases hd with rfl | rfl <;> exact (ev_eq [4] 300 _).symm
-- 145: NodBench$Day.waitsTogether()I
set_option maxRecDepth 20000 in
theorem e145_0 {d : Nat} (hd : d = 1 ∨ d = 27) (h : Hp) : X (145, 0, [aR d, aN, aN], [], h) = X (145, 4, [aR d, aI 0, aI 0], [], h) := by
  rcases hd with rfl | rfl <;> exact (ev_eq [4] 300 _).symm
set_option maxRecDepth 20000 in
theorem e145_4 {d : Nat} (hd : d = 1 ∨ d = 27) (v1 v2 : Int) (h : Hp) : X (145, 4, [aR d, aI v1, aI v2], [], h) = cond (decide ((wr (h (d + 18) 4)) ≤ (wr v2)))
  (some (some v1, h))
  (cond (inb 12 v2)
    (X (145, 4, [aR d, aI (v1 + (h (d + 2) (wr v2))), aI (v2 + 1)], [], h))
    none) := by
  rcases hd with rfl | rfl <;> exact (ev_eq [4] 300 _).symm
-- 146: NodBench$Day.longestWait()I
set_option maxRecDepth 20000 in
theorem e146_0 {d : Nat} (hd : d = 1 ∨ d = 27) (h : Hp) : X (146, 0, [aR d, aN, aN], [], h) = X (146, 4, [aR d, aI 0, aI 0], [], h) := by
  rcases hd with rfl | rfl <;> exact (ev_eq [4] 300 _).symm
set_option maxRecDepth 20000 in
theorem e146_4 {d : Nat} (hd : d = 1 ∨ d = 27) (v1 v2 : Int) (h : Hp) : X (146, 4, [aR d, aI v1, aI v2], [], h) = cond (decide ((wr (h (d + 18) 4)) ≤ (wr v2)))
  (some (some v1, h))
  (cond (inb 12 v2)
    (X (146, 4, [aR d, aI (jmax v1 (h (d + 2) (wr v2))), aI (v2 + 1)], [], h))
    none) := by
  rcases hd with rfl | rfl <;> exact (ev_eq [4] 300 _).symm
-- 147: NodBench$Day.ofFate(I)I
set_option maxRecDepth 20000 in
theorem e147_0 {d : Nat} (hd : d = 1 ∨ d = 27) (a1 : Int) (h : Hp) : X (147, 0, [aR d, aI a1, aN, aN], [], h) = X (147, 4, [aR d, aI a1, aI 0, aI 0], [], h) := by
  rcases hd with rfl | rfl <;> exact (ev_eq [4] 300 _).symm
set_option maxRecDepth 20000 in
theorem e147_4 {d : Nat} (hd : d = 1 ∨ d = 27) (v1 v2 v3 : Int) (h : Hp) : X (147, 4, [aR d, aI v1, aI v2, aI v3], [], h) = cond (decide ((wr (h (d + 18) 4)) ≤ (wr v3)))
  (some (some v2, h))
  (cond (inb 12 v3)
    (cond (decide ((wr (h (d + 1) (wr v3))) ≠ (wr v1)))
    (X (147, 4, [aR d, aI v1, aI (v2 + 0), aI (v3 + 1)], [], h))
    (X (147, 4, [aR d, aI v1, aI (v2 + 1), aI (v3 + 1)], [], h)))
    none) := by
  rcases hd with rfl | rfl <;> exact (ev_eq [4] 300 _).symm
-- 148: NodBench$Day.minutesOfThird()I
set_option maxRecDepth 20000 in
theorem e148_0 {d : Nat} (hd : d = 1 ∨ d = 27) (h : Hp) : X (148, 0, [aR d, aN, aN], [], h) = X (148, 4, [aR d, aI 0, aI 0], [], h) := by
  rcases hd with rfl | rfl <;> exact (ev_eq [4] 300 _).symm
set_option maxRecDepth 20000 in
theorem e148_4 {d : Nat} (hd : d = 1 ∨ d = 27) (v1 v2 : Int) (h : Hp) : X (148, 4, [aR d, aI v1, aI v2], [], h) = cond (decide ((wr (h (d + 18) 4)) ≤ (wr v2)))
  (some (some v1, h))
  (cond (inb 12 v2)
    (cond (decide ((wr (h (d + 4) (wr v2))) ≠ 2))
    (X (148, 4, [aR d, aI v1, aI (v2 + 1)], [], h))
    (cond (inb 12 v2)
      (cond (inb 12 v2)
      (X (148, 4, [aR d, aI (v1 + (jmin (h (d + 5) (wr v2)) (240 - (h (d + 3) (wr v2))))), aI (v2 + 1)], [], h))
      none)
      none))
    none) := by
  rcases hd with rfl | rfl <;> exact (ev_eq [4] 300 _).symm
-- 149: NodBench$Day.liedTo(I)I
set_option maxRecDepth 20000 in
theorem e149_0 {d : Nat} (hd : d = 1 ∨ d = 27) (a1 : Int) (h : Hp) : X (149, 0, [aR d, aI a1, aN, aN, aN], [], h) = X (149, 4, [aR d, aI a1, aI 0, aI 0, aN], [], h) := by
  rcases hd with rfl | rfl <;> exact (ev_eq [4] 300 _).symm
set_option maxRecDepth 20000 in
theorem e149_4 {d : Nat} (hd : d = 1 ∨ d = 27) (v1 v2 v3 : Int) (w4 : AV) (h : Hp) : X (149, 4, [aR d, aI v1, aI v2, aI v3, w4], [], h) = cond (decide ((wr (h (d + 18) 4)) ≤ (wr v3)))
  (some (some v2, h))
  (cond (inb 12 v3)
    (cond (decide ((wr (jabs ((h (d + 2) (wr v3)) - v1))) ≤ 10))
    (cond (inb 12 v3)
      (cond (decide ((wr (h (d + 1) (wr v3))) = 1))
      (X (149, 4, [aR d, aI v1, aI (v2 + 0), aI (v3 + 1), aI 0], [], h))
      (X (149, 4, [aR d, aI v1, aI (v2 + 0), aI (v3 + 1), aI 0], [], h)))
      none)
    (cond (inb 12 v3)
      (cond (decide ((wr (h (d + 1) (wr v3))) = 1))
      (X (149, 4, [aR d, aI v1, aI (v2 + 0), aI (v3 + 1), aI 1], [], h))
      (X (149, 4, [aR d, aI v1, aI (v2 + 1), aI (v3 + 1), aI 1], [], h)))
      none))
    none) := by
  rcases hd with rfl | rfl <;> exact (ev_eq [4] 300 _).symm
-- 150: NodBench$Day.isOverBy(I)Z
set_option maxRecDepth 20000 in
theorem e150_0 {d : Nat} (hd : d = 1 ∨ d = 27) (a1 : Int) (h : Hp) : X (150, 0, [aR d, aI a1, aN, aN], [], h) = X (150, 2, [aR d, aI a1, aI 0, aN], [], h) := by
  rcases hd with rfl | rfl <;> exact (ev_eq [2] 300 _).symm
set_option maxRecDepth 20000 in
theorem e150_2 {d : Nat} (hd : d = 1 ∨ d = 27) (v1 v2 : Int) (w3 : AV) (h : Hp) : X (150, 2, [aR d, aI v1, aI v2, w3], [], h) = cond (decide ((wr (h (d + 18) 4)) ≤ (wr v2)))
  (some (some 1, h))
  (cond (inb 12 v2)
    (cond (decide ((wr (h (d + 1) (wr v2))) ≠ 3))
    (cond (inb 12 v2)
      (cond (decide ((wr (h (d + 1) (wr v2))) ≠ 4))
      (X (150, 2, [aR d, aI v1, aI (v2 + 1), aI 0], [], h))
      (some (some 0, h)))
      none)
    (cond (inb 12 v2)
      (cond (inb 12 v2)
      (cond (decide ((wr ((h (d + 3) (wr v2)) + (h (d + 5) (wr v2)))) ≤ (wr v1)))
      (cond (inb 12 v2)
        (cond (decide ((wr (h (d + 1) (wr v2))) ≠ 4))
        (X (150, 2, [aR d, aI v1, aI (v2 + 1), aI 0], [], h))
        (some (some 0, h)))
        none)
      (some (some 0, h)))
      none)
      none))
    none) := by
  rcases hd with rfl | rfl <;> exact (ev_eq [2] 300 _).symm
-- 151: NodBench$Day.isWaitingAt(II)Z
set_option maxRecDepth 20000 in
theorem e151_0 {d : Nat} (hd : d = 1 ∨ d = 27) (a1 a2 : Int) (h : Hp) : X (151, 0, [aR d, aI a1, aI a2, aN], [], h) = cond (inb 12 a1)
  (cond (inb 12 a1)
  (cond (decide ((wr (h (d + 1) (wr a1))) = 1))
  (some (some 0, h))
  (cond (decide ((wr (a2 - (h (d + 19) (wr a1)))) < 0))
    (some (some 0, h))
    (cond (inb 12 a1)
      (cond (decide ((wr (h (d + 2) (wr a1))) ≤ (wr (a2 - (h (d + 19) (wr a1))))))
      (some (some 0, h))
      (some (some 1, h)))
      none)))
  none)
  none := by
  rcases hd with rfl | rfl <;> exact (ev_eq [] 300 _).symm
-- 152: NodBench$Day.waitingAt(I)I
set_option maxRecDepth 20000 in
theorem e152_0 {d : Nat} (hd : d = 1 ∨ d = 27) (a1 : Int) (h : Hp) : X (152, 0, [aR d, aI a1, aN, aN], [], h) = X (152, 4, [aR d, aI a1, aI 0, aI 0], [], h) := by
  rcases hd with rfl | rfl <;> exact (ev_eq [4] 300 _).symm
set_option maxRecDepth 20000 in
theorem e152_4 {d : Nat} (hd : d = 1 ∨ d = 27) (v1 v2 v3 : Int) (h : Hp) : X (152, 4, [aR d, aI v1, aI v2, aI v3], [], h) = cond (decide ((wr (h (d + 18) 4)) ≤ (wr v3)))
  (some (some v2, h))
  (bI (X (151, 0, [aR d, aI v3, aI v1, aN], [], h)) (fun r1 h1 =>
    cond (decide ((wr r1) = 0))
    (X (152, 4, [aR d, aI v1, aI (v2 + 0), aI (v3 + 1)], [], h1))
    (X (152, 4, [aR d, aI v1, aI (v2 + 1), aI (v3 + 1)], [], h1)))) := by
  rcases hd with rfl | rfl <;> exact (ev_eq [4] 300 _).symm
-- 153: NodBench$Day.seatedAt(I)I
set_option maxRecDepth 20000 in
theorem e153_0 {d : Nat} (hd : d = 1 ∨ d = 27) (a1 : Int) (h : Hp) : X (153, 0, [aR d, aI a1, aN, aN], [], h) = X (153, 4, [aR d, aI a1, aI 0, aI 0], [], h) := by
  rcases hd with rfl | rfl <;> exact (ev_eq [4] 300 _).symm
set_option maxRecDepth 20000 in
theorem e153_4 {d : Nat} (hd : d = 1 ∨ d = 27) (v1 v2 v3 : Int) (h : Hp) : X (153, 4, [aR d, aI v1, aI v2, aI v3], [], h) = cond (decide ((wr (h (d + 18) 4)) ≤ (wr v3)))
  (some (some v2, h))
  (bI (X (151, 0, [aR d, aI v3, aI v1, aN], [], h)) (fun r1 h1 =>
    cond (decide ((wr r1) = 0))
    (X (153, 4, [aR d, aI v1, aI (v2 + 0), aI (v3 + 1)], [], h1))
    (bI (X (141, 0, [aR d, aI v3, aI v1, aN], [], h1)) (fun r2 h2 =>
      cond (decide ((wr r2) ≠ 0))
      (X (153, 4, [aR d, aI v1, aI (v2 + 0), aI (v3 + 1)], [], h2))
      (cond (inb 12 v3)
        (X (153, 4, [aR d, aI v1, aI (v2 + (h2 (d + 6) (wr v3))), aI (v3 + 1)], [], h2))
        none))))) := by
  rcases hd with rfl | rfl <;> exact (ev_eq [4] 300 _).symm
-- 154: NodBench$Day.underCutter(II)I
set_option maxRecDepth 20000 in
theorem e154_0 {d : Nat} (hd : d = 1 ∨ d = 27) (a1 a2 : Int) (h : Hp) : X (154, 0, [aR d, aI a1, aI a2, aN, aN], [], h) = X (154, 2, [aR d, aI a1, aI a2, aI 0, aN], [], h) := by
  rcases hd with rfl | rfl <;> exact (ev_eq [2] 300 _).symm
set_option maxRecDepth 20000 in
theorem e154_2 {d : Nat} (hd : d = 1 ∨ d = 27) (v1 v2 v3 : Int) (w4 : AV) (h : Hp) : X (154, 2, [aR d, aI v1, aI v2, aI v3, w4], [], h) = cond (decide ((wr (h (d + 18) 4)) ≤ (wr v3)))
  (some (some (-4), h))
  (cond (inb 12 v3)
    (cond (inb 12 v3)
    (cond (decide ((wr (h (d + 4) (wr v3))) ≠ (wr v1)))
    (X (154, 2, [aR d, aI v1, aI v2, aI (v3 + 1), aI (v2 - (h (d + 3) (wr v3)))], [], h))
    (cond (decide ((wr (v2 - (h (d + 3) (wr v3)))) < 0))
      (X (154, 2, [aR d, aI v1, aI v2, aI (v3 + 1), aI (v2 - (h (d + 3) (wr v3)))], [], h))
      (cond (inb 12 v3)
        (cond (decide ((wr (h (d + 5) (wr v3))) ≤ (wr (v2 - (h (d + 3) (wr v3))))))
        (X (154, 2, [aR d, aI v1, aI v2, aI (v3 + 1), aI (v2 - (h (d + 3) (wr v3)))], [], h))
        (some (some v3, h)))
        none)))
    none)
    none) := by
  rcases hd with rfl | rfl <;> exact (ev_eq [2] 300 _).symm
-- 155: NodBench$Guests.add(IIII)V
set_option maxRecDepth 20000 in
theorem e155_0 {d : Nat} (hd : d = 19 ∨ d = 45 ∨ d = 61) (a1 a2 a3 a4 : Int) (h : Hp) : X (155, 0, [aR d, aI a1, aI a2, aI a3, aI a4], [], h) = cond (decide (12 ≤ (wr (h d 4))))
  (some (none, h))
  (cond (inb 12 (h d 4))
    (cond (inb 12 ((up h (d + 1) (wr (h d 4)) a1) d 4))
    (cond (inb 12 ((up (up h (d + 1) (wr (h d 4)) a1) (d + 2) (wr ((up h (d + 1) (wr (h d 4)) a1) d 4)) a2) d 4))
    (cond (inb 12 ((up (up (up h (d + 1) (wr (h d 4)) a1) (d + 2) (wr ((up h (d + 1) (wr (h d 4)) a1) d 4)) a2) (d + 3) (wr ((up (up h (d + 1) (wr (h d 4)) a1) (d + 2) (wr ((up h (d + 1) (wr (h d 4)) a1) d 4)) a2) d 4)) a3) d 4))
    (some (none, (up (up (up (up (up h (d + 1) (wr (h d 4)) a1) (d + 2) (wr ((up h (d + 1) (wr (h d 4)) a1) d 4)) a2) (d + 3) (wr ((up (up h (d + 1) (wr (h d 4)) a1) (d + 2) (wr ((up h (d + 1) (wr (h d 4)) a1) d 4)) a2) d 4)) a3) (d + 4) (wr ((up (up (up h (d + 1) (wr (h d 4)) a1) (d + 2) (wr ((up h (d + 1) (wr (h d 4)) a1) d 4)) a2) (d + 3) (wr ((up (up h (d + 1) (wr (h d 4)) a1) (d + 2) (wr ((up h (d + 1) (wr (h d 4)) a1) d 4)) a2) d 4)) a3) d 4)) a4) d 4 (((up (up (up (up h (d + 1) (wr (h d 4)) a1) (d + 2) (wr ((up h (d + 1) (wr (h d 4)) a1) d 4)) a2) (d + 3) (wr ((up (up h (d + 1) (wr (h d 4)) a1) (d + 2) (wr ((up h (d + 1) (wr (h d 4)) a1) d 4)) a2) d 4)) a3) (d + 4) (wr ((up (up (up h (d + 1) (wr (h d 4)) a1) (d + 2) (wr ((up h (d + 1) (wr (h d 4)) a1) d 4)) a2) (d + 3) (wr ((up (up h (d + 1) (wr (h d 4)) a1) (d + 2) (wr ((up h (d + 1) (wr (h d 4)) a1) d 4)) a2) d 4)) a3) d 4)) a4) d 4) + 1))))
    none)
    none)
    none)
    none) := by
  rcases hd with rfl | rfl | rfl <;> exact (ev_eq [] 300 _).symm
-- 156: NodBench$Guests.addAll(LNodBench$Guests;)V
set_option maxRecDepth 20000 in
theorem e156_0 {d q1 : Nat} (hd : d = 19 ∨ d = 45 ∨ d = 61) (hq1 : q1 = 19 ∨ q1 = 45 ∨ q1 = 61) (h : Hp) : X (156, 0, [aR d, aR q1, aN], [], h) = X (156, 2, [aR d, aR q1, aI 0], [], h) := by
  rcases hd with rfl | rfl | rfl <;> rcases hq1 with rfl | rfl | rfl <;> exact (ev_eq [2] 300 _).symm
set_option maxRecDepth 20000 in
theorem e156_2 {d q1 : Nat} (hd : d = 19 ∨ d = 45 ∨ d = 61) (hq1 : q1 = 19 ∨ q1 = 45 ∨ q1 = 61) (v2 : Int) (h : Hp) : X (156, 2, [aR d, aR q1, aI v2], [], h) = cond (decide ((wr (h q1 4)) ≤ (wr v2)))
  (some (none, h))
  (cond (inb 12 v2)
    (cond (inb 12 v2)
    (cond (inb 12 v2)
    (cond (inb 12 v2)
    (bV (X (155, 0, [aR d, aI (h (q1 + 1) (wr v2)), aI (h (q1 + 2) (wr v2)), aI (h (q1 + 3) (wr v2)), aI (h (q1 + 4) (wr v2))], [], h)) (fun h1 =>
    X (156, 2, [aR d, aR q1, aI (v2 + 1)], [], h1)))
    none)
    none)
    none)
    none) := by
  rcases hd with rfl | rfl | rfl <;> rcases hq1 with rfl | rfl | rfl <;> exact (ev_eq [2] 300 _).symm
-- 157: NodBench$Guests.remove(I)V
set_option maxRecDepth 20000 in
theorem e157_0 {d : Nat} (hd : d = 19 ∨ d = 45 ∨ d = 61) (a1 : Int) (h : Hp) : X (157, 0, [aR d, aI a1, aN], [], h) = cond (cpB 12 12 (a1 + 1) a1 (((h d 4) - 1) - a1))
  (cond (cpB 12 12 (a1 + 1) a1 (((h d 4) - 1) - a1))
  (cond (cpB 12 12 (a1 + 1) a1 (((h d 4) - 1) - a1))
  (cond (cpB 12 12 (a1 + 1) a1 (((h d 4) - 1) - a1))
  (some (none, (up (cpy (cpy (cpy (cpy h (d + 1) (d + 1) (wr (a1 + 1)) (wr a1) (wr (((h d 4) - 1) - a1))) (d + 2) (d + 2) (wr (a1 + 1)) (wr a1) (wr (((h d 4) - 1) - a1))) (d + 3) (d + 3) (wr (a1 + 1)) (wr a1) (wr (((h d 4) - 1) - a1))) (d + 4) (d + 4) (wr (a1 + 1)) (wr a1) (wr (((h d 4) - 1) - a1))) d 4 (((cpy (cpy (cpy (cpy h (d + 1) (d + 1) (wr (a1 + 1)) (wr a1) (wr (((h d 4) - 1) - a1))) (d + 2) (d + 2) (wr (a1 + 1)) (wr a1) (wr (((h d 4) - 1) - a1))) (d + 3) (d + 3) (wr (a1 + 1)) (wr a1) (wr (((h d 4) - 1) - a1))) (d + 4) (d + 4) (wr (a1 + 1)) (wr a1) (wr (((h d 4) - 1) - a1))) d 4) - 1))))
  none)
  none)
  none)
  none := by
  rcases hd with rfl | rfl | rfl <;> exact (ev_eq [] 300 _).symm
-- 158: NodBench$Guests.copyFrom(LNodBench$Guests;)V
set_option maxRecDepth 20000 in
theorem e158_0 {d q1 : Nat} (hd : d = 19 ∨ d = 45 ∨ d = 61) (hq1 : q1 = 19 ∨ q1 = 45 ∨ q1 = 61) (h : Hp) : X (158, 0, [aR d, aR q1], [], h) = bV (X (156, 0, [aR d, aR q1, aN], [], (up h d 4 0))) (fun h1 =>
  some (none, h1)) := by
  rcases hd with rfl | rfl | rfl <;> rcases hq1 with rfl | rfl | rfl <;> exact (ev_eq [] 300 _).symm
-- 159: NodBench$Guests.makeChoosersPlain()V
set_option maxRecDepth 20000 in
theorem e159_0 {d : Nat} (hd : d = 19 ∨ d = 45 ∨ d = 61) (h : Hp) : X (159, 0, [aR d, aN], [], h) = X (159, 2, [aR d, aI 0], [], h) := by
  rcases hd with rfl | rfl | rfl <;> exact (ev_eq [2] 300 _).symm
set_option maxRecDepth 20000 in
theorem e159_2 {d : Nat} (hd : d = 19 ∨ d = 45 ∨ d = 61) (v1 : Int) (h : Hp) : X (159, 2, [aR d, aI v1], [], h) = cond (decide ((wr (h d 4)) ≤ (wr v1)))
  (some (none, h))
  (cond (inb 12 v1)
    (cond (decide ((wr (h (d + 2) (wr v1))) ≠ 1))
    (X (159, 2, [aR d, aI (v1 + 1)], [], h))
    (cond (inb 12 v1)
      (cond (inb 12 v1)
      (X (159, 2, [aR d, aI (v1 + 1)], [], (up (up h (d + 2) (wr v1) 0) (d + 4) (wr v1) 0)))
      none)
      none))
    none) := by
  rcases hd with rfl | rfl | rfl <;> exact (ev_eq [2] 300 _).symm
-- 160: NodBench$Guests.latest()I
set_option maxRecDepth 20000 in
theorem e160_0 {d : Nat} (hd : d = 19 ∨ d = 45 ∨ d = 61) (h : Hp) : X (160, 0, [aR d, aN, aN], [], h) = X (160, 4, [aR d, aI 0, aI 0], [], h) := by
  rcases hd with rfl | rfl | rfl <;> exact (ev_eq [4] 300 _).symm
set_option maxRecDepth 20000 in
theorem e160_4 {d : Nat} (hd : d = 19 ∨ d = 45 ∨ d = 61) (v1 v2 : Int) (h : Hp) : X (160, 4, [aR d, aI v1, aI v2], [], h) = cond (decide ((wr (h d 4)) ≤ (wr v2)))
  (some (some v1, h))
  (cond (inb 12 v2)
    (X (160, 4, [aR d, aI (jmax v1 (h (d + 1) (wr v2))), aI (v2 + 1)], [], h))
    none) := by
  rcases hd with rfl | rfl | rfl <;> exact (ev_eq [4] 300 _).symm
-- 161: NodBench$Guests.keepBefore(I)V
set_option maxRecDepth 20000 in
theorem e161_0 {d : Nat} (hd : d = 19 ∨ d = 45 ∨ d = 61) (a1 : Int) (h : Hp) : X (161, 0, [aR d, aI a1, aN], [], h) = X (161, 7, [aR d, aI a1, aI ((h d 4) - 1)], [], h) := by
  rcases hd with rfl | rfl | rfl <;> exact (ev_eq [7] 300 _).symm
set_option maxRecDepth 20000 in
theorem e161_7 {d : Nat} (hd : d = 19 ∨ d = 45 ∨ d = 61) (v1 v2 : Int) (h : Hp) : X (161, 7, [aR d, aI v1, aI v2], [], h) = cond (decide ((wr v2) < 0))
  (some (none, h))
  (cond (inb 12 v2)
    (cond (decide ((wr (h (d + 1) (wr v2))) < (wr v1)))
    (X (161, 7, [aR d, aI v1, aI (v2 + (-1))], [], h))
    (bV (X (157, 0, [aR d, aI v2, aN], [], h)) (fun h1 =>
      X (161, 7, [aR d, aI v1, aI (v2 + (-1))], [], h1))))
    none) := by
  rcases hd with rfl | rfl | rfl <;> exact (ev_eq [7] 300 _).symm
-- 162: NodBench$Guests.heads(I)I
set_option maxRecDepth 20000 in
theorem e162_0 {d : Nat} (hd : d = 19 ∨ d = 45 ∨ d = 61) (a1 : Int) (h : Hp) : X (162, 0, [aR d, aI a1], [], h) = cond (inb 12 a1)
  (cond (decide ((wr (h (d + 2) (wr a1))) ≠ 2))
  (some (some 1, h))
  (cond (inb 12 a1)
    (some (some (h (d + 4) (wr a1)), h))
    none))
  none := by
  rcases hd with rfl | rfl | rfl <;> exact (ev_eq [] 300 _).symm
-- 163: NodBench$Habits.clear()V
set_option maxRecDepth 20000 in
theorem e163_0 {d : Nat} (hd : d = 16 ∨ d = 42 ∨ d = 58) (h : Hp) : X (163, 0, [aR d, aN], [], h) = X (163, 2, [aR d, aI 0], [], h) := by
  rcases hd with rfl | rfl | rfl <;> exact (ev_eq [2] 300 _).symm
set_option maxRecDepth 20000 in
theorem e163_2 {d : Nat} (hd : d = 16 ∨ d = 42 ∨ d = 58) (v1 : Int) (h : Hp) : X (163, 2, [aR d, aI v1], [], h) = cond (decide (6 ≤ (wr v1)))
  (some (none, (up h d 2 0)))
  (cond (inb 6 v1)
    (X (163, 2, [aR d, aI (v1 + 1)], [], (up h (d + 1) (wr v1) 0)))
    none) := by
  rcases hd with rfl | rfl | rfl <;> exact (ev_eq [2] 300 _).symm
-- 164: NodBench$Habits.add(II)V
set_option maxRecDepth 20000 in
theorem e164_0 {d : Nat} (hd : d = 16 ∨ d = 42 ∨ d = 58) (a1 a2 : Int) (h : Hp) : X (164, 0, [aR d, aI a1, aI a2], [], h) = cond (inb 6 a1)
  (cond (inb 6 a1)
  (some (none, (up (up h (d + 1) (wr a1) (jor (h (d + 1) (wr a1)) (jshl 1 a2))) d 2 (((up h (d + 1) (wr a1) (jor (h (d + 1) (wr a1)) (jshl 1 a2))) d 2) + 1))))
  none)
  none := by
  rcases hd with rfl | rfl | rfl <;> exact (ev_eq [] 300 _).symm
-- 165: NodBench$Habits.copyFrom(LNodBench$Habits;)V
set_option maxRecDepth 20000 in
theorem e165_0 {d q1 : Nat} (hd : d = 16 ∨ d = 42 ∨ d = 58) (hq1 : q1 = 16 ∨ q1 = 42 ∨ q1 = 58) (h : Hp) : X (165, 0, [aR d, aR q1], [], h) = some (none, (up (cpy h (q1 + 1) (d + 1) 0 0 6) d 2 ((cpy h (q1 + 1) (d + 1) 0 0 6) q1 2))) := by
  rcases hd with rfl | rfl | rfl <;> rcases hq1 with rfl | rfl | rfl <;> exact (ev_eq [] 300 _).symm
-- 166: NodBench$Habits.goOver(II)Z
set_option maxRecDepth 20000 in
theorem e166_0 {d : Nat} (hd : d = 16 ∨ d = 42 ∨ d = 58) (a1 a2 : Int) (h : Hp) : X (166, 0, [aR d, aI a1, aI a2], [], h) = cond (inb 6 a1)
  (cond (decide ((wr (jand (jshr (h (d + 1) (wr a1)) a2) 1)) = 0))
  (some (some 0, h))
  (some (some 1, h)))
  none := by
  rcases hd with rfl | rfl | rfl <;> exact (ev_eq [] 300 _).symm
-- 167: NodBench$Habits.inRounds()I
set_option maxRecDepth 20000 in
theorem e167_0 {d : Nat} (hd : d = 16 ∨ d = 42 ∨ d = 58) (h : Hp) : X (167, 0, [aR d, aN, aN], [], h) = X (167, 17, [aR d, aI 0, aN], [], (cpy h (d + 1) (d + 2) 0 0 6)) := by
  rcases hd with rfl | rfl | rfl <;> exact (ev_eq [17, 25, 75] 300 _).symm
set_option maxRecDepth 20000 in
theorem e167_17 {d : Nat} (hd : d = 16 ∨ d = 42 ∨ d = 58) (v1 : Int) (w2 : AV) (h : Hp) : X (167, 17, [aR d, aI v1, w2], [], h) = cond (decide (6 ≤ (wr v1)))
  (X (167, 75, [aR d, aI 0, aI 0], [], h))
  (X (167, 25, [aR d, aI v1, aI 0], [], h)) := by
  rcases hd with rfl | rfl | rfl <;> exact (ev_eq [17, 25, 75] 300 _).symm
set_option maxRecDepth 20000 in
theorem e167_25 {d : Nat} (hd : d = 16 ∨ d = 42 ∨ d = 58) (v1 v2 : Int) (h : Hp) : X (167, 25, [aR d, aI v1, aI v2], [], h) = cond (decide (6 ≤ (wr v2)))
  (X (167, 17, [aR d, aI (v1 + 1), aI v2], [], h))
  (cond (inb 6 v2)
    (cond (decide ((wr (jand (jshr (h (d + 2) (wr v2)) v1) 1)) = 0))
    (X (167, 25, [aR d, aI v1, aI (v2 + 1)], [], h))
    (cond (inb 6 v2)
      (cond (inb 6 v1)
      (cond (inb 6 v2)
      (X (167, 25, [aR d, aI v1, aI (v2 + 1)], [], (up h (d + 2) (wr v2) (jor (h (d + 2) (wr v2)) (h (d + 2) (wr v1))))))
      none)
      none)
      none))
    none) := by
  rcases hd with rfl | rfl | rfl <;> exact (ev_eq [17, 25, 75] 300 _).symm
set_option maxRecDepth 20000 in
theorem e167_75 {d : Nat} (hd : d = 16 ∨ d = 42 ∨ d = 58) (v1 v2 : Int) (h : Hp) : X (167, 75, [aR d, aI v1, aI v2], [], h) = cond (decide (6 ≤ (wr v2)))
  (some (some v1, h))
  (cond (inb 6 v2)
    (X (167, 75, [aR d, aI (jor v1 (jand (h (d + 2) (wr v2)) (jshl 1 v2))), aI (v2 + 1)], [], h))
    none) := by
  rcases hd with rfl | rfl | rfl <;> exact (ev_eq [17, 25, 75] 300 _).symm
-- 168: NodBench$Orders.countOf(ILNodBench$Claims;)I
set_option maxRecDepth 20000 in
theorem e168_0 {q2 : Nat} (hq2 : q2 = 24 ∨ q2 = 50 ∨ q2 = 66) (a1 : Int) (h : Hp) : X (168, 0, [aR 76, aI a1, aR q2, aN, aN, aN, aN, aN, aN, aN], [], h) = bI (X (169, 0, [aR 76, aI a1, aN, aN], [], h)) (fun r1 h1 =>
  bI (X (126, 0, [aR q2], [], h1)) (fun r2 h2 =>
  X (168, 15, [aR 76, aI a1, aR q2, aI r1, aI r2, aI 0, aN, aN, aN, aN], [], h2))) := by
  rcases hq2 with rfl | rfl | rfl <;> exact (ev_eq [15, 61, 74] 300 _).symm
set_option maxRecDepth 20000 in
theorem e168_15 {q2 : Nat} (hq2 : q2 = 24 ∨ q2 = 50 ∨ q2 = 66) (v1 v3 v4 v5 : Int) (h : Hp) : X (168, 15, [aR 76, aI v1, aR q2, aI v3, aI v4, aI v5, aN, aN, aN, aN], [], h) = cond (decide ((wr v3) ≤ (wr v5)))
  (X (168, 61, [aR 76, aI v1, aR q2, aI v3, aI v4, aI ((jshl 1 v3) - 1), aI 1, aN, aN, aN], [], (up h 79 0 1)))
  (bI (X (170, 0, [aR 76, aI v5, aI v3, aI v4, aR q2, aN, aN], [], h)) (fun r1 h1 =>
    cond (inb 8 v5)
    (X (168, 15, [aR 76, aI v1, aR q2, aI v3, aI v4, aI (v5 + 1), aN, aN, aN, aN], [], (up h1 78 (wr v5) r1)))
    none)) := by
  rcases hq2 with rfl | rfl | rfl <;> exact (ev_eq [15, 61, 74] 300 _).symm
set_option maxRecDepth 20000 in
theorem e168_61 {q2 : Nat} (hq2 : q2 = 24 ∨ q2 = 50 ∨ q2 = 66) (v1 v3 v4 v5 v6 : Int) (w7 w8 w9 : AV) (h : Hp) : X (168, 61, [aR 76, aI v1, aR q2, aI v3, aI v4, aI v5, aI v6, w7, w8, w9], [], h) = cond (decide ((wr v5) < (wr v6)))
  (cond (inb 256 v5)
    (some (some (h 79 (wr v5)), h))
    none)
  (X (168, 74, [aR 76, aI v1, aR q2, aI v3, aI v4, aI v5, aI v6, aI 0, aI 0, w9], [], h)) := by
  rcases hq2 with rfl | rfl | rfl <;> exact (ev_eq [15, 61, 74] 300 _).symm
set_option maxRecDepth 20000 in
theorem e168_74 {q2 : Nat} (hq2 : q2 = 24 ∨ q2 = 50 ∨ q2 = 66) (v1 v3 v4 v5 v6 v7 v8 : Int) (w9 : AV) (h : Hp) : X (168, 74, [aR 76, aI v1, aR q2, aI v3, aI v4, aI v5, aI v6, aI v7, aI v8, w9], [], h) = cond (decide ((wr v3) ≤ (wr v8)))
  (cond (inb 256 v6)
    (X (168, 61, [aR 76, aI v1, aR q2, aI v3, aI v4, aI v5, aI (v6 + 1), aI v7, aI v8, w9], [], (up h 79 (wr v6) v7)))
    none)
  (cond (decide ((wr (jand v6 (jxor (jshl 1 v8) (-1)))) = (wr v6)))
    (X (168, 74, [aR 76, aI v1, aR q2, aI v3, aI v4, aI v5, aI v6, aI v7, aI (v8 + 1), aI (jand v6 (jxor (jshl 1 v8) (-1)))], [], h))
    (cond (inb 8 v8)
      (cond (decide ((wr (jand (h 78 (wr v8)) (jxor (jand v6 (jxor (jshl 1 v8) (-1))) (-1)))) ≠ 0))
      (X (168, 74, [aR 76, aI v1, aR q2, aI v3, aI v4, aI v5, aI v6, aI v7, aI (v8 + 1), aI (jand v6 (jxor (jshl 1 v8) (-1)))], [], h))
      (cond (inb 256 (jand v6 (jxor (jshl 1 v8) (-1))))
        (X (168, 74, [aR 76, aI v1, aR q2, aI v3, aI v4, aI v5, aI v6, aI (v7 + (h 79 (wr (jand v6 (jxor (jshl 1 v8) (-1)))))), aI (v8 + 1), aI (jand v6 (jxor (jshl 1 v8) (-1)))], [], h))
        none))
      none)) := by
  rcases hq2 with rfl | rfl | rfl <;> exact (ev_eq [15, 61, 74] 300 _).symm
-- 169: NodBench$Orders.choose(I)I
set_option maxRecDepth 20000 in
theorem e169_0 (a1 : Int) (h : Hp) : X (169, 0, [aR 76, aI a1, aN, aN], [], h) = X (169, 4, [aR 76, aI a1, aI 0, aI 0], [], h) := (ev_eq [4] 300 _).symm
set_option maxRecDepth 20000 in
theorem e169_4 (v1 v2 v3 : Int) (h : Hp) : X (169, 4, [aR 76, aI v1, aI v2, aI v3], [], h) = cond (decide (12 ≤ (wr v3)))
  (some (some v2, h))
  (cond (decide (8 ≤ (wr v2)))
    (some (some v2, h))
    (cond (decide ((wr (jand (jshr v1 v3) 1)) = 0))
      (X (169, 4, [aR 76, aI v1, aI v2, aI (v3 + 1)], [], h))
      (cond (inb 8 v2)
        (X (169, 4, [aR 76, aI v1, aI (v2 + 1), aI (v3 + 1)], [], (up h 77 (wr v2) v3)))
        none))) := (ev_eq [4] 300 _).symm
-- 170: NodBench$Orders.neededAhead(IIILNodBench$Claims;)I
set_option maxRecDepth 20000 in
theorem e170_0 {q4 : Nat} (hq4 : q4 = 24 ∨ q4 = 50 ∨ q4 = 66) (a1 a2 a3 : Int) (h : Hp) : X (170, 0, [aR 76, aI a1, aI a2, aI a3, aR q4, aN, aN], [], h) = X (170, 6, [aR 76, aI a1, aI a2, aI a3, aR q4, aI 0, aI 0], [], h) := by
  rcases hq4 with rfl | rfl | rfl <;> exact (ev_eq [6] 300 _).symm
set_option maxRecDepth 20000 in
theorem e170_6 {q4 : Nat} (hq4 : q4 = 24 ∨ q4 = 50 ∨ q4 = 66) (v1 v2 v3 v5 v6 : Int) (h : Hp) : X (170, 6, [aR 76, aI v1, aI v2, aI v3, aR q4, aI v5, aI v6], [], h) = cond (decide ((wr v2) ≤ (wr v6)))
  (some (some v5, h))
  (cond (inb 8 v6)
    (bI (X (127, 0, [aR q4, aI v3, aI (jshl 1 (h 77 (wr v6))), aN, aN], [], h)) (fun r1 h1 =>
    cond (inb 8 v1)
    (cond (decide ((wr (jand (jshr r1 (h1 77 (wr v1))) 1)) = 0))
    (X (170, 6, [aR 76, aI v1, aI v2, aI v3, aR q4, aI v5, aI (v6 + 1)], [], h1))
    (X (170, 6, [aR 76, aI v1, aI v2, aI v3, aR q4, aI (jor v5 (jshl 1 v6)), aI (v6 + 1)], [], h1)))
    none))
    none) := by
  rcases hq4 with rfl | rfl | rfl <;> exact (ev_eq [6] 300 _).symm
