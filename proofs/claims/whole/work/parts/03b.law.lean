def chkP2 (m i n : Nat) : Bool := (((prg m).zipIdx.drop i).take n).all (fun q => q.1.1 == 99 || chk m q.2 q.1.1 q.1.2.1 q.1.2.2.1 q.1.2.2.2)
theorem cq0 : chkP2 187 0 64 = true := by decide +kernel
theorem cq1 : chkP2 187 64 64 = true := by decide +kernel
theorem cq2 : chkP2 187 128 64 = true := by decide +kernel
theorem cq3 : chkP2 187 192 64 = true := by decide +kernel
theorem cq4 : chkP2 187 256 64 = true := by decide +kernel
theorem cq5 : chkP2 187 320 64 = true := by decide +kernel
theorem cq6 : chkP2 187 384 64 = true := by decide +kernel
theorem cq7 : chkP2 187 448 64 = true := by decide +kernel
theorem cq8 : chkP2 187 512 64 = true := by decide +kernel
theorem cq9 : chkP2 187 576 64 = true := by decide +kernel
theorem cq10 : chkP2 187 640 64 = true := by decide +kernel
theorem cq11 : chkP2 187 704 64 = true := by decide +kernel
theorem cq12 : chkP2 187 768 64 = true := by decide +kernel
theorem cq13 : chkP2 187 832 64 = true := by decide +kernel
theorem cq14 : chkP2 187 896 64 = true := by decide +kernel
theorem cq15 : chkP2 187 960 64 = true := by decide +kernel
theorem cq16 : chkP2 187 1024 64 = true := by decide +kernel
theorem cq17 : chkP2 187 1088 64 = true := by decide +kernel
theorem cq18 : chkP2 187 1152 64 = true := by decide +kernel
theorem cq19 : chkP2 187 1216 64 = true := by decide +kernel
theorem chk_piece {m i n : Nat} (h : chkP2 m i n = true) {pc : Nat} (h1 : i ≤ pc) (h2 : pc < i + n) {e : Nat × Nat × Nat × Int} (he : (prg m)[pc]? = some e) : (e.1 == 99 || chk m pc e.1 e.2.1 e.2.2.1 e.2.2.2) = true := by
  refine List.all_eq_true.mp h (e, pc) (List.mem_of_getElem? (i := pc - i) ?_)
  rw [List.getElem?_take, if_pos (by omega), List.getElem?_drop, show i + (pc - i) = pc by omega, List.getElem?_zipIdx, he]
  simp
theorem chk_all {m : Nat} (h : chkAll m = true) {pc : Nat} {e : Nat × Nat × Nat × Int} (he : (prg m)[pc]? = some e) : (e.1 == 99 || chk m pc e.1 e.2.1 e.2.2.1 e.2.2.2) = true := by
  refine List.all_eq_true.mp h (e, pc) (List.mem_of_getElem? (i := pc) ?_)
  rw [List.getElem?_zipIdx, he]
  simp
theorem law_len : (prg 187).length = 1221 := by decide +kernel
theorem chk_ok (m pc : Nat) (e : Nat × Nat × Nat × Int) (he : (prg m)[pc]? = some e) : (e.1 == 99 || chk m pc e.1 e.2.1 e.2.2.1 e.2.2.2) = true := by
  have hm : m < 188 := by
    apply Classical.byContradiction
    intro q
    unfold prg at he
    rw [List.getD_eq_getElem?_getD, show prL[m]? = none from List.getElem?_eq_none (by show 188 ≤ m; omega)] at he
    simp at he
  rcases Nat.lt_or_ge m 30 with q | q
  · exact chk_all (List.all_eq_true.mp ck0 m (List.mem_range.mpr q)) he
  rcases Nat.lt_or_ge m 60 with q1 | q1
  · exact chk_all (List.all_eq_true.mp ck1 m (by rw [List.mem_range'_1]; omega)) he
  rcases Nat.lt_or_ge m 100 with q2 | q2
  · exact chk_all (List.all_eq_true.mp ck2 m (by rw [List.mem_range'_1]; omega)) he
  rcases Nat.lt_or_ge m 140 with q3 | q3
  · exact chk_all (List.all_eq_true.mp ck3 m (by rw [List.mem_range'_1]; omega)) he
  rcases Nat.lt_or_ge m 187 with q4 | q4
  · exact chk_all (List.all_eq_true.mp ck4 m (by rw [List.mem_range'_1]; omega)) he
  have hm2 : m = 187 := by omega
  subst hm2
  have hp : pc < 1221 := by
    rw [← law_len]; exact (List.getElem?_eq_some_iff.mp he).1
  rcases Nat.lt_or_ge pc 64 with p0 | p0
  · exact chk_piece cq0 (by omega) (by omega) he
  rcases Nat.lt_or_ge pc 128 with p1 | p1
  · exact chk_piece cq1 (by omega) (by omega) he
  rcases Nat.lt_or_ge pc 192 with p2 | p2
  · exact chk_piece cq2 (by omega) (by omega) he
  rcases Nat.lt_or_ge pc 256 with p3 | p3
  · exact chk_piece cq3 (by omega) (by omega) he
  rcases Nat.lt_or_ge pc 320 with p4 | p4
  · exact chk_piece cq4 (by omega) (by omega) he
  rcases Nat.lt_or_ge pc 384 with p5 | p5
  · exact chk_piece cq5 (by omega) (by omega) he
  rcases Nat.lt_or_ge pc 448 with p6 | p6
  · exact chk_piece cq6 (by omega) (by omega) he
  rcases Nat.lt_or_ge pc 512 with p7 | p7
  · exact chk_piece cq7 (by omega) (by omega) he
  rcases Nat.lt_or_ge pc 576 with p8 | p8
  · exact chk_piece cq8 (by omega) (by omega) he
  rcases Nat.lt_or_ge pc 640 with p9 | p9
  · exact chk_piece cq9 (by omega) (by omega) he
  rcases Nat.lt_or_ge pc 704 with p10 | p10
  · exact chk_piece cq10 (by omega) (by omega) he
  rcases Nat.lt_or_ge pc 768 with p11 | p11
  · exact chk_piece cq11 (by omega) (by omega) he
  rcases Nat.lt_or_ge pc 832 with p12 | p12
  · exact chk_piece cq12 (by omega) (by omega) he
  rcases Nat.lt_or_ge pc 896 with p13 | p13
  · exact chk_piece cq13 (by omega) (by omega) he
  rcases Nat.lt_or_ge pc 960 with p14 | p14
  · exact chk_piece cq14 (by omega) (by omega) he
  rcases Nat.lt_or_ge pc 1024 with p15 | p15
  · exact chk_piece cq15 (by omega) (by omega) he
  rcases Nat.lt_or_ge pc 1088 with p16 | p16
  · exact chk_piece cq16 (by omega) (by omega) he
  rcases Nat.lt_or_ge pc 1152 with p17 | p17
  · exact chk_piece cq17 (by omega) (by omega) he
  rcases Nat.lt_or_ge pc 1216 with p18 | p18
  · exact chk_piece cq18 (by omega) (by omega) he
  exact chk_piece cq19 (by omega) (by omega) he
