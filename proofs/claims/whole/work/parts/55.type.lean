/-! type -/
theorem sh_q : ∀ n, n < 64 → (((Int32.ofInt (n : Nat)).toInt64 &&& 63).toBitVec.smod 64).toNat = n := by decide +kernel
theorem sh_u : ∀ n, n < 64 → (((Int32.ofInt (n : Nat)).toInt64.toUInt64 &&& Int64.toUInt64 63).toBitVec % 64#64).toNat = n := by decide +kernel
theorem qbit (a : BitVec 64) {s : Nat} (hs : s < 57) : (a >>> s) &&& 255#64 = (a.sshiftRight s) &&& 255#64 := by
  apply BitVec.eq_of_getLsbD_eq
  intro j hj
  rw [BitVec.getLsbD_and, BitVec.getLsbD_and, BitVec.getLsbD_ushiftRight, BitVec.getLsbD_sshiftRight]
  by_cases c : j < 8
  · rw [if_pos (by omega), decide_eq_false (by omega)]; rfl
  · have : (255#64).getLsbD j = false := by
      have : (255#64) = (BitVec.setWidth 64 (255#8)) := by decide
      rw [this, BitVec.getLsbD_setWidth, BitVec.getLsbD_of_ge _ _ (by omega)]; simp
    rw [this]; simp
theorem qbyte (x : Int) {n : Nat} (hn : n < 57) : qand (qushr x n) 255 = qand (qshr x n) 255 := by
  unfold qand qushr qshr
  rw [Int64.ofInt_toInt, Int64.ofInt_toInt]
  congr 1
  apply Int64.toBitVec_inj.mp
  rw [Int64.toBitVec_and, Int64.toBitVec_and]
  have e1 : ((Int64.ofInt x).toUInt64 >>> ((Int32.ofInt (n : Int)).toInt64.toUInt64 &&& Int64.toUInt64 63)).toInt64.toBitVec = (Int64.ofInt x).toBitVec >>> n := by
    show (Int64.ofInt x).toBitVec >>> (((Int32.ofInt (n : Int)).toInt64.toUInt64 &&& Int64.toUInt64 63).toBitVec % 64#64) = _
    rw [BitVec.ushiftRight_eq', sh_u n (by omega)]
  have e2 : (Int64.ofInt x >>> ((Int32.ofInt (n : Int)).toInt64 &&& 63)).toBitVec = (Int64.ofInt x).toBitVec.sshiftRight n := by
    show (Int64.ofInt x).toBitVec.sshiftRight' (((Int32.ofInt (n : Int)).toInt64 &&& 63).toBitVec.smod 64) = _
    unfold BitVec.sshiftRight'
    rw [sh_q n (by omega)]
  rw [e1, e2]
  exact qbit _ hn
theorem qand_r (y : Int) : 0 ≤ qand y 255 ∧ qand y 255 ≤ 255 := by
  unfold qand
  have : (Int64.ofInt y &&& Int64.ofInt 255).toInt = (((Int64.ofInt y).toBitVec &&& 255#64).toNat : Int) := by
    show (((Int64.ofInt y).toBitVec &&& 255#64)).toInt = _
    rw [BitVec.toInt_eq_toNat_of_lt]
    rw [BitVec.toNat_and]
    have := Nat.and_le_right (n := (Int64.ofInt y).toBitVec.toNat) (m := (255#64).toNat)
    have e : (255#64).toNat = 255 := rfl
    omega
  rw [this, BitVec.toNat_and]
  have := Nat.and_le_right (n := (Int64.ofInt y).toBitVec.toNat) (m := (255#64).toNat)
  have e : (255#64).toNat = 255 := rfl
  omega
def byt (W i : Int) : Int := qand (qshr W (8 * i)) 255
def bok (W i : Int) : Prop := 32 ≤ byt W i ∧ byt W i ≤ 126
theorem byt_r (W i : Int) : 0 ≤ byt W i ∧ byt W i ≤ 255 := qand_r _
theorem byt_u (W : Int) {i : Int} (h0 : 0 ≤ i) (h8 : i < 8) : qand (qushr W (8 * i)) 255 = byt W i := by
  obtain ⟨n, rfl⟩ : ∃ n : Nat, i = n := ⟨i.toNat, by omega⟩
  unfold byt
  rw [show 8 * (n : Int) = ((8 * n : Nat) : Int) by omega]
  exact qbyte W (by omega)
theorem s_signsL {W n : Int} {h : Hp} (hn : 1 ≤ n ∧ n ≤ 8) : ∀ (k : Nat) (i : Int) (w : AV), 0 ≤ i → i + k = n → ∃ b : Bool, X (177, 2, [aL W, aN, aI n, aI i, w], [], h) = some (some (bi b), h) ∧ (b = true ↔ ∀ j, i ≤ j → j < n → bok W j)
  | 0, i, w, i0, hk => by
    refine ⟨true, ?_, ⟨fun _ j j0 j1 => by omega, fun _ => rfl⟩⟩
    rw [e177_2, wr_id (x := n) (by omega) (by omega), wr_id (x := i) (by omega) (by omega), cd_t (by omega)]; rfl
  | k + 1, i, w, i0, hk => by
    have r := byt_r W i
    rw [e177_2, wr_id (x := n) (by omega) (by omega), wr_id (x := i) (by omega) (by omega), cd_f (by omega), byt_u W i0 (by omega), wr_id (x := byt W i) (by omega) (by omega)]
    by_cases c1 : byt W i < 32
    · rw [cd_t c1]
      exact ⟨false, rfl, ⟨fun z => absurd z (by decide), fun z => by have : bok W i := z i (by omega) (by omega); unfold bok at this; omega⟩⟩
    · rw [cd_f c1]
      by_cases c2 : byt W i ≤ 126
      · rw [cd_t c2]
        obtain ⟨b, b1, b2⟩ := s_signsL (W := W) (h := h) hn k (i + 1) (aI (byt W i)) (by omega) (by omega)
        refine ⟨b, b1, b2.trans ⟨fun z j j0 j1 => ?_, fun z j j0 j1 => z j (by omega) j1⟩⟩
        by_cases e : j = i
        · rw [e]; exact ⟨by omega, c2⟩
        · exact z j (by omega) j1
      · rw [cd_f c2]
        exact ⟨false, rfl, ⟨fun z => absurd z (by decide), fun z => by have : bok W i := z i (by omega) (by omega); unfold bok at this; omega⟩⟩
theorem m_signsL {W n : Int} {h : Hp} (hn : 1 ≤ n ∧ n ≤ 8) : ∀ (k : Nat), (k : Int) ≤ n → ∃ b : Bool, X (55, 19, [aR 80, aL W, aN, aI n, aI ((k : Int) - 1)], [], h) = cond b (X (55, 19, [aR 80, aL W, aN, aI n, aI (-1)], [], h)) (some (some (-1), h)) ∧ (b = true ↔ ∀ j, 0 ≤ j → j < (k : Int) → bok W j)
  | 0, hk => ⟨true, rfl, ⟨fun _ j j0 j1 => by omega, fun _ => rfl⟩⟩
  | k + 1, hk => by
    have r := byt_r W k
    rw [show ((k + 1 : Nat) : Int) - 1 = (k : Int) by omega, e55_19, wr_id (x := (k : Int)) (by omega) (by omega), cd_f (by omega)]
    rw [show qand (qshr W (8 * (k : Int))) 255 = byt W k from rfl, s_in h (by omega) (by omega) (by omega), bI_some, d_bi1, show (k : Int) + (-1) = (k : Int) - 1 by omega]
    unfold iin
    by_cases c : 32 ≤ byt W k ∧ byt W k ≤ 126
    · rw [decide_eq_true c, cond_t]
      obtain ⟨b, b1, b2⟩ := m_signsL (W := W) (h := h) hn k (by omega)
      refine ⟨b, b1, b2.trans ⟨fun z j j0 j1 => ?_, fun z j j0 j1 => z j j0 (by omega)⟩⟩
      by_cases e : j = k
      · rw [e]; exact c
      · exact z j j0 (by omega)
    · rw [decide_eq_false c, cond_f]
      exact ⟨false, rfl, ⟨fun z => absurd z (by decide), fun z => absurd (z k (by omega) (by omega)) c⟩⟩
theorem s_tapeL {W n : Int} (hn : 1 ≤ n ∧ n ≤ 8) : ∀ (k : Nat) (l : Int) (h : Hp), (k : Int) ≤ n → h 70 1 = l → 0 ≤ l → l + k ≤ 80 → ∃ g, X (178, 5, [aR 70, aL W, aN, aI n, aI ((k : Int) - 1)], [], h) = some (none, g) ∧ (∀ q, q ≠ 70 → q ≠ 71 → g q = h q) ∧ (∀ j, j ≠ 1 → g 70 j = h 70 j) ∧ g 70 1 = l + k ∧ ∀ j, g 71 j = if l ≤ j ∧ j < l + k then byt W (l + k - 1 - j) else h 71 j
  | 0, l, h, hk, h1, l0, l1 => by
    refine ⟨h, ?_, fun _ _ _ => rfl, fun _ _ => rfl, by omega, fun j => by rw [if_neg (by omega)]⟩
    rw [e178_5, cd_t (by decide)]
  | k + 1, l, h, hk, h1, l0, l1 => by
    have i1 : inb 80 l = true := inb_t l0 (by omega) (by omega)
    rw [show ((k + 1 : Nat) : Int) - 1 = (k : Int) by omega, e178_5, wr_id (x := (k : Int)) (by omega) (by omega), cd_f (by omega), h1, wr_id (x := l) (by omega) (by omega), cd_f (by omega), i1, cond_t, byt_u W (by omega) (by omega), show (k : Int) + (-1) = (k : Int) - 1 by omega, up_n h l (byt W k) (by decide : 70 ≠ 71), h1]
    obtain ⟨g, g1, g2, g3, g4, g5⟩ := s_tapeL hn k (l + 1) (up (up h 71 l (byt W k)) 70 1 (l + 1)) (by omega) (up_s _ _ _ _) (by omega) (by omega)
    refine ⟨g, g1, fun q q1 q2 => by rw [g2 q q1 q2, up_n _ _ _ q1, up_n _ _ _ q2], fun j hj => by rw [g3 j hj, up_o _ _ _ hj, up_n _ _ _ (by decide)], by rw [g4]; omega, fun j => ?_⟩
    rw [g5 j, up_n _ _ _ (by decide)]
    by_cases e : j = l
    · rw [if_neg (by omega), if_pos (by omega), e, up_s, show l + ((k + 1 : Nat) : Int) - 1 - l = (k : Int) by omega]
    · rw [up_o _ _ _ e]
      by_cases c : l + 1 ≤ j ∧ j < l + 1 + k
      · rw [if_pos c, if_pos (by omega), show l + 1 + (k : Int) - 1 - j = l + ((k + 1 : Nat) : Int) - 1 - j by omega]
      · rw [if_neg c, if_neg (by omega)]
theorem m_tapeL {W n : Int} (hn : 1 ≤ n ∧ n ≤ 8) : ∀ (k : Nat) (l : Int) (h : Hp), (k : Int) ≤ n → h 80 2 = l → 0 ≤ l → l + k ≤ 80 → ∃ g, X (55, 74, [aR 80, aL W, aN, aI n, aI ((k : Int) - 1)], [], h) = some (some (l + k), g) ∧ (∀ q, q ≠ 80 → q ≠ 82 → g q = h q) ∧ (∀ j, j ≠ 2 → g 80 j = h 80 j) ∧ g 80 2 = l + k ∧ ∀ j, g 82 j = if l ≤ j ∧ j < l + k then byt W (l + k - 1 - j) else h 82 j
  | 0, l, h, hk, h1, l0, l1 => by
    refine ⟨h, ?_, fun _ _ _ => rfl, fun _ _ => rfl, by omega, fun j => by rw [if_neg (by omega)]⟩
    rw [e55_74, cd_t (by decide), h1, show l + ((0 : Nat) : Int) = l by omega]
  | k + 1, l, h, hk, h1, l0, l1 => by
    have i1 : inb 80 l = true := inb_t l0 (by omega) (by omega)
    rw [show ((k + 1 : Nat) : Int) - 1 = (k : Int) by omega, e55_74, wr_id (x := (k : Int)) (by omega) (by omega), cd_f (by omega), h1, wr_id (x := l) (by omega) (by omega), i1, cond_t, show qand (qshr W (8 * (k : Int))) 255 = byt W k from rfl, show (k : Int) + (-1) = (k : Int) - 1 by omega, up_n h l (byt W k) (by decide : 80 ≠ 82), h1]
    obtain ⟨g, g1, g2, g3, g4, g5⟩ := m_tapeL hn k (l + 1) (up (up h 82 l (byt W k)) 80 2 (l + 1)) (by omega) (up_s _ _ _ _) (by omega) (by omega)
    refine ⟨g, by rw [g1, show l + 1 + (k : Int) = l + ((k + 1 : Nat) : Int) by omega], fun q q1 q2 => by rw [g2 q q1 q2, up_n _ _ _ q1, up_n _ _ _ q2], fun j hj => by rw [g3 j hj, up_o _ _ _ hj, up_n _ _ _ (by decide)], by rw [g4]; omega, fun j => ?_⟩
    rw [g5 j, up_n _ _ _ (by decide)]
    by_cases e : j = l
    · rw [if_neg (by omega), if_pos (by omega), e, up_s, show l + ((k + 1 : Nat) : Int) - 1 - l = (k : Int) by omega]
    · rw [up_o _ _ _ e]
      by_cases c : l + 1 ≤ j ∧ j < l + 1 + k
      · rw [if_pos c, if_pos (by omega), show l + 1 + (k : Int) - 1 - j = l + ((k + 1 : Nat) : Int) - 1 - j by omega]
      · rw [if_neg c, if_neg (by omega)]
/-- a change of the tape alone -/
theorem inv_tape {L : Nat} {xs : Nat → Int32} {h g : Hp} (hI : Inv L xs h) (f : ∀ p, ¬ (p = 70 ∨ p = 71 ∨ p = 80 ∨ p = 82 ∨ p = 83) → g p = h p) (h80 : g 80 22 = h 80 22) (hT : Tp g) : Inv L xs g := by
  obtain ⟨q1, q2, q3, q4, q5, q6, q7, q8⟩ := hI
  refine ⟨fun p hp => by rw [f p (by omega)]; exact q1 p hp, RR_congr (fun p hp => f p (by omega)) (by rw [f _ (by decide)]) (by rw [f _ (by decide)]) (by rw [f _ (by decide)]) (f _ (by decide)) q2, Zz_congr (f _ (by decide)) q3, Kp_congr (by rw [f _ (by decide)]) h80 (fun p h1 h2 => f p (by omega)) (f _ (by decide)) q4, hT, Sh_congr (fun p hp => f p (by omega)) q6, ?_, Dr_congr (by rw [f _ (by decide)]) (by rw [f _ (by decide)]) (f _ (by decide)) (f _ (by decide)) q8⟩
  rw [f 1 (by decide)]
  exact q7.imp (fun ⟨y1, y2⟩ => ⟨y1, Fd_congr (fun p hp => f p (by omega)) (by rw [f 1 (by decide)]) y2⟩) id
theorem case_6 (L : Nat) (xs : Nat → Int32) : Cs_6 L xs := by
  intro h hI a1 a2 a3 r1 r2 r3
  have hS := hI.1
  have e3 : wr a3 = a3 := wr_id r3.1 r3.2
  generalize qor (qshl (wr a1) 32) (qand (wr a2) 4294967295) = W
  obtain ⟨t1, t2, t3⟩ := hI.2.2.2.2.1
  have qs := e6_0 W a3 h
  rw [e3] at qs
  have qm : ∀ g, _ := fun g => e55_0 W a3 g
  by_cases p1 : 1 ≤ a3 ∧ a3 ≤ 8
  · have qm1 : ∀ g, X (55, 0, [aR 80, aL W, aN, aI a3, aN], [], g) = X (55, 19, [aR 80, aL W, aN, aI a3, aI (a3 - 1)], [], g) := fun g => by
      rw [e55_0, s_inw g (by omega) (by omega), bI_some, d_bi1, e3, show iin a3 1 8 = true from decide_eq_true p1, cond_t]
    obtain ⟨b, b1, b2⟩ := s_signsL (W := W) (h := h) p1 a3.toNat 0 aN (by omega) (by omega)
    rw [cd_f (by omega), cd_f (by omega), e177_0, b1, bI_some, d_bi1] at qs
    have ms : ∀ g, X (55, 0, [aR 80, aL W, aN, aI a3, aN], [], g) = cond b (X (55, 19, [aR 80, aL W, aN, aI a3, aI (-1)], [], g)) (some (some (-1), g)) := fun g => by
      obtain ⟨b', c1, c2⟩ := m_signsL (W := W) (h := g) p1 a3.toNat (by omega)
      rw [show ((a3.toNat : Nat) : Int) - 1 = a3 - 1 by omega] at c1
      have e : b' = b := by
        have q : b' = true ↔ b = true := by
          rw [c2, b2]
          exact ⟨fun z j j0 j1 => z j j0 (by omega), fun z j j0 j1 => z j j0 (by omega)⟩
        cases b <;> cases b' <;> first | rfl | exact absurd (q.mp rfl) (by decide) | exact absurd (q.mpr rfl) (by decide)
      rw [qm1, c1, e]
    cases hb : b
    · rw [hb, cond_f] at qs
      have m := ms h
      rw [hb, cond_f] at m
      exact ⟨-1, h, h, qs, hS, m, hI⟩
    · subst hb
      rw [cond_t, t1, wr_id (x := h 80 2 + a3) (by omega) (by omega)] at qs
      have bo := b2.mp rfl
      by_cases full : h 80 2 + a3 ≤ 80
      · obtain ⟨g, g1, g2, g3, g4, g5⟩ := s_tapeL (W := W) p1 a3.toNat (h 80 2) h (by omega) t1 t2.1 (by omega)
        rw [show ((a3.toNat : Nat) : Int) - 1 = a3 - 1 by omega] at g1
        rw [show ((a3.toNat : Nat) : Int) = a3 by omega] at g4 g5
        rw [cd_t full, e178_0, g1, bV_some, g4] at qs
        have z80 : g 80 = h 80 := g2 80 (by decide) (by decide)
        have m := ms g
        obtain ⟨gm, m1, m2, m3, m4, m5⟩ := m_tapeL (W := W) p1 a3.toNat (h 80 2) g (by omega) (by rw [z80]) t2.1 (by omega)
        rw [show ((a3.toNat : Nat) : Int) - 1 = a3 - 1 by omega, show ((a3.toNat : Nat) : Int) = a3 by omega] at m1
        rw [show ((a3.toNat : Nat) : Int) = a3 by omega] at m4 m5
        rw [cond_t, e55_19, cd_t (by decide), z80, wr_id (x := h 80 2 + a3) (by omega) (by omega), cd_t full, m1] at m
        refine ⟨h 80 2 + a3, g, gm, qs, fun p hp => by rw [g2 p (by omega) (by omega)]; exact hS p hp, m, inv_tape hI (fun p hp => by rw [m2 p (by omega) (by omega), g2 p (by omega) (by omega)]) (by rw [m3 22 (by decide), z80]) ⟨?_, by rw [m4]; omega, fun i i0 i1 => ?_⟩⟩
        · rw [m2 70 (by decide) (by decide), g4, m4]
        · rw [m4] at i1
          rw [m2 71 (by decide) (by decide), g5, m5, g2 82 (by decide) (by decide)]
          by_cases c : h 80 2 ≤ i ∧ i < h 80 2 + a3
          · rw [if_pos c, if_pos c]
            exact ⟨rfl, bo _ (by omega) (by omega)⟩
          · rw [if_neg c, if_neg c]
            exact t3 i i0 (by omega)
      · rw [cd_f full] at qs
        have m := ms h
        rw [cond_t, e55_19, cd_t (by decide), wr_id (x := h 80 2 + a3) (by omega) (by omega), cd_f full] at m
        exact ⟨-3, h, h, qs, hS, m, hI⟩
  · have qm := qm h
    rw [s_inw h (by omega) (by omega), bI_some, d_bi1, e3, show iin a3 1 8 = false from decide_eq_false p1, cond_f] at qm
    by_cases c : a3 < 1
    · rw [cd_t c] at qs
      exact ⟨-1, h, h, qs, hS, qm, hI⟩
    · rw [cd_f c, cd_t (by omega)] at qs
      exact ⟨-1, h, h, qs, hS, qm, hI⟩
