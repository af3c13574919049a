/-! THE CASES: person, image and the like -/
theorem s_add {d : Nat} (hd : d = 19 ∨ d = 45 ∨ d = 61) {a1 a2 a3 a4 : Int} {h : Hp} (h0 : 0 ≤ h d 4) (h1 : h d 4 < 12) : X (155, 0, [aR d, aI a1, aI a2, aI a3, aI a4], [], h) = some (none, up (up (up (up (up h (d + 1) (h d 4) a1) (d + 2) (h d 4) a2) (d + 3) (h d 4) a3) (d + 4) (h d 4) a4) d 4 (h d 4 + 1)) := by
  rw [e155_0 hd]
  have n1 : ∀ g x k, up g (d + 1) k x d = g d := fun g x k => up_n _ _ _ (by omega)
  have n2 : ∀ g x k, up g (d + 2) k x d = g d := fun g x k => up_n _ _ _ (by omega)
  have n3 : ∀ g x k, up g (d + 3) k x d = g d := fun g x k => up_n _ _ _ (by omega)
  have n4 : ∀ g x k, up g (d + 4) k x d = g d := fun g x k => up_n _ _ _ (by omega)
  have e : wr (h d 4) = h d 4 := wr_id (by omega) (by omega)
  have i : inb 12 (h d 4) = true := inb_t h0 h1 (by omega)
  simp only [n1, n2, n3, n4, e, i, cond_t]
  rw [cd_f (by omega)]
theorem m_add {a1 a2 a3 a4 : Int} {h : Hp} (h0 : 0 ≤ h 81 24) (h1 : h 81 24 < 12) : X (51, 0, [aR 80, aI a1, aI a2, aI a3, aI a4, aN], [], h) = some (none, up (up (up (up (up h 81 (67 + 4 * h 81 24) a1) 81 (68 + 4 * h 81 24) a2) 81 (69 + 4 * h 81 24) a3) 81 (70 + 4 * h 81 24) a4) 81 24 (h 81 24 + 1)) := by
  rw [e51_0]
  have y0 : wr (67 + 4 * h 81 24) = 67 + 4 * h 81 24 := wr_id (by omega) (by omega)
  have y1 : wr (67 + 4 * h 81 24 + 1) = 68 + 4 * h 81 24 := by rw [wr_id (by omega) (by omega)]; omega
  have y2 : wr (67 + 4 * h 81 24 + 2) = 69 + 4 * h 81 24 := by rw [wr_id (by omega) (by omega)]; omega
  have y3 : wr (67 + 4 * h 81 24 + 3) = 70 + 4 * h 81 24 := by rw [wr_id (by omega) (by omega)]; omega
  rw [inb_t (by omega) (by omega) (by omega), inb_t (by omega) (by omega) (by omega), inb_t (by omega) (by omega) (by omega), inb_t (by omega) (by omega) (by omega)]
  simp only [y0, y1, y2, y3, cond_t]
  rw [up_o _ _ _ (show (24 : Int) ≠ 70 + 4 * h 81 24 by omega), up_o _ _ _ (show (24 : Int) ≠ 69 + 4 * h 81 24 by omega), up_o _ _ _ (show (24 : Int) ≠ 68 + 4 * h 81 24 by omega), up_o _ _ _ (show (24 : Int) ≠ 67 + 4 * h 81 24 by omega)]
theorem inv_folk {L : Nat} {xs : Nat → Int32} {h g : Hp} (hI : Inv L xs h) (f : ∀ p, ¬ (p = 1 ∨ (19 ≤ p ∧ p ≤ 26) ∨ (27 ≤ p ∧ p ≤ 52) ∨ p = 80 ∨ p = 81) → g p = h p) (h80 : g 80 2 = h 80 2 ∧ g 80 22 = h 80 22) (hst : g 1 15 = 1) (f81 : ∀ j, j < 24 ∨ (25 ≤ j ∧ j < 42) → g 81 j = h 81 j) (hg : RG 11 81 g ∧ ZG 81 g) (hw : RW 11 81 g ∧ ZW 81 g) (hD : Dr 24 g) : Inv L xs g := by
  obtain ⟨c1, c2, c3, c4, c5, c6⟩ := hI.2.1
  obtain ⟨d1, d2, d3, d4, d5, d6⟩ := hI.2.2.1
  refine inv_room hI (fun p hp => f p (by omega)) h80 hst ⟨RS_c (f _ (by decide)) (fun j j1 j2 => f81 j (by omega)) c1, RN_c (f _ (by decide)) (fun j j1 j2 => f81 j (by omega)) c2, RP_c (f _ (by decide)) (fun j j1 j2 => f81 j (by omega)) c3, hg.1, RH_c d5.1.2 (by rw [f _ (by decide)]) (f _ (by decide)) (fun j j1 j2 => f81 j (by omega)) c5, hw.1⟩ ⟨ZS_c (fun j j1 j2 => f81 j (by omega)) d1, ZN_c (fun j j1 j2 => f81 j (by omega)) d2, ZP_c (fun j j1 j2 => f81 j (by omega)) d3, hg.2, ZH_c (fun j j1 j2 => f81 j (by omega)) d5, hw.2⟩ hD
/-- one more of PEOPLE, in the room's rows and in the reference's -/
def uC (d : Nat) (h : Hp) (a1 a2 a3 a4 : Int) : Hp := up (up (up (up (up h (d + 1) (h d 4) a1) (d + 2) (h d 4) a2) (d + 3) (h d 4) a3) (d + 4) (h d 4) a4) d 4 (h d 4 + 1)
def uM (h : Hp) (a1 a2 a3 a4 : Int) : Hp := up (up (up (up (up h 81 (67 + 4 * h 81 24) a1) 81 (68 + 4 * h 81 24) a2) 81 (69 + 4 * h 81 24) a3) 81 (70 + 4 * h 81 24) a4) 81 24 (h 81 24 + 1)
theorem uC_o (d : Nat) (h : Hp) (a1 a2 a3 a4 : Int) {p : Nat} (hp : p < d ∨ d + 4 < p) : uC d h a1 a2 a3 a4 p = h p := by
  unfold uC
  rw [up_n _ _ _ (by omega), up_n _ _ _ (by omega), up_n _ _ _ (by omega), up_n _ _ _ (by omega), up_n _ _ _ (by omega)]
theorem uM_o (h : Hp) (a1 a2 a3 a4 : Int) {p : Nat} (hp : p ≠ 81) : uM h a1 a2 a3 a4 p = h p := by
  unfold uM
  rw [up_n _ _ _ hp, up_n _ _ _ hp, up_n _ _ _ hp, up_n _ _ _ hp, up_n _ _ _ hp]
theorem uM_w (h : Hp) (a1 a2 a3 a4 : Int) (hb : 0 ≤ h 81 24) {j : Int} (hj : j < 24 ∨ (25 ≤ j ∧ j < 67 + 4 * h 81 24)) : uM h a1 a2 a3 a4 81 j = h 81 j := by
  unfold uM
  rw [up_o _ _ _ (by omega), up_o _ _ _ (by omega), up_o _ _ _ (by omega), up_o _ _ _ (by omega), up_o _ _ _ (by omega)]
theorem uM_n (h : Hp) (a1 a2 a3 a4 : Int) : uM h a1 a2 a3 a4 81 24 = h 81 24 + 1 := up_s _ _ _ _
theorem uM_4 (h : Hp) (a1 a2 a3 a4 : Int) (hb : 0 ≤ h 81 24) : uM h a1 a2 a3 a4 81 (67 + 4 * h 81 24) = a1 ∧ uM h a1 a2 a3 a4 81 (68 + 4 * h 81 24) = a2 ∧ uM h a1 a2 a3 a4 81 (69 + 4 * h 81 24) = a3 ∧ uM h a1 a2 a3 a4 81 (70 + 4 * h 81 24) = a4 := by
  unfold uM
  refine ⟨?_, ?_, ?_, ?_⟩
  · rw [up_o _ _ _ (by omega), up_o _ _ _ (by omega), up_o _ _ _ (by omega), up_o _ _ _ (by omega), up_s]
  · rw [up_o _ _ _ (by omega), up_o _ _ _ (by omega), up_o _ _ _ (by omega), up_s]
  · rw [up_o _ _ _ (by omega), up_o _ _ _ (by omega), up_s]
  · rw [up_o _ _ _ (by omega), up_s]
theorem uC_n (d : Nat) (h : Hp) (a1 a2 a3 a4 : Int) : uC d h a1 a2 a3 a4 d 4 = h d 4 + 1 := up_s _ _ _ _
theorem uC_4 (d : Nat) (h : Hp) (a1 a2 a3 a4 : Int) : uC d h a1 a2 a3 a4 (d + 1) (h d 4) = a1 ∧ uC d h a1 a2 a3 a4 (d + 2) (h d 4) = a2 ∧ uC d h a1 a2 a3 a4 (d + 3) (h d 4) = a3 ∧ uC d h a1 a2 a3 a4 (d + 4) (h d 4) = a4 := by
  unfold uC
  refine ⟨?_, ?_, ?_, ?_⟩
  · rw [up_n _ _ _ (by omega), up_n _ _ _ (by omega), up_n _ _ _ (by omega), up_n _ _ _ (by omega), up_s]
  · rw [up_n _ _ _ (by omega), up_n _ _ _ (by omega), up_n _ _ _ (by omega), up_s]
  · rw [up_n _ _ _ (by omega), up_n _ _ _ (by omega), up_s]
  · rw [up_n _ _ _ (by omega), up_s]
theorem uC_w (d : Nat) (h : Hp) (a1 a2 a3 a4 : Int) {i : Int} (hi : i ≠ h d 4) {k : Nat} (hk : 1 ≤ k ∧ k ≤ 4) : uC d h a1 a2 a3 a4 (d + k) i = h (d + k) i := by
  unfold uC
  rw [up_n _ _ _ (by omega)]
  by_cases k4 : k = 4
  · subst k4; rw [up_o _ _ _ hi, up_n _ _ _ (by omega), up_n _ _ _ (by omega), up_n _ _ _ (by omega)]
  rw [up_n _ _ _ (by omega)]
  by_cases k3 : k = 3
  · subst k3; rw [up_o _ _ _ hi, up_n _ _ _ (by omega), up_n _ _ _ (by omega)]
  rw [up_n _ _ _ (by omega)]
  by_cases k2 : k = 2
  · subst k2; rw [up_o _ _ _ hi, up_n _ _ _ (by omega)]
  rw [up_n _ _ _ (by omega)]
  have k1 : k = 1 := by omega
  subst k1; rw [up_o _ _ _ hi]
/-- a row of four more on both sides keeps them alike -/
theorem RG_u {g : Hp} {a1 a2 a3 a4 : Int} (hl : lg a1 a2 a3 a4 = true) (hn : 0 ≤ g 81 24 ∧ g 81 24 < 12) (H : RG 11 81 g ∧ ZG 81 g) : RG 11 81 (uM (uC 19 g a1 a2 a3 a4) a1 a2 a3 a4) ∧ ZG 81 (uM (uC 19 g a1 a2 a3 a4) a1 a2 a3 a4) := by
  obtain ⟨⟨c1, c2⟩, ⟨d1, d2⟩⟩ := H
  have c1 : g 19 4 = g 81 24 := c1
  have e81 : uC 19 g a1 a2 a3 a4 81 = g 81 := uC_o _ _ _ _ _ _ (by omega)
  have n1 : uM (uC 19 g a1 a2 a3 a4) a1 a2 a3 a4 81 24 = g 81 24 + 1 := by rw [uM_n, e81]
  have m4 := uM_4 (uC 19 g a1 a2 a3 a4) a1 a2 a3 a4 (by rw [e81]; omega)
  rw [e81] at m4
  have mw : ∀ j, 67 ≤ j → j < 67 + 4 * g 81 24 → uM (uC 19 g a1 a2 a3 a4) a1 a2 a3 a4 81 j = g 81 j := fun j j1 j2 => by
    rw [uM_w _ _ _ _ _ (by rw [e81]; omega) (Or.inr ⟨by omega, by rw [e81]; omega⟩), e81]
  have c4 := uC_4 19 g a1 a2 a3 a4
  refine ⟨⟨?_, fun i i1 i2 => ?_⟩, ⟨?_, fun i i1 i2 => ?_⟩⟩
  · rw [n1, uM_o _ _ _ _ _ (by decide)]
    show uC 19 g a1 a2 a3 a4 19 4 = _
    rw [uC_n, c1]
  · rw [n1] at i2
    have o : ∀ p, p ≠ 81 → uM (uC 19 g a1 a2 a3 a4) a1 a2 a3 a4 p = uC 19 g a1 a2 a3 a4 p := fun p hp => uM_o _ _ _ _ _ hp
    rw [o (11 + 9) (by decide), o (11 + 10) (by decide), o (11 + 11) (by decide), o (11 + 12) (by decide)]
    by_cases hi : i = g 81 24
    · subst hi
      rw [m4.1, m4.2.1, m4.2.2.1, m4.2.2.2]
      rw [c1] at c4
      exact c4
    · rw [mw _ (by omega) (by omega), mw _ (by omega) (by omega), mw _ (by omega) (by omega), mw _ (by omega) (by omega)]
      have q := c2 i i1 (by omega)
      have w := fun k hk => uC_w 19 g a1 a2 a3 a4 (i := i) (by rw [c1]; exact hi) (k := k) hk
      exact ⟨(w 1 (by omega)).trans q.1, (w 2 (by omega)).trans q.2.1, (w 3 (by omega)).trans q.2.2.1, (w 4 (by omega)).trans q.2.2.2⟩
  · rw [n1]; omega
  · rw [n1] at i2
    by_cases hi : i = g 81 24
    · subst hi
      rw [m4.1, m4.2.1, m4.2.2.1, m4.2.2.2]; exact hl
    · rw [mw _ (by omega) (by omega), mw _ (by omega) (by omega), mw _ (by omega) (by omega), mw _ (by omega) (by omega)]
      exact d2 i i1 (by omega)
/-- one more guest in both, and the day stale: all is kept -/
theorem inv_u {L : Nat} {xs : Nat → Int32} {h : Hp} (hI : Inv L xs h) {a1 a2 a3 a4 : Int} (hl : lg a1 a2 a3 a4 = true) (hn : h 81 24 < 12) : Inv L xs (uM (up (uC 19 h a1 a2 a3 a4) 1 15 1) a1 a2 a3 a4) := by
  have hR := hI.2.1
  have hZ := hI.2.2.1
  have hb := hZ.2.2.2.1.1
  have hG := RG_u hl ⟨hb.1, hn⟩ ⟨hR.2.2.2.1, hZ.2.2.2.1⟩
  have com : uM (up (uC 19 h a1 a2 a3 a4) 1 15 1) a1 a2 a3 a4 = up (uM (uC 19 h a1 a2 a3 a4) a1 a2 a3 a4) 1 15 1 := by
    funext p i
    have e : up (uC 19 h a1 a2 a3 a4) 1 15 1 81 = uC 19 h a1 a2 a3 a4 81 := up_n _ _ _ (by decide)
    by_cases hp : p = 1
    · subst hp
      unfold uM
      rw [up_n _ _ _ (by decide), up_n _ _ _ (by decide), up_n _ _ _ (by decide), up_n _ _ _ (by decide), up_n _ _ _ (by decide)]
      unfold up
      simp
    · rw [up_n _ _ _ hp]
      unfold uM
      rw [e]
      unfold up
      simp [hp]
  rw [com]
  have f : ∀ p, ¬ (p = 1 ∨ (19 ≤ p ∧ p ≤ 23) ∨ p = 81) → up (uM (uC 19 h a1 a2 a3 a4) a1 a2 a3 a4) 1 15 1 p = h p := fun p hp => by
    rw [up_n _ _ _ (by omega), uM_o _ _ _ _ _ (by omega), uC_o _ _ _ _ _ _ (by omega)]
  have e81 : uC 19 h a1 a2 a3 a4 81 = h 81 := uC_o _ _ _ _ _ _ (by omega)
  have f81 : ∀ j, j < 24 ∨ (25 ≤ j ∧ j < 67) → up (uM (uC 19 h a1 a2 a3 a4) a1 a2 a3 a4) 1 15 1 81 j = h 81 j := fun j hj => by
    rw [up_n _ _ _ (by decide), uM_w _ _ _ _ _ (by rw [e81]; omega) (by rw [e81]; omega), e81]
  have n1 : up (uM (uC 19 h a1 a2 a3 a4) a1 a2 a3 a4) 1 15 1 81 24 = h 81 24 + 1 := by rw [up_n _ _ _ (by decide), uM_n, e81]
  have o : ∀ p, p ≠ 1 → up (uM (uC 19 h a1 a2 a3 a4) a1 a2 a3 a4) 1 15 1 p = uM (uC 19 h a1 a2 a3 a4) a1 a2 a3 a4 p := fun p hp => up_n _ _ _ hp
  refine inv_folk hI (fun p hp => f p (by omega)) ⟨by rw [f 80 (by decide)], by rw [f 80 (by decide)]⟩ (up_s _ _ _ _) (fun j hj => f81 j (by omega)) ⟨?_, ?_⟩ ⟨RW_c hZ.2.2.2.2.2.1.2 (by rw [f _ (by decide)]) (f _ (by decide)) (f _ (by decide)) (fun j j1 j2 => f81 j (by omega)) hR.2.2.2.2.2, ?_⟩ (Dr_congr (by rw [f 24 (by decide)]) (by rw [f 24 (by decide)]) (f _ (by decide)) (f _ (by decide)) hI.2.2.2.2.2.2.2)
  · have := hG.1
    unfold RG at this ⊢
    rw [o _ (by decide), o _ (by decide), o _ (by decide), o _ (by decide), o _ (by decide), o _ (by decide)]
    exact this
  · have := hG.2
    unfold ZG at this ⊢
    rw [o _ (by decide)]
    exact this
  · obtain ⟨w1, w2⟩ := hZ.2.2.2.2.2
    refine ⟨by rw [f81 42 (by omega)]; exact w1, fun i i1 i2 => ?_⟩
    rw [f81 42 (by omega)] at i2
    rw [f81 (43 + 2 * i) (by omega), f81 (44 + 2 * i) (by omega), n1]
    obtain ⟨y1, y2, y3⟩ := w2 i i1 i2
    exact ⟨by omega, by omega, y3⟩
theorem case_3 (L : Nat) (xs : Nat → Int32) : Cs_3 L xs := by
  intro h hI a1 a2 a3 a4 r1 r2 r3 r4
  have hS := hI.1
  have e1 : wr a1 = a1 := wr_id r1.1 r1.2
  have e2 : wr a2 = a2 := wr_id r2.1 r2.2
  have e3 : wr a3 = a3 := wr_id r3.1 r3.2
  have e4 : wr a4 = a4 := wr_id r4.1 r4.2
  have hn : h 19 4 = h 81 24 := hI.2.1.2.2.2.1.1
  have hb := hI.2.2.1.2.2.2.1.1
  cases hl : lg a1 a2 a3 a4
  · refine ⟨-1, h, h, ?_, hS, ?_, hI⟩
    · show X (3, 0, [aR 0, aI a1, aI a2, aI a3, aI a4], [], h) = _
      rw [e3_0, s_areLegal hS, bI_some, d_bi1, e1, e2, e3, e4, hl, cond_f]
    · show X (52, 0, [aR 80, aI a1, aI a2, aI a3, aI a4], [], h) = _
      rw [e52_0, s_mayBe, bI_some, d_bi1, e1, e2, e3, e4, hl, cond_f]
  by_cases h12 : h 81 24 < 12
  · have o1 : up (uC 19 h a1 a2 a3 a4) 1 15 1 81 = h 81 := by rw [up_n _ _ _ (by decide), uC_o _ _ _ _ _ _ (by omega)]
    refine ⟨h 81 24, up (uC 19 h a1 a2 a3 a4) 1 15 1, uM (up (uC 19 h a1 a2 a3 a4) 1 15 1) a1 a2 a3 a4, ?_, fun p hp => ?_, ?_, inv_u hI hl h12⟩
    · show X (3, 0, [aR 0, aI a1, aI a2, aI a3, aI a4], [], h) = _
      rw [e3_0, s_areLegal hS, bI_some, d_bi1, e1, e2, e3, e4, hl, cond_t, wr_id (by omega) (by omega), hn, cd_t h12, s_add (Or.inl rfl) (by omega) (by omega), bV_some]
      show some (some (up (uC 19 h a1 a2 a3 a4) 1 15 1 19 4 - 1), up (uC 19 h a1 a2 a3 a4) 1 15 1) = _
      rw [show up (uC 19 h a1 a2 a3 a4) 1 15 1 19 4 - 1 = h 81 24 by rw [up_n _ _ _ (by decide), uC_n, hn]; omega]
    · rw [up_n _ _ _ (by omega), uC_o _ _ _ _ _ _ (by omega)]; exact hS p hp
    · show X (52, 0, [aR 80, aI a1, aI a2, aI a3, aI a4], [], _) = _
      rw [e52_0, s_mayBe, bI_some, d_bi1, e1, e2, e3, e4, hl, cond_t, o1, wr_id (by omega) (by omega), cd_t (by omega), m_add (by rw [o1]; omega) (by rw [o1]; omega), bV_some]
      show some (some (uM (up (uC 19 h a1 a2 a3 a4) 1 15 1) a1 a2 a3 a4 81 24 - 1), uM (up (uC 19 h a1 a2 a3 a4) 1 15 1) a1 a2 a3 a4) = _
      rw [show uM (up (uC 19 h a1 a2 a3 a4) 1 15 1) a1 a2 a3 a4 81 24 - 1 = h 81 24 by rw [uM_n, o1]; omega]
  · refine ⟨-3, h, h, ?_, hS, ?_, hI⟩
    · show X (3, 0, [aR 0, aI a1, aI a2, aI a3, aI a4], [], h) = _
      rw [e3_0, s_areLegal hS, bI_some, d_bi1, e1, e2, e3, e4, hl, cond_t, wr_id (by omega) (by omega), hn, cd_f h12]
    · show X (52, 0, [aR 80, aI a1, aI a2, aI a3, aI a4], [], h) = _
      rw [e52_0, s_mayBe, bI_some, d_bi1, e1, e2, e3, e4, hl, cond_t, wr_id (by omega) (by omega), cd_f (by omega)]
