/-! more -/
theorem RG_w {g : Hp} {a1 a2 a3 a4 : Int} (hl : lg a1 a2 a3 a4 = true) (hn : 0 ≤ g 81 24 ∧ g 81 24 < 12) (H : RG 37 81 g ∧ ZG 81 g) : RG 37 81 (uM (uC 45 g a1 a2 a3 a4) a1 a2 a3 a4) ∧ ZG 81 (uM (uC 45 g a1 a2 a3 a4) a1 a2 a3 a4) := by
  obtain ⟨⟨c1, c2⟩, ⟨d1, d2⟩⟩ := H
  have c1 : g 45 4 = g 81 24 := c1
  have e81 : uC 45 g a1 a2 a3 a4 81 = g 81 := uC_o _ _ _ _ _ _ (by omega)
  have n1 : uM (uC 45 g a1 a2 a3 a4) a1 a2 a3 a4 81 24 = g 81 24 + 1 := by rw [uM_n, e81]
  have m4 := uM_4 (uC 45 g a1 a2 a3 a4) a1 a2 a3 a4 (by rw [e81]; omega)
  rw [e81] at m4
  have mw : ∀ j, 67 ≤ j → j < 67 + 4 * g 81 24 → uM (uC 45 g a1 a2 a3 a4) a1 a2 a3 a4 81 j = g 81 j := fun j j1 j2 => by
    rw [uM_w _ _ _ _ _ (by rw [e81]; omega) (Or.inr ⟨by omega, by rw [e81]; omega⟩), e81]
  have c4 := uC_4 45 g a1 a2 a3 a4
  refine ⟨⟨?_, fun i i1 i2 => ?_⟩, ⟨?_, fun i i1 i2 => ?_⟩⟩
  · rw [n1, uM_o _ _ _ _ _ (by decide)]
    show uC 45 g a1 a2 a3 a4 45 4 = _
    rw [uC_n, c1]
  · rw [n1] at i2
    have o : ∀ p, p ≠ 81 → uM (uC 45 g a1 a2 a3 a4) a1 a2 a3 a4 p = uC 45 g a1 a2 a3 a4 p := fun p hp => uM_o _ _ _ _ _ hp
    rw [o (37 + 9) (by decide), o (37 + 10) (by decide), o (37 + 11) (by decide), o (37 + 12) (by decide)]
    by_cases hi : i = g 81 24
    · subst hi
      rw [m4.1, m4.2.1, m4.2.2.1, m4.2.2.2]
      rw [c1] at c4
      exact c4
    · rw [mw _ (by omega) (by omega), mw _ (by omega) (by omega), mw _ (by omega) (by omega), mw _ (by omega) (by omega)]
      have q := c2 i i1 (by omega)
      have w := fun k hk => uC_w 45 g a1 a2 a3 a4 (i := i) (by rw [c1]; exact hi) (k := k) hk
      exact ⟨(w 1 (by omega)).trans q.1, (w 2 (by omega)).trans q.2.1, (w 3 (by omega)).trans q.2.2.1, (w 4 (by omega)).trans q.2.2.2⟩
  · rw [n1]; omega
  · rw [n1] at i2
    by_cases hi : i = g 81 24
    · subst hi
      rw [m4.1, m4.2.1, m4.2.2.1, m4.2.2.2]; exact hl
    · rw [mw _ (by omega) (by omega), mw _ (by omega) (by omega), mw _ (by omega) (by omega), mw _ (by omega) (by omega)]
      exact d2 i i1 (by omega)
/-- what the row holds behind its people does not count -/
theorem inv_junk {L : Nat} {xs : Nat → Int32} {h g : Hp} (hI : Inv L xs h) (f : ∀ p, ¬ (p = 18 ∨ (27 ≤ p ∧ p ≤ 52) ∨ p = 69 ∨ (76 ≤ p ∧ p ≤ 81) ∨ (83 ≤ p ∧ p ≤ 93)) → g p = h p) (f81 : ∀ j, j < 67 + 4 * h 81 24 → g 81 j = h 81 j) (h80 : g 80 2 = h 80 2 ∧ g 80 22 = h 80 22) : Inv L xs g := by
  obtain ⟨q1, q2, q3, q4, q5, q6, q7, q8⟩ := hI
  obtain ⟨c1, c2, c3, c4, c5, c6⟩ := q2
  obtain ⟨d1, d2, d3, d4, d5, d6⟩ := q3
  have hn := d4.1
  have n24 : g 81 24 = h 81 24 := f81 24 (by omega)
  have hb : Inv L xs (fun p => if p = 81 then g 81 else h p) := by
    have o : ∀ p, p ≠ 81 → (fun p => if p = 81 then g 81 else h p) p = h p := fun p hp => if_neg hp
    have s81 : (fun p => if p = 81 then g 81 else h p) 81 = g 81 := if_pos rfl
    generalize (fun p => if p = 81 then g 81 else h p) = b at o s81
    have b81 : ∀ j, j < 67 + 4 * h 81 24 → b 81 j = h 81 j := fun j hj => by rw [s81, f81 j hj]
    refine ⟨fun p hp => by rw [o p (by omega)]; exact q1 p hp, ⟨RS_c (o _ (by decide)) (fun j j1 j2 => b81 j (by omega)) c1, RN_c (o _ (by decide)) (fun j j1 j2 => b81 j (by omega)) c2, RP_c (o _ (by decide)) (fun j j1 j2 => b81 j (by omega)) c3, ?_, RH_c d5.1.2 (by rw [o _ (by decide)]) (o _ (by decide)) (fun j j1 j2 => b81 j (by omega)) c5, RW_c d6.1.2 (by rw [o _ (by decide)]) (o _ (by decide)) (o _ (by decide)) (fun j j1 j2 => b81 j (by omega)) c6⟩, ⟨ZS_c (fun j j1 j2 => b81 j (by omega)) d1, ZN_c (fun j j1 j2 => b81 j (by omega)) d2, ZP_c (fun j j1 j2 => b81 j (by omega)) d3, ?_, ZH_c (fun j j1 j2 => b81 j (by omega)) d5, ZW_c (fun j hj => b81 j (by omega)) d6⟩, Kp_congr (by rw [o _ (by decide)]) (by rw [o _ (by decide)]) (fun p h1 h2 => o p (by omega)) (o _ (by decide)) q4, Tp_congr (by rw [o _ (by decide)]) (by rw [o _ (by decide)]) (o _ (by decide)) (o _ (by decide)) q5, Sh_congr (fun p hp => o p (by omega)) q6, ?_, Dr_congr (by rw [o _ (by decide)]) (by rw [o _ (by decide)]) (o _ (by decide)) (o _ (by decide)) q8⟩
    · obtain ⟨y1, y2⟩ := c4
      refine ⟨by rw [o _ (by decide), b81 24 (by omega)]; exact y1, fun i i0 i1 => ?_⟩
      rw [b81 24 (by omega)] at i1
      rw [o (11 + 9) (by decide), o (11 + 10) (by decide), o (11 + 11) (by decide), o (11 + 12) (by decide), b81 _ (by omega), b81 _ (by omega), b81 _ (by omega), b81 _ (by omega)]
      exact y2 i i0 i1
    · obtain ⟨y1, y2⟩ := d4
      refine ⟨by rw [b81 24 (by omega)]; exact y1, fun i i0 i1 => ?_⟩
      rw [b81 24 (by omega)] at i1
      rw [b81 _ (by omega), b81 _ (by omega), b81 _ (by omega), b81 _ (by omega)]
      exact y2 i i0 i1
    · rw [o 1 (by decide)]
      exact q7.imp (fun ⟨y1, y2⟩ => ⟨y1, Fd_congr (fun p hp => o p (by omega)) (by rw [o 1 (by decide)]) y2⟩) id
  refine inv_quiet hb (fun p hp => ?_) ⟨?_, ?_⟩
  · by_cases e : p = 81
    · subst e; exact (if_pos rfl).symm
    · rw [f p (by omega)]; exact (if_neg e).symm
  · rw [h80.1]; rfl
  · rw [h80.2]; rfl
theorem uM_81 {g h : Hp} (e : g 81 = h 81) (a1 a2 a3 a4 : Int) : uM g a1 a2 a3 a4 81 = uM h a1 a2 a3 a4 81 := by
  funext j
  unfold uM up
  simp only [e]
theorem more_dat {g : Hp} {a1 a2 a3 a4 : Int} (hl : lg a1 a2 a3 a4 = true) (hR : RR 37 81 g) (hZ : Zz 81 g) (hn : g 81 24 < 12) : Dat 27 (fun i => i) (g 81 24 + 1) (uM g a1 a2 a3 a4 81) 0 (g 81 7) (g 81 5) (uC 45 g a1 a2 a3 a4) ∧ ZD (uM g a1 a2 a3 a4 81) := by
  have hb := hZ.2.2.2.1.1
  have hG := RG_w hl ⟨hb.1, hn⟩ ⟨hR.2.2.2.1, hZ.2.2.2.1⟩
  have e81 : uC 45 g a1 a2 a3 a4 81 = g 81 := uC_o _ _ _ _ _ _ (by omega)
  have f : ∀ p, ¬ ((45 ≤ p ∧ p ≤ 49) ∨ p = 81) → uM (uC 45 g a1 a2 a3 a4) a1 a2 a3 a4 p = g p := fun p hp => by
    rw [uM_o _ _ _ _ _ (by omega), uC_o _ _ _ _ _ _ (by omega)]
  have f81 : ∀ j, j < 24 ∨ (25 ≤ j ∧ j < 67) → uM (uC 45 g a1 a2 a3 a4) a1 a2 a3 a4 81 j = g 81 j := fun j hj => by
    rw [uM_w _ _ _ _ _ (by rw [e81]; omega) (by rw [e81]; omega), e81]
  have n1 : uM (uC 45 g a1 a2 a3 a4) a1 a2 a3 a4 81 24 = g 81 24 + 1 := by rw [uM_n, e81]
  have R2 : RR 37 81 (uM (uC 45 g a1 a2 a3 a4) a1 a2 a3 a4) := ⟨RS_c (f _ (by decide)) (fun j j1 j2 => f81 j (by omega)) hR.1, RN_c (f _ (by decide)) (fun j j1 j2 => f81 j (by omega)) hR.2.1, RP_c (f _ (by decide)) (fun j j1 j2 => f81 j (by omega)) hR.2.2.1, hG.1, RH_c hZ.2.2.2.2.1.1.2 (by rw [f _ (by decide)]) (f _ (by decide)) (fun j j1 j2 => f81 j (by omega)) hR.2.2.2.2.1, RW_c hZ.2.2.2.2.2.1.2 (by rw [f _ (by decide)]) (f _ (by decide)) (f _ (by decide)) (fun j j1 j2 => f81 j (by omega)) hR.2.2.2.2.2⟩
  have Z2 : Zz 81 (uM (uC 45 g a1 a2 a3 a4) a1 a2 a3 a4) := ⟨ZS_c (fun j j1 j2 => f81 j (by omega)) hZ.1, ZN_c (fun j j1 j2 => f81 j (by omega)) hZ.2.1, ZP_c (fun j j1 j2 => f81 j (by omega)) hZ.2.2.1, hG.2, ZH_c (fun j j1 j2 => f81 j (by omega)) hZ.2.2.2.2.1, by
    obtain ⟨w1, w2⟩ := hZ.2.2.2.2.2
    refine ⟨by rw [f81 42 (by omega)]; exact w1, fun i i1 i2 => ?_⟩
    rw [f81 42 (by omega)] at i2
    rw [f81 (43 + 2 * i) (by omega), f81 (44 + 2 * i) (by omega), n1]
    obtain ⟨y1, y2, y3⟩ := w2 i i1 i2
    exact ⟨by omega, by omega, y3⟩⟩
  have e2 : uM (uC 45 g a1 a2 a3 a4) a1 a2 a3 a4 81 = uM g a1 a2 a3 a4 81 := uM_81 e81 _ _ _ _
  have D := Dat_of (d := 27) R2 Z2
  rw [n1, f81 7 (by omega), f81 5 (by omega), e2] at D
  have Z3 := zd_of Z2
  rw [e2] at Z3
  exact ⟨Dat_c (fun p p1 p2 => (uM_o _ _ _ _ _ (by omega)).symm) D, Z3⟩
theorem case_15 (L : Nat) (xs : Nat → Int32) : Cs_15 L xs := by
  intro h hI a1 a2 a3 a4 a5 r1 r2 r3 r4 r5
  have hS := hI.1
  have e1 : wr a1 = a1 := wr_id r1.1 r1.2
  have e2 : wr a2 = a2 := wr_id r2.1 r2.2
  have e3 : wr a3 = a3 := wr_id r3.1 r3.2
  have e4 : wr a4 = a4 := wr_id r4.1 r4.2
  have e5 : wr a5 = a5 := wr_id r5.1 r5.2
  have hZ0 := hI.2.2.1
  have hb := hZ0.2.2.2.1.1
  have hn : h 19 4 = h 81 24 := hI.2.1.2.2.2.1.1
  have qs := e15_0 a1 a2 a3 a4 a5 h
  have qm : ∀ g, _ := fun g => e92_0 a1 a2 a3 a4 a5 g
  rw [s_areLegal hS, bI_some, d_bi0, e1, e2, e3, e4] at qs
  by_cases hl : lg a1 a2 a3 a4 = true
  · rw [hl, Bool.not_true, cond_f, s_below a5 2 (by omega), bI_some, d_bi1, e5] at qs
    by_cases p2 : 0 ≤ a5 ∧ a5 < 2
    · rw [decide_eq_true p2, cond_t, hn, wr_id (x := h 81 24) (by omega) (by omega)] at qs
      by_cases full : h 81 24 < 12
      · obtain ⟨g1, c1, c2, c3, c4⟩ := copy_trial hI
        have z81 : g1 81 = h 81 := c2 81 (by omega)
        have Z1 : Zz 81 g1 := Zz_congr z81 hZ0
        obtain ⟨D, ZN⟩ := more_dat hl c3 Z1 (by rw [z81]; exact full)
        have e24 : uM g1 a1 a2 a3 a4 81 24 = h 81 24 + 1 := by rw [uM_n, z81]
        have eo : ∀ j, (j < 24 ∨ (25 ≤ j ∧ j < 67 + 4 * h 81 24)) → uM g1 a1 a2 a3 a4 81 j = h 81 j := fun j hj => by rw [uM_w _ _ _ _ _ (by rw [z81]; omega) (by rw [z81]; omega), z81]
        rw [z81] at D
        have St := sta_told ZN
        rw [e24, eo 7 (by omega), eo 5 (by omega)] at St
        have g45 : g1 45 4 = h 81 24 := c4.2.1
        have sa : X (155, 0, [aR 45, aI a1, aI a2, aI a3, aI a4], [], g1) = some (none, uC 45 g1 a1 a2 a3 a4) := s_add (by decide) (by omega) (by omega)
        have D' : Dat 27 (fun i => i) (uM g1 a1 a2 a3 a4 81 24) (uM g1 a1 a2 a3 a4 81) 0 (h 81 7) (h 81 5) (uC 45 g1 a1 a2 a3 a4) := by rw [e24]; exact D
        rw [← e24] at St
        obtain ⟨gc, w, l, c, t, F, k1, k2, k3⟩ := play27 St D'
        have fc : ∀ p, (p < 27 ∨ 52 < p) → gc p = h p := fun p hp => by rw [k2 p (by omega), uC_o _ _ _ _ _ _ (by omega), c2 p (by omega)]
        have y81 : gc 81 = h 81 := fc 81 (by omega)
        rw [cd_t full, c1, bV_some, sa, bV_some, k1, bV_some, inb_t hb.1 full (by omega)] at qs
        simp only [cond_t] at qs
        have ma := m_add (a1 := a1) (a2 := a2) (a3 := a3) (a4 := a4) (h := gc) (by rw [y81]; exact hb.1) (by rw [y81]; exact full)
        have ma : X (51, 0, [aR 80, aI a1, aI a2, aI a3, aI a4, aN], [], gc) = some (none, uM gc a1 a2 a3 a4) := ma
        have eu : uM gc a1 a2 a3 a4 81 = uM g1 a1 a2 a3 a4 81 := uM_81 (y81.trans z81.symm) _ _ _ _
        have M := tol_MP (uM gc a1 a2 a3 a4)
        rw [eu, eo 7 (by omega), eo 5 (by omega)] at M
        obtain ⟨gm, n1, n2, n3, n4⟩ := k3 _ M
        have m81 : gm 81 = uM g1 a1 a2 a3 a4 81 := by rw [n2.1 81 (by omega), tol_o _ (by decide), eu]
        have m24 : up gm 81 24 (gm 81 24 - 1) 81 24 = h 81 24 := by rw [up_s, m81, e24]; omega
        have E := n3.1 (h 81 24) hb.1 (by rw [e24]; omega)
        have qm := qm gc
        rw [s_mayBe, bI_some, d_bi0, e1, e2, e3, e4, hl, Bool.not_true, cond_f, s_inw gc (by omega) (by omega), bI_some, d_bi1, e5, show iin a5 0 1 = true from decide_eq_true (by omega), cond_t, y81, wr_id (x := h 81 24) (by omega) (by omega), cd_t (by omega), ma, bV_some, m_asTold, bV_some, n1, bV_some, m24, wr_id (x := h 81 24) (by omega) (by omega), inb_t hb.1 full (by omega), up_n gm 24 (gm 81 24 - 1) (by decide : 84 ≠ 81), up_n gm 24 (gm 81 24 - 1) (by decide : 85 ≠ 81)] at qm
        simp only [cond_t] at qm
        have If : Inv L xs (up gm 81 24 (gm 81 24 - 1)) := by
          refine inv_junk hI (fun p hp => ?_) (fun j hj => ?_) ⟨?_, ?_⟩
          · rw [up_n _ _ _ (by omega), n2.1 p (by omega), tol_o _ (by omega), uM_o _ _ _ _ _ (by omega), fc p (by omega)]
          · by_cases e : j = 24
            · rw [e, m24]
            · rw [up_o _ _ _ e, m81, eo j (by omega)]
          · rw [up_n _ _ _ (by decide), n2.2 2 (by decide), tol_j _ (by decide), uM_o _ _ _ _ _ (by decide), fc 80 (by omega)]
          · rw [up_n _ _ _ (by decide), n2.2 22 (by decide), tol_j _ (by decide), uM_o _ _ _ _ _ (by decide), fc 80 (by omega)]
        have sG : Sm L xs gc := fun p hp => by rw [fc p (by omega)]; exact hS p hp
        have f1 : gc 28 (h 81 24) = gm 84 (h 81 24) := E.1
        have f2 : gc 29 (h 81 24) = gm 85 (h 81 24) := E.2.1
        by_cases c0 : a5 ≠ 0
        · rw [cd_t c0] at qs qm
          rw [f1] at qs
          exact ⟨_, gc, _, qs, sG, qm, If⟩
        · rw [cd_f c0] at qs qm
          rw [f2] at qs
          exact ⟨_, gc, _, qs, sG, qm, If⟩
      · have qm := qm h
        rw [cd_f full] at qs
        rw [s_mayBe, bI_some, d_bi0, e1, e2, e3, e4, hl, Bool.not_true, cond_f, s_inw h (by omega) (by omega), bI_some, d_bi1, e5, show iin a5 0 1 = true from decide_eq_true (by omega), cond_t, wr_id (x := h 81 24) (by omega) (by omega), cd_f (by omega)] at qm
        exact ⟨-3, h, h, qs, hS, qm, hI⟩
    · have qm := qm h
      rw [decide_eq_false p2, cond_f] at qs
      rw [s_mayBe, bI_some, d_bi0, e1, e2, e3, e4, hl, Bool.not_true, cond_f, s_inw h (by omega) (by omega), bI_some, d_bi1, e5, show iin a5 0 1 = false from decide_eq_false (by omega), cond_f] at qm
      exact ⟨-1, h, h, qs, hS, qm, hI⟩
  · have hl : lg a1 a2 a3 a4 = false := by
      cases q : lg a1 a2 a3 a4
      · rfl
      · exact absurd q hl
    have qm := qm h
    rw [hl, Bool.not_false, cond_t] at qs
    rw [s_mayBe, bI_some, d_bi0, e1, e2, e3, e4, hl, Bool.not_false, cond_t] at qm
    exact ⟨-1, h, h, qs, hS, qm, hI⟩
