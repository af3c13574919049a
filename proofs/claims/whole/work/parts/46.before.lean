/-! before -/
theorem case_8 (L : Nat) (xs : Nat → Int32) : Cs_8 L xs := by
  intro h hI a1 a2 r1 r2
  have hS := hI.1
  have e1 : wr a1 = a1 := wr_id r1.1 r1.2
  have e2 : wr a2 = a2 := wr_id r2.1 r2.2
  have hZ : ZD (h 81) := zd_of hI.2.2.1
  have D := Dat_of (d := 1) hI.2.1 hI.2.2.1
  have qs := e8_0 a1 a2 h
  have qm := e63_0 a1 a2 h
  rw [s_below a1 6 (by omega), bI_some, d_bi0, e1, e2] at qs
  rw [s_inw h (by omega) (by omega), bI_some, d_bi0, e1, e2, show iin a1 0 5 = decide (0 ≤ a1 ∧ a1 < 6) from decide_eq_decide.mpr (by omega)] at qm
  by_cases p1 : 0 ≤ a1 ∧ a1 < 6
  · rw [decide_eq_true p1, Bool.not_true, cond_f] at qs qm
    rw [s_below a2 6 (by omega), bI_some, d_bi0, e2] at qs
    rw [s_in h r2 (by omega) (by omega), bI_some, d_bi0, show iin a2 0 5 = decide (0 ≤ a2 ∧ a2 < 6) from decide_eq_decide.mpr (by omega)] at qm
    by_cases p2 : 0 ≤ a2 ∧ a2 < 6
    · rw [decide_eq_true p2, Bool.not_true, cond_f] at qs qm
      by_cases p3 : a1 ≠ a2
      · have sg : X (166, 0, [aR 16, aI a1, aI a2], [], h) = some (some (bi (zP (h 81) a1 a2)), h) := s_goOver (d := 1) (Or.inl rfl) D p1 p2
        rw [cd_t p3, sg, bI_some, d_bi0] at qs
        rw [cd_t p3, m_isPair hZ p1 p2, bI_some, d_bi0] at qm
        cases hp : zP (h 81) a1 a2
        · rw [hp, Bool.not_false, cond_t] at qs qm
          exact ⟨0, h, h, qs, hS, qm, hI⟩
        · rw [hp, Bool.not_true, cond_f] at qs qm
          exact ⟨1, h, h, qs, hS, qm, hI⟩
      · rw [cd_f p3] at qs qm
        exact ⟨-1, h, h, qs, hS, qm, hI⟩
    · rw [decide_eq_false p2, Bool.not_false, cond_t] at qs qm
      exact ⟨-1, h, h, qs, hS, qm, hI⟩
  · rw [decide_eq_false p1, Bool.not_false, cond_t] at qs qm
    exact ⟨-1, h, h, qs, hS, qm, hI⟩
