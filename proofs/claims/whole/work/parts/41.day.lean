/-! day -/
theorem case_14 (L : Nat) (xs : Nat → Int32) : Cs_14 L xs := by
  intro h hI a1 r1
  have hS := hI.1
  have e1 : wr a1 = a1 := wr_id r1.1 r1.2
  obtain ⟨g, t1, t2, t3, t4⟩ := today hI
  have g81 : g 81 = h 81 := t2 81 (by omega)
  have hZ : ZD (g 81) := zd_of t3.2.2.1
  have D := Dat_of (d := 1) t3.2.1 t3.2.2.1
  rw [← g81] at t4
  obtain ⟨gm, m1, m2, m3, m4⟩ := t4 g rfl
  have gm81 : gm 81 = g 81 := by rw [m2.1 81 (by omega), tol_o g (by decide)]
  obtain ⟨w, l, c, t, F, s1, s2, s3, s4, s5, s6, s7, s8, s9, -⟩ := sums (Or.inl rfl) hZ D gm81 m3
  have sG : Sm L xs g := fun p hp => by rw [t2 p (by omega)]; exact hS p hp
  have IG := inv_told t3 m2
  have qs := e14_0 a1 h
  rw [t1, bV_some, e1] at qs
  by_cases p : 0 ≤ a1 ∧ a1 ≤ 8
  · have qm := e91_0 a1 g
    rw [s_inw g (by omega) (by omega), bI_some, d_bi1, e1, show iin a1 0 8 = true from decide_eq_true p, cond_t, m_asTold, bV_some, m1, bV_some] at qm
    by_cases c0 : a1 = 0
    · exact ⟨c, g, gm, qs.trans (by rw [cd_t c0, s5, bI_some]), sG, qm.trans (by rw [cd_t c0, s6, bI_some]), IG⟩
    rw [cd_f c0] at qm qs
    by_cases c1 : a1 = 1
    · exact ⟨w, g, gm, qs.trans (by rw [cd_t c1, s1, bI_some]), sG, qm.trans (by rw [cd_t c1, s2, bI_some]), IG⟩
    rw [cd_f c1] at qm qs
    by_cases c2 : a1 = 2
    · exact ⟨l, g, gm, qs.trans (by rw [cd_t c2, s3, bI_some]), sG, qm.trans (by rw [cd_t c2, s4, bI_some]), IG⟩
    rw [cd_f c2] at qm qs
    by_cases c3 : a1 = 3
    · exact ⟨F 1, g, gm, qs.trans (by rw [cd_t c3, (s9 1 (by omega) (by omega)).1, bI_some]), sG, qm.trans (by rw [cd_t c3, (s9 1 (by omega) (by omega)).2 (a1 - 2) (by rw [c3]; decide), bI_some]), IG⟩
    rw [cd_f c3] at qm qs
    by_cases c4 : a1 = 4
    · exact ⟨F 2, g, gm, qs.trans (by rw [cd_t c4, (s9 2 (by omega) (by omega)).1, bI_some]), sG, qm.trans (by rw [cd_t c4, (s9 2 (by omega) (by omega)).2 (a1 - 2) (by rw [c4]; decide), bI_some]), IG⟩
    rw [cd_f c4] at qm qs
    by_cases c5 : a1 = 5
    · exact ⟨F 3, g, gm, qs.trans (by rw [cd_t c5, (s9 3 (by omega) (by omega)).1, bI_some]), sG, qm.trans (by rw [cd_t c5, (s9 3 (by omega) (by omega)).2 (a1 - 2) (by rw [c5]; decide), bI_some]), IG⟩
    rw [cd_f c5] at qm qs
    by_cases c6 : a1 = 6
    · exact ⟨F 4, g, gm, qs.trans (by rw [cd_t c6, (s9 4 (by omega) (by omega)).1, bI_some]), sG, qm.trans (by rw [cd_t c6, (s9 4 (by omega) (by omega)).2 (a1 - 2) (by rw [c6]; decide), bI_some]), IG⟩
    rw [cd_f c6] at qm qs
    by_cases c7 : a1 = 7
    · exact ⟨g 1 13, g, gm, qs.trans (by rw [cd_t c7]), sG, qm.trans (by rw [cd_t c7, m3.2.1]), IG⟩
    rw [cd_f c7] at qm qs
    have c8 : a1 = 8 := by omega
    exact ⟨t, g, gm, qs.trans (by rw [cd_t c8, s7, bI_some]), sG, qm.trans (by rw [s8, bI_some]), IG⟩
  · refine ⟨-1, g, g, qs.trans ?_, sG, ?_, t3⟩
    · rw [cd_f (by omega), cd_f (by omega), cd_f (by omega), cd_f (by omega), cd_f (by omega), cd_f (by omega), cd_f (by omega), cd_f (by omega), cd_f (by omega)]
    · show X (91, 0, [aR 80, aI a1], [], g) = _
      rw [e91_0, s_inw g (by omega) (by omega), bI_some, d_bi1, e1, show iin a1 0 8 = false from decide_eq_false p, cond_f]
