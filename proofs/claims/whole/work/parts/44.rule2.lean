/-! rule -/
theorem inv_other {L : Nat} {xs : Nat → Int32} {h g gm : Hp} {r : Int} (hI : Inv L xs h) (f : ∀ p, (p < 27 ∨ 52 < p) → g p = h p) (F : FrM (up (tol g) 80 6 r) gm) : Inv L xs gm := by
  refine inv_quiet hI (fun p hp => by rw [F.1 p (by omega), up_n _ _ _ (by omega), tol_o g (by omega), f p (by omega)]) ⟨?_, ?_⟩
  · rw [F.2 2 (by decide), up_o _ _ _ (by decide), tol_j g (by decide), f 80 (by omega)]
  · rw [F.2 22 (by decide), up_o _ _ _ (by decide), tol_j g (by decide), f 80 (by omega)]
theorem case_21 (L : Nat) (xs : Nat → Int32) : Cs_21 L xs := by
  intro h hI a1 a2 r1 r2
  have hS := hI.1
  have e1 : wr a1 = a1 := wr_id r1.1 r1.2
  have e2 : wr a2 = a2 := wr_id r2.1 r2.2
  have qs := e21_0 a1 a2 h
  rw [s_below a1 3 (by omega), bI_some, d_bi0, e1] at qs
  have qm : ∀ g, _ := fun g => e100_0 a1 a2 g
  by_cases p1 : 0 ≤ a1 ∧ a1 < 3
  · rw [decide_eq_true p1, Bool.not_true, cond_f, s_below a2 3 (by omega), bI_some, d_bi1, e2] at qs
    by_cases p2 : 0 ≤ a2 ∧ a2 < 3
    · obtain ⟨g, g1, g2, g3⟩ := by_rule hI (r := a1) (by omega)
      obtain ⟨gm, w, l, c, t, F, m1, m2, m3⟩ := g3 g (g2 81 (by omega))
      obtain ⟨s1, s2, s3, s4, s5, s6, -⟩ := m3
      have qm := qm g
      rw [s_inw g (by omega) (by omega), bI_some, d_bi0, e1, show iin a1 0 2 = true from decide_eq_true ⟨p1.1, by omega⟩, Bool.not_true, cond_f, s_inw g (by omega) (by omega), bI_some, d_bi0, e2, show iin a2 0 2 = true from decide_eq_true ⟨p2.1, by omega⟩, Bool.not_true, cond_f, e99_0, m_asTold, bV_some, m1, bV_some, e2] at qm
      rw [decide_eq_true p2, cond_t, g1, bV_some] at qs
      have sG : Sm L xs g := fun p hp => by rw [g2 p (by omega)]; exact hS p hp
      have IG := inv_other hI g2 m2
      by_cases c0 : a2 = 0
      · exact ⟨w, g, gm, qs.trans (by rw [cd_t c0, s1, bI_some]), sG, qm.trans (by rw [cd_f (by omega), s2, bI_some, bI_some]), IG⟩
      rw [cd_f c0] at qs
      rw [cd_t c0] at qm
      by_cases c1 : a2 = 1
      · exact ⟨l, g, gm, qs.trans (by rw [cd_t c1, s3, bI_some]), sG, qm.trans (by rw [cd_f (by omega), s4, bI_some, bI_some]), IG⟩
      exact ⟨c, g, gm, qs.trans (by rw [cd_f c1, s5, bI_some]), sG, qm.trans (by rw [cd_t c1, s6, bI_some, bI_some]), IG⟩
    · rw [decide_eq_false p2, cond_f] at qs
      have qm := qm h
      rw [s_inw h (by omega) (by omega), bI_some, d_bi0, e1, show iin a1 0 2 = true from decide_eq_true ⟨p1.1, by omega⟩, Bool.not_true, cond_f, s_inw h (by omega) (by omega), bI_some, d_bi0, e2, show iin a2 0 2 = false from decide_eq_false (by omega), Bool.not_false, cond_t] at qm
      exact ⟨-1, h, h, qs, hS, qm, hI⟩
  · rw [decide_eq_false p1, Bool.not_false, cond_t] at qs
    have qm := qm h
    rw [s_inw h (by omega) (by omega), bI_some, d_bi0, e1, show iin a1 0 2 = false from decide_eq_false (by omega), Bool.not_false, cond_t] at qm
    exact ⟨-1, h, h, qs, hS, qm, hI⟩
