/-! worth -/
theorem sta_wo {Z : Int → Int} (hZ : ZD Z) {c : Int} (c0 : 0 ≤ c ∧ c < 3) : Sta (fun i => i) (Z 24) Z 0 (Z 7) (Z 5) 240 c c := by
  obtain ⟨a1, a2, a3, a4, a5, a6, a7, a8, a9⟩ := sta_told hZ
  exact ⟨a1, a2, a3, a4, a5, by omega, by omega, fun x _ _ => Iff.rfl, a9⟩
theorem MP_wo {h : Hp} {Z : Int → Int} {pl ru th sh nv c : Int} (M : MP h Z pl ru th sh nv) : MP (up h 80 10 c) Z pl ru th sh c := by
  obtain ⟨a1, a2, a3, a4, a5, a6⟩ := M
  exact ⟨by rw [up_n _ _ _ (by decide)]; exact a1, by rw [up_o _ _ _ (by decide)]; exact a2, by rw [up_o _ _ _ (by decide)]; exact a3, by rw [up_o _ _ _ (by decide)]; exact a4, by rw [up_o _ _ _ (by decide)]; exact a5, up_s _ _ _ _⟩
theorem MP_fr {a b : Hp} {Z : Int → Int} {pl ru th sh nv : Int} (F : FrM a b) (M : MP a Z pl ru th sh nv) : MP b Z pl ru th sh nv := by
  unfold MP at M ⊢
  rw [F.1 81 (by omega), F.2 8 (by decide), F.2 6 (by decide), F.2 7 (by decide), F.2 9 (by decide), F.2 10 (by decide)]
  exact M
theorem case_20 (L : Nat) (xs : Nat → Int32) : Cs_20 L xs := by
  intro h hI a1 r1
  have hS := hI.1
  have e1 : wr a1 = a1 := wr_id r1.1 r1.2
  have qs := e20_0 a1 h
  rw [s_below a1 3 (by omega), bI_some, d_bi1, e1] at qs
  by_cases p1 : 0 ≤ a1 ∧ a1 < 3
  · obtain ⟨g, t1, t2, t3, t4⟩ := today hI
    have g81 : g 81 = h 81 := t2 81 (by omega)
    rw [← g81] at t4
    have hZ : ZD (g 81) := zd_of t3.2.2.1
    obtain ⟨g1, c1, c2, c3, c4⟩ := copy_trial t3
    obtain ⟨g4, gm0, a1', a2', a3', a4', a5', a6', a7'⟩ := day_both (d := 27) (Or.inr rfl) (sta_wo hZ p1) (MP_wo (c := a1) (tol_MP g)) c4
    have f : ∀ p, (p < 27 ∨ 52 < p) → g4 p = g p := fun p hp => by rw [a3'.1 p (by omega), c2 p (by omega)]
    obtain ⟨gm, m1, m2, m3, m4⟩ := t4 g4 (f 81 (by omega))
    have M1 := MP_fr m2 (tol_MP g4)
    rw [f 81 (by omega)] at M1
    obtain ⟨g4', gm2, b1, b2, b3, b4, b5, b6, b7⟩ := day_both (d := 27) (Or.inr rfl) (sta_wo hZ p1) (MP_wo (c := a1) M1) c4
    have eg : g4' = g4 := by
      rw [a1'] at b1
      injection b1 with b1
      injection b1 with _ b1
      exact b1.symm
    subst eg
    have D27 := Dat_c (g := g4') (fun p p1 p2 => a3'.1 p (by omega)) c4
    have D1 := Dat_c (g := g4') (fun p p1 p2 => f p (by omega)) (Dat_of (d := 1) t3.2.1 t3.2.2.1)
    have E1 := End_c (g := g4') (fun p p1 p2 => f p (by omega)) (by rw [f 1 (by omega)]) m3
    obtain ⟨w, l, c, t, F, s1, s2, s3, s4, s5, s6, -⟩ := sums (d := 1) (Or.inl rfl) hZ D1 M1.1 E1
    obtain ⟨w', l', c', t', F', u1, u2, u3, u4, u5, u6, -⟩ := sums (d := 27) (Or.inr rfl) hZ D27 (by rw [b4.1 81 (by omega), up_n _ _ _ (by decide), M1.1]) b5
    rw [decide_eq_true p1, cond_t, t1, bV_some, c1, bV_some, a1', bV_some, s5, bI_some, u5, bI_some] at qs
    have qm := e98_0 a1 g4'
    rw [s_inw g4' (by omega) (by omega), bI_some, d_bi1, e1, show iin a1 0 2 = true from decide_eq_true ⟨p1.1, by omega⟩, cond_t, m_asTold, bV_some, m1, bV_some, s6, bI_some, b2, bV_some, u6, bI_some] at qm
    refine ⟨c - c', g4', gm2, qs, fun p hp => by rw [f p (by omega), t2 p (by omega)]; exact hS p hp, qm, inv_quiet t3 (fun p hp => ?_) ⟨?_, ?_⟩⟩
    · rw [b4.1 p (by omega), up_n _ _ _ (by omega), m2.1 p (by omega), tol_o g4' (by omega), f p (by omega)]
    · rw [b4.2 2 (by decide), up_o _ _ _ (by decide), m2.2 2 (by decide), tol_j g4' (by decide), f 80 (by omega)]
    · rw [b4.2 22 (by decide), up_o _ _ _ (by decide), m2.2 22 (by decide), tol_j g4' (by decide), f 80 (by omega)]
  · rw [decide_eq_false p1, cond_f] at qs
    have qm := e98_0 a1 h
    rw [s_inw h (by omega) (by omega), bI_some, d_bi1, e1, show iin a1 0 2 = false from decide_eq_false (by omega), cond_f] at qm
    exact ⟨-100001, h, h, qs, hS, qm, hI⟩
