/-! best -/
def ba (F : Int → Int) (i j : Int) : Bool := decide (F (3 * i) ≤ F (3 * j) ∧ F (3 * i + 1) ≤ F (3 * j + 1) ∧ F (3 * j + 2) ≤ F (3 * i + 2) ∧ (F (3 * i) < F (3 * j) ∨ F (3 * i + 1) < F (3 * j + 1) ∨ F (3 * j + 2) < F (3 * i + 2)))
def FB (F : Int → Int) : Prop := ∀ k, 0 ≤ k → k < 9 → 0 ≤ F k ∧ F k ≤ 4752
theorem s_beat1 {h : Hp} {i j k x y : Int} (i0 : 0 ≤ i ∧ i < 3) (j0 : 0 ≤ j ∧ j < 3) (k0 : 0 ≤ k ∧ k < 3) (hx : h 69 (3 * i + k) = x) (hy : h 69 (3 * j + k) = y) (rx : -4752 ≤ x ∧ x ≤ 4752) (ry : -4752 ≤ y ∧ y ≤ 4752) (b : Bool) (w5 w6 : AV) : X (40, 5, [aR 0, aI i, aI j, aI (bi b), aI k, w5, w6], [], h) = cond (decide (y < x)) (some (some 0, h)) (X (40, 5, [aR 0, aI i, aI j, aI (bi (b || decide (x < y))), aI (k + 1), aI x, aI y], [], h)) := by
  have ex : h 69 (wr (i * 3 + k)) = x := by rw [wr_id (by omega) (by omega), show i * 3 + k = 3 * i + k by omega, hx]
  have ey : h 69 (wr (j * 3 + k)) = y := by rw [wr_id (by omega) (by omega), show j * 3 + k = 3 * j + k by omega, hy]
  rw [e40_5, ex, ey, wr_id (x := k) (by omega) (by omega), cd_f (by omega), inb_t (by omega) (by omega) (by omega), inb_t (by omega) (by omega) (by omega), cond_t, cond_t, wr_id (x := x) (by omega) (by omega), wr_id (x := y) (by omega) (by omega)]
  by_cases c : y < x
  · rw [cd_f (show ¬ x ≤ y by omega), cd_t c]
  · rw [cd_t (show x ≤ y by omega), cd_f c]
    cases b
    · rw [cd_f (show ¬ wr (bi false) ≠ 0 by decide)]
      by_cases e : x < y
      · rw [cd_f (show ¬ y ≤ x by omega), decide_eq_true e]; rfl
      · rw [cd_t (show y ≤ x by omega), decide_eq_false e]; rfl
    · rw [cd_t (show wr (bi true) ≠ 0 by decide), Bool.true_or]; rfl
theorem s_beats {h : Hp} {F : Int → Int} (hF : FB F) (h69 : ∀ i, 0 ≤ i → i < 3 → h 69 (3 * i) = F (3 * i) ∧ h 69 (3 * i + 1) = F (3 * i + 1) ∧ h 69 (3 * i + 2) = -F (3 * i + 2)) {i j : Int} (i0 : 0 ≤ i ∧ i < 3) (j0 : 0 ≤ j ∧ j < 3) : X (40, 0, [aR 0, aI i, aI j, aN, aN, aN, aN], [], h) = some (some (bi (ba F i j)), h) := by
  obtain ⟨a0, a1, a2⟩ := h69 i i0.1 i0.2
  obtain ⟨b0, b1, b2⟩ := h69 j j0.1 j0.2
  have f0 := hF (3 * i) (by omega) (by omega)
  have f1 := hF (3 * i + 1) (by omega) (by omega)
  have f2 := hF (3 * i + 2) (by omega) (by omega)
  have g0 := hF (3 * j) (by omega) (by omega)
  have g1 := hF (3 * j + 1) (by omega) (by omega)
  have g2 := hF (3 * j + 2) (by omega) (by omega)
  rw [e40_0]
  have q := s_beat1 (h := h) i0 j0 (k := 0) (by omega) (x := F (3 * i)) (y := F (3 * j)) (by rw [Int.add_zero]; exact a0) (by rw [Int.add_zero]; exact b0) (by omega) (by omega) false aN aN
  have q : X (40, 5, [aR 0, aI i, aI j, aI 0, aI 0, aN, aN], [], h) = _ := q
  rw [q]
  unfold ba
  by_cases c0 : F (3 * j) < F (3 * i)
  · rw [cd_t c0, decide_eq_false (by omega)]; rfl
  rw [cd_f c0, show (0 : Int) + 1 = 1 from rfl, s_beat1 (h := h) i0 j0 (k := 1) (by omega) a1 b1 (by omega) (by omega)]
  by_cases c1 : F (3 * j + 1) < F (3 * i + 1)
  · rw [cd_t c1, decide_eq_false (by omega)]; rfl
  rw [cd_f c1, show (1 : Int) + 1 = 2 from rfl, s_beat1 (h := h) i0 j0 (k := 2) (by omega) a2 b2 (by omega) (by omega)]
  by_cases c2 : -F (3 * j + 2) < -F (3 * i + 2)
  · rw [cd_t c2, decide_eq_false (by omega)]; rfl
  rw [cd_f c2, e40_5, cd_t (by decide), bz_bi, cond_t]
  congr 3
  congr 1
  rw [Bool.eq_iff_iff]
  simp only [Bool.or_eq_true, decide_eq_true_eq, Bool.false_or]
  omega
theorem m_beat {h : Hp} {F : Int → Int} (hF : FB F) (h91 : ∀ k, 0 ≤ k → k < 9 → h 91 k = F k) {i j v1 : Int} (i0 : 0 ≤ i ∧ i < 3) (j0 : 0 ≤ j ∧ j < 3) (b : Bool) (w5 w6 : AV) : ∃ s t : Int, X (101, 56, [aR 80, aI v1, aI j, aI (bi b), aI i, w5, w6], [], h) = X (101, 56, [aR 80, aI v1, aI j, aI (bi (b && !ba F i j)), aI (i + 1), aI s, aI t], [], h) := by
  have f0 := hF (3 * i) (by omega) (by omega)
  have f1 := hF (3 * i + 1) (by omega) (by omega)
  have f2 := hF (3 * i + 2) (by omega) (by omega)
  have g0 := hF (3 * j) (by omega) (by omega)
  have g1 := hF (3 * j + 1) (by omega) (by omega)
  have g2 := hF (3 * j + 2) (by omega) (by omega)
  have k2 : ∀ s : Int, s = 0 ∨ s = 1 → ∃ t : Int, X (101, 135, [aR 80, aI v1, aI j, aI (bi b), aI i, w5, w6], [aI s], h) = X (101, 56, [aR 80, aI v1, aI j, aI (bi (b && !(decide (s = 1) && decide (F (3 * i) < F (3 * j) ∨ F (3 * i + 1) < F (3 * j + 1) ∨ F (3 * j + 2) < F (3 * i + 2))))), aI (i + 1), aI s, aI t], [], h) := by
    intro s hs
    rw [e101_135, wr_id (x := 3 * i) (by omega) (by omega), wr_id (x := 3 * j) (by omega) (by omega), wr_id (x := 3 * i + 1) (by omega) (by omega), wr_id (x := 3 * j + 1) (by omega) (by omega), wr_id (x := 3 * i + 2) (by omega) (by omega), wr_id (x := 3 * j + 2) (by omega) (by omega), h91 (3 * i) (by omega) (by omega), h91 (3 * j) (by omega) (by omega), h91 (3 * i + 1) (by omega) (by omega), h91 (3 * j + 1) (by omega) (by omega), h91 (3 * i + 2) (by omega) (by omega), h91 (3 * j + 2) (by omega) (by omega), wr_id (x := F (3 * i)) (by omega) (by omega), wr_id (x := F (3 * j)) (by omega) (by omega), wr_id (x := F (3 * i + 1)) (by omega) (by omega), wr_id (x := F (3 * j + 1)) (by omega) (by omega), wr_id (x := F (3 * i + 2)) (by omega) (by omega), wr_id (x := F (3 * j + 2)) (by omega) (by omega), inb_t (i := 3 * i) (by omega) (by omega) (by omega), inb_t (i := 3 * j) (by omega) (by omega) (by omega), inb_t (i := 3 * i + 1) (by omega) (by omega) (by omega), inb_t (i := 3 * j + 1) (by omega) (by omega) (by omega), inb_t (i := 3 * i + 2) (by omega) (by omega) (by omega), inb_t (i := 3 * j + 2) (by omega) (by omega) (by omega)]
    simp only [cond_t]
    by_cases c0 : F (3 * i) < F (3 * j)
    · rw [cd_t c0, decide_eq_true (Or.inl c0 : F (3 * i) < F (3 * j) ∨ F (3 * i + 1) < F (3 * j + 1) ∨ F (3 * j + 2) < F (3 * i + 2))]
      rcases hs with rfl | rfl <;> cases b <;> exact ⟨1, rfl⟩
    rw [cd_f c0]
    by_cases c1 : F (3 * i + 1) < F (3 * j + 1)
    · rw [cd_t c1, decide_eq_true (Or.inr (Or.inl c1) : F (3 * i) < F (3 * j) ∨ F (3 * i + 1) < F (3 * j + 1) ∨ F (3 * j + 2) < F (3 * i + 2))]
      rcases hs with rfl | rfl <;> cases b <;> exact ⟨1, rfl⟩
    rw [cd_f c1]
    by_cases c2 : F (3 * i + 2) ≤ F (3 * j + 2)
    · rw [cd_t c2, decide_eq_false (show ¬ (F (3 * i) < F (3 * j) ∨ F (3 * i + 1) < F (3 * j + 1) ∨ F (3 * j + 2) < F (3 * i + 2)) by omega)]
      rcases hs with rfl | rfl <;> cases b <;> exact ⟨0, rfl⟩
    · rw [cd_f c2, decide_eq_true (show (F (3 * i) < F (3 * j) ∨ F (3 * i + 1) < F (3 * j + 1) ∨ F (3 * j + 2) < F (3 * i + 2)) by omega)]
      rcases hs with rfl | rfl <;> cases b <;> exact ⟨1, rfl⟩
  obtain ⟨t0, z0⟩ := k2 0 (Or.inl rfl)
  obtain ⟨t1, z1⟩ := k2 1 (Or.inr rfl)
  rw [e101_56, z0, z1, wr_id (x := i) (by omega) (by omega), cd_f (by omega), wr_id (x := 3 * i) (by omega) (by omega), wr_id (x := 3 * j) (by omega) (by omega), wr_id (x := 3 * i + 1) (by omega) (by omega), wr_id (x := 3 * j + 1) (by omega) (by omega), wr_id (x := 3 * i + 2) (by omega) (by omega), wr_id (x := 3 * j + 2) (by omega) (by omega), h91 (3 * i) (by omega) (by omega), h91 (3 * j) (by omega) (by omega), h91 (3 * i + 1) (by omega) (by omega), h91 (3 * j + 1) (by omega) (by omega), h91 (3 * i + 2) (by omega) (by omega), h91 (3 * j + 2) (by omega) (by omega), wr_id (x := F (3 * i)) (by omega) (by omega), wr_id (x := F (3 * j)) (by omega) (by omega), wr_id (x := F (3 * i + 1)) (by omega) (by omega), wr_id (x := F (3 * j + 1)) (by omega) (by omega), wr_id (x := F (3 * i + 2)) (by omega) (by omega), wr_id (x := F (3 * j + 2)) (by omega) (by omega), inb_t (i := 3 * i) (by omega) (by omega) (by omega), inb_t (i := 3 * j) (by omega) (by omega) (by omega), inb_t (i := 3 * i + 1) (by omega) (by omega) (by omega), inb_t (i := 3 * j + 1) (by omega) (by omega) (by omega), inb_t (i := 3 * i + 2) (by omega) (by omega) (by omega), inb_t (i := 3 * j + 2) (by omega) (by omega) (by omega)]
  simp only [cond_t]
  unfold ba
  by_cases c0 : F (3 * j) < F (3 * i)
  · rw [cd_t c0, decide_eq_false (show ¬ (F (3 * i) ≤ F (3 * j) ∧ F (3 * i + 1) ≤ F (3 * j + 1) ∧ F (3 * j + 2) ≤ F (3 * i + 2) ∧ (F (3 * i) < F (3 * j) ∨ F (3 * i + 1) < F (3 * j + 1) ∨ F (3 * j + 2) < F (3 * i + 2))) by omega)]
    exact ⟨0, t0, rfl⟩
  rw [cd_f c0]
  by_cases c1 : F (3 * j + 1) < F (3 * i + 1)
  · rw [cd_t c1, decide_eq_false (show ¬ (F (3 * i) ≤ F (3 * j) ∧ F (3 * i + 1) ≤ F (3 * j + 1) ∧ F (3 * j + 2) ≤ F (3 * i + 2) ∧ (F (3 * i) < F (3 * j) ∨ F (3 * i + 1) < F (3 * j + 1) ∨ F (3 * j + 2) < F (3 * i + 2))) by omega)]
    exact ⟨0, t0, rfl⟩
  rw [cd_f c1]
  by_cases c2 : F (3 * i + 2) < F (3 * j + 2)
  · rw [cd_t c2, decide_eq_false (show ¬ (F (3 * i) ≤ F (3 * j) ∧ F (3 * i + 1) ≤ F (3 * j + 1) ∧ F (3 * j + 2) ≤ F (3 * i + 2) ∧ (F (3 * i) < F (3 * j) ∨ F (3 * i + 1) < F (3 * j + 1) ∨ F (3 * j + 2) < F (3 * i + 2))) by omega)]
    exact ⟨0, t0, rfl⟩
  rw [cd_f c2]
  refine ⟨1, t1, ?_⟩
  rw [show decide (F (3 * i) ≤ F (3 * j) ∧ F (3 * i + 1) ≤ F (3 * j + 1) ∧ F (3 * j + 2) ≤ F (3 * i + 2) ∧ (F (3 * i) < F (3 * j) ∨ F (3 * i + 1) < F (3 * j + 1) ∨ F (3 * j + 2) < F (3 * i + 2))) = decide (F (3 * i) < F (3 * j) ∨ F (3 * i + 1) < F (3 * j + 1) ∨ F (3 * j + 2) < F (3 * i + 2)) from decide_eq_decide.mpr (by omega)]
  rfl
def bt (F : Int → Int) (j : Int) : Bool := ba F 0 j || (ba F 1 j || ba F 2 j)
def bR (F : Int → Int) (j v : Int) : Int := jor v (cond (bt F j) 0 (jshl 1 j))
theorem s_row {h : Hp} {F : Int → Int} (hF : FB F) (h69 : ∀ i, 0 ≤ i → i < 3 → h 69 (3 * i) = F (3 * i) ∧ h 69 (3 * i + 1) = F (3 * i + 1) ∧ h 69 (3 * i + 2) = -F (3 * i + 2)) {j : Int} (j0 : 0 ≤ j ∧ j < 3) (v : Int) (w3 w4 : AV) : ∃ a b : Int, X (22, 72, [aR 0, aI v, aI j, w3, w4], [], h) = X (22, 72, [aR 0, aI (bR F j v), aI (j + 1), aI a, aI b], [], h) := by
  have st : ∀ (b : Bool) (i : Int), 0 ≤ i → i < 3 → X (22, 82, [aR 0, aI v, aI j, aI (bi b), aI i], [], h) = X (22, 82, [aR 0, aI v, aI j, aI (bi (b || ba F i j)), aI (i + 1)], [], h) := by
    intro b i i0 i1
    rw [e22_82, wr_id (x := i) (by omega) (by omega), cd_f (by omega)]
    cases b
    · rw [cd_f (show ¬ wr (bi false) ≠ 0 by decide), s_beats hF h69 ⟨i0, i1⟩ j0, bI_some]
      cases ba F i j
      · rw [cd_t (by decide)]; rfl
      · rw [cd_f (by decide)]; rfl
    · rw [cd_t (show wr (bi true) ≠ 0 by decide), Bool.true_or]; rfl
  have q0 := st false 0 (by omega) (by omega)
  have q1 := st (false || ba F 0 j) (0 + 1) (by omega) (by omega)
  have q2 := st (false || ba F 0 j || ba F (0 + 1) j) (0 + 1 + 1) (by omega) (by omega)
  have q := q0.trans (q1.trans q2)
  have q : X (22, 82, [aR 0, aI v, aI j, aI 0, aI 0], [], h) = _ := q
  have eb : (false || ba F 0 j || ba F (0 + 1) j || ba F (0 + 1 + 1) j) = bt F j := by
    unfold bt
    rw [Bool.false_or, Bool.or_assoc]; rfl
  rw [eb, e22_82 v j (bi (bt F j)), cd_t (by decide)] at q
  refine ⟨bi (bt F j), 0 + 1 + 1 + 1, ?_⟩
  rw [e22_72, wr_id (x := j) (by omega) (by omega), cd_f (by omega), q]
  unfold bR
  cases bt F j
  · rw [cd_t (by decide)]; rfl
  · rw [cd_f (by decide)]; rfl
theorem m_row {h : Hp} {F : Int → Int} (hF : FB F) (h91 : ∀ k, 0 ≤ k → k < 9 → h 91 k = F k) {j : Int} (j0 : 0 ≤ j ∧ j < 3) (v : Int) (w3 w4 w5 w6 : AV) : ∃ a b c d : Int, X (101, 46, [aR 80, aI v, aI j, w3, w4, w5, w6], [], h) = X (101, 46, [aR 80, aI (bR F j v), aI (j + 1), aI a, aI b, aI c, aI d], [], h) := by
  obtain ⟨s0, t0, q0⟩ := m_beat hF h91 (i := 0) (j := j) (v1 := v) (by omega) j0 true w5 w6
  obtain ⟨s1, t1, q1⟩ := m_beat hF h91 (i := 0 + 1) (j := j) (v1 := v) (by omega) j0 (true && !ba F 0 j) (aI s0) (aI t0)
  obtain ⟨s2, t2, q2⟩ := m_beat hF h91 (i := 0 + 1 + 1) (j := j) (v1 := v) (by omega) j0 (true && !ba F 0 j && !ba F (0 + 1) j) (aI s1) (aI t1)
  have q := q0.trans (q1.trans q2)
  have q : X (101, 56, [aR 80, aI v, aI j, aI 1, aI 0, w5, w6], [], h) = _ := q
  have eb : (true && !ba F 0 j && !ba F (0 + 1) j && !ba F (0 + 1 + 1) j) = !bt F j := by
    unfold bt
    rw [show (0 : Int) + 1 = 1 from rfl, show (1 : Int) + 1 = 2 from rfl]
    cases ba F 0 j <;> cases ba F 1 j <;> cases ba F 2 j <;> rfl
  rw [eb, e101_56 v j (bi (!bt F j)), cd_t (by decide)] at q
  refine ⟨bi (!bt F j), 0 + 1 + 1 + 1, s2, t2, ?_⟩
  rw [e101_46, wr_id (x := j) (by omega) (by omega), cd_f (by omega), q]
  unfold bR
  cases bt F j
  · rw [cd_f (by decide)]; rfl
  · rw [cd_t (by decide)]; rfl
theorem Su_agree {d : Nat} {g g' gm : Hp} {w l c t w' l' c' t' : Int} {F F' : Int → Int} (H : Su d g gm w l c t F) (H' : Su d g' gm w' l' c' t' F') : Su d g' gm w l c t F := by
  obtain ⟨s1, s2, s3, s4, s5, s6, s7, s8, s9, b1, b2, b3, b4, eF⟩ := H
  obtain ⟨u1, u2, u3, u4, u5, u6, u7, u8, u9, _, _, _, _, eF'⟩ := H'
  have inj : ∀ {a b : Int} {m n : Hp}, (some (some a, m) : Res) = some (some b, n) → b = a := fun e => by
    injection e with e
    injection e with e _
    injection e with e
    exact e.symm
  have e1 : w' = w := inj (s2.symm.trans u2)
  have e2 : l' = l := inj (s4.symm.trans u4)
  have e3 : c' = c := inj (s6.symm.trans u6)
  have e4 : t' = t := inj (s8.symm.trans u8)
  have e5 : F' = F := by rw [eF, eF']
  subst e1 e2 e3 e4 e5
  exact ⟨u1, u2, u3, u4, u5, u6, u7, u8, u9, b1, b2, b3, b4, eF⟩
theorem End_c' {d : Nat} {io : Int → Int} {n : Int} {Z : Int → Int} {g b gm : Hp} (e : ∀ p, d + 1 ≤ p → p ≤ d + 9 → g p = b p) (e13 : g d 13 = b d 13) (H : End d io n Z b gm) : End d io n Z g gm := by
  obtain ⟨E1, E2, E3, E4, E5⟩ := H
  refine ⟨fun i i0 i1 => ?_, by rw [e13]; exact E2, E3, E4, E5⟩
  rw [e (d + 1) (by omega) (by omega), e (d + 2) (by omega) (by omega), e (d + 3) (by omega) (by omega), e (d + 4) (by omega) (by omega), e (d + 5) (by omega) (by omega), e (d + 6) (by omega) (by omega)]
  exact E1 i i0 i1
/-- the sums hold over any heap that has the same day -/
theorem sums' {d : Nat} {Z : Int → Int} {pl ru th : Int} {g gm : Hp} (hd : d = 1 ∨ d = 27) (hZ : ZD Z) (D : Dat d (fun i => i) (Z 24) Z pl ru th g) (h81 : gm 81 = Z) (E : End d (fun i => i) (Z 24) Z g gm) : ∃ w l c t F, ∀ g' : Hp, (∀ p, d ≤ p → p ≤ d + 22 → g' p = g p) → Su d g' gm w l c t F := by
  obtain ⟨w, l, c, t, F, S⟩ := sums hd hZ D h81 E
  refine ⟨w, l, c, t, F, fun g' e => ?_⟩
  obtain ⟨w', l', c', t', F', S'⟩ := sums (g := g') hd hZ (Dat_c (fun p p1 p2 => e p (by omega) (by omega)) D) h81 (End_c' (fun p p1 p2 => e p (by omega) (by omega)) (by rw [e d (by omega) (by omega)]) E)
  exact Su_agree S S'
/-- playByRule, with what it leaves -/
theorem by_rule' {L : Nat} {xs : Nat → Int32} {h : Hp} (hI : Inv L xs h) {r : Int} (r0 : 0 ≤ r ∧ r ≤ 2) : ∃ g w l c t, ∃ F : Hp → Int → Int, X (39, 0, [aR 0, aI r], [], h) = some (none, g) ∧ (∀ p, (p < 27 ∨ 52 < p) → g p = h p) ∧ ∀ hm : Hp, hm 81 = h 81 → ∃ gm, X (83, 0, [aR 80, aI 239, aN, aN], [], up (tol hm) 80 6 r) = some (none, gm) ∧ FrM (up (tol hm) 80 6 r) gm ∧ ∀ g' : Hp, (∀ p, 27 ≤ p → p ≤ 49 → g' p = g p) → Su 27 g' gm w l c t (F gm) := by
  obtain ⟨g1, c1, c2, c3, c4⟩ := copy_trial hI
  have hZ : ZD (h 81) := zd_of hI.2.2.1
  have D := Dat_rule c4 r
  have M0 := MP_rule (h := h) (r := r)
  obtain ⟨g, gm0, a1, a2, a3, a4, a5, a6, a7⟩ := day_both (d := 27) (Or.inr rfl) (sta_rule hZ r0) M0 D
  have DG : Dat 27 (fun i => i) (h 81 24) (h 81) 0 r (h 81 5) g := Dat_c (fun p p1 p2 => a3.1 p (by omega)) D
  obtain ⟨w, l, c, t, F, s⟩ := sums (d := 27) (Or.inr rfl) hZ DG (by rw [a4.1 81 (by omega), up_n _ _ _ (by decide), tol_o h (by decide)]) a5
  refine ⟨g, w, l, c, t, fun gm f => sm (fun i => if gm 84 i = f then 1 else 0) (gm 81 24).toNat, by rw [e39_0, c1, bV_some, a1, bV_some], fun p hp => by rw [a3.1 p (by omega), up_n _ _ _ (by omega), c2 p (by omega)], fun hm h81 => ?_⟩
  have M := MP_rule (h := hm) (r := r)
  rw [h81] at M
  obtain ⟨g', gm, b1, b2, b3, b4, b5, b6, b7⟩ := day_both (d := 27) (Or.inr rfl) (sta_rule hZ r0) M D
  have eg : g' = g := by
    rw [a1] at b1
    injection b1 with b1
    injection b1 with _ b1
    exact b1.symm
  subst eg
  obtain ⟨w', l', c', t', F', s'⟩ := sums' (d := 27) (Or.inr rfl) hZ DG (by rw [b4.1 81 (by omega), up_n _ _ _ (by decide), tol_o hm (by decide), h81]) b5
  refine ⟨gm, b2, b4, fun gx e => ?_⟩
  have S0 := s' g' (fun p _ _ => rfl)
  have S1 := s' gx e
  obtain ⟨s1, s2, s3, s4, s5, s6, s7, s8, s9, x1, x2, x3, x4, eF⟩ := s
  obtain ⟨u1, u2, u3, u4, u5, u6, u7, u8, u9, _, _, _, _, eF'⟩ := S0
  have inj : ∀ {a b : Int} {m n : Hp}, (some (some a, m) : Res) = some (some b, n) → b = a := fun e => by
    injection e with e
    injection e with e _
    injection e with e
    exact e.symm
  have e1 : w' = w := inj (s1.symm.trans u1)
  have e2 : l' = l := inj (s3.symm.trans u3)
  have e3 : c' = c := inj (s5.symm.trans u5)
  have e4 : t' = t := inj (s7.symm.trans u7)
  subst e1 e2 e3 e4
  rw [eF'] at S1
  exact S1
theorem s_fig {L : Nat} {xs : Nat → Int32} {h : Hp} (hI : Inv L xs h) {r : Int} (r0 : 0 ≤ r ∧ r < 3) : ∃ g w l c, X (22, 2, [aR 0, aI r, aN, aN, aN], [], h) = X (22, 2, [aR 0, aI (r + 1), aN, aN, aN], [], g) ∧ (∀ p, ¬ (27 ≤ p ∧ p ≤ 52) → p ≠ 69 → g p = h p) ∧ (g 69 (3 * r) = w ∧ g 69 (3 * r + 1) = l ∧ g 69 (3 * r + 2) = -c) ∧ (∀ j, j < 3 * r → g 69 j = h 69 j) ∧ ((0 ≤ w ∧ w ≤ 4752) ∧ (0 ≤ l ∧ l ≤ 4752) ∧ (0 ≤ c ∧ c ≤ 4752)) ∧ ∀ hm : Hp, hm 81 = h 81 → ∃ gm, X (83, 0, [aR 80, aI 239, aN, aN], [], up (tol hm) 80 6 r) = some (none, gm) ∧ FrM (up (tol hm) 80 6 r) gm ∧ X (84, 0, [aR 80, aN, aN], [], gm) = some (some w, gm) ∧ X (85, 0, [aR 80, aN, aN], [], gm) = some (some l, gm) ∧ X (86, 0, [aR 80, aN, aN], [], gm) = some (some c, gm) := by
  obtain ⟨g, w, l, c, t, F, g1, g2, g3⟩ := by_rule' hI (r := r) (by omega)
  obtain ⟨gm, m1, m2, m3⟩ := g3 h rfl
  have n : ∀ (x : Hp) (a b : Int) (p : Nat), p ≠ 69 → up x 69 a b p = x p := fun x a b p hp => up_n x a b hp
  have S0 := m3 g (fun p _ _ => rfl)
  have S1 := m3 (up g 69 (3 * r) w) (fun p p1 p2 => n _ _ _ _ (by omega))
  have S2 := m3 (up (up g 69 (3 * r) w) 69 (3 * r + 1) l) (fun p p1 p2 => by rw [n _ _ _ _ (by omega), n _ _ _ _ (by omega)])
  have bb := S0.2.2.2.2.2.2.2.2.2
  refine ⟨up (up (up g 69 (3 * r) w) 69 (3 * r + 1) l) 69 (3 * r + 2) (-c), w, l, c, ?_, fun p p1 p2 => ?_, ⟨?_, ?_, ?_⟩, fun j hj => ?_, by omega, fun hm hm1 => ?_⟩
  · rw [e22_2, wr_id (x := r) (by omega) (by omega), cd_f (by omega), g1, bV_some, S0.1, bI_some, inb_t (by omega) (by omega) (by omega), cond_t, show wr (r * 3) = 3 * r by rw [wr_id (by omega) (by omega)]; omega, S1.2.2.1, bI_some, inb_t (by omega) (by omega) (by omega), cond_t, show wr (r * 3 + 1) = 3 * r + 1 by rw [wr_id (by omega) (by omega)]; omega, S2.2.2.2.2.1, bI_some, inb_t (by omega) (by omega) (by omega), cond_t, show wr (r * 3 + 2) = 3 * r + 2 by rw [wr_id (by omega) (by omega)]; omega]
  · rw [n _ _ _ _ p2, n _ _ _ _ p2, n _ _ _ _ p2, g2 p (by omega)]
  · rw [up_o _ _ _ (by omega), up_o _ _ _ (by omega), up_s]
  · rw [up_o _ _ _ (by omega), up_s]
  · rw [up_s]
  · rw [up_o _ _ _ (by omega), up_o _ _ _ (by omega), up_o _ _ _ (by omega), g2 69 (by omega)]
  · obtain ⟨gx, x1, x2, x3⟩ := g3 hm hm1
    have S := x3 g (fun p _ _ => rfl)
    exact ⟨gx, x1, x2, S.2.1, S.2.2.2.1, S.2.2.2.2.2.1⟩
/-- what the reference's day by a rule may touch -/
def FrN (h g : Hp) : Prop := (∀ p, ¬ (p = 80 ∨ (84 ≤ p ∧ p ≤ 91)) → g p = h p) ∧ g 80 2 = h 80 2 ∧ g 80 22 = h 80 22
theorem FrN_t {a b c : Hp} (H : FrN a b) (K : FrN b c) : FrN a c := ⟨fun p hp => by rw [K.1 p hp, H.1 p hp], by rw [K.2.1, H.2.1], by rw [K.2.2, H.2.2]⟩
theorem FrN_of {h g : Hp} {r : Int} (F : FrM (up (tol h) 80 6 r) g) : FrN h g := ⟨fun p hp => by rw [F.1 p (by omega), up_n _ _ _ (by omega), tol_o h (by omega)], by rw [F.2 2 (by decide), up_o _ _ _ (by decide), tol_j h (by decide)], by rw [F.2 22 (by decide), up_o _ _ _ (by decide), tol_j h (by decide)]⟩
theorem m_fig {Z : Int → Int} {r w l c : Int} (r0 : 0 ≤ r ∧ r < 3) (H : ∀ hm : Hp, hm 81 = Z → ∃ gm, X (83, 0, [aR 80, aI 239, aN, aN], [], up (tol hm) 80 6 r) = some (none, gm) ∧ FrM (up (tol hm) 80 6 r) gm ∧ X (84, 0, [aR 80, aN, aN], [], gm) = some (some w, gm) ∧ X (85, 0, [aR 80, aN, aN], [], gm) = some (some l, gm) ∧ X (86, 0, [aR 80, aN, aN], [], gm) = some (some c, gm)) {h : Hp} (h81 : h 81 = Z) (w2 : AV) : ∃ (g : Hp) (y : Int), X (101, 2, [aR 80, aI r, w2, aN, aN, aN, aN], [], h) = X (101, 2, [aR 80, aI (r + 1), aI y, aN, aN, aN, aN], [], g) ∧ FrN h g ∧ (g 91 (3 * r) = w ∧ g 91 (3 * r + 1) = l ∧ g 91 (3 * r + 2) = c) ∧ ∀ j, j < 3 * r → g 91 j = h 91 j := by
  have one : ∀ (k : Int) (v : Int) (hm : Hp), hm 81 = Z → (k = 0 ∧ v = w ∨ k = 1 ∧ v = l ∨ k = 2 ∧ v = c) → ∃ gm, X (99, 0, [aR 80, aI r, aI k], [], hm) = some (some v, gm) ∧ FrN hm gm ∧ gm 91 = hm 91 := by
    intro k v hm hz hk
    obtain ⟨gm, y1, y2, y3, y4, y5⟩ := H hm hz
    refine ⟨gm, ?_, FrN_of y2, by rw [y2.1 91 (by omega), up_n _ _ _ (by decide), tol_o hm (by decide)]⟩
    rw [e99_0, m_asTold, bV_some, y1, bV_some]
    rcases hk with ⟨rfl, rfl⟩ | ⟨rfl, rfl⟩ | ⟨rfl, rfl⟩
    · rw [cd_f (by decide), y3, bI_some]
    · rw [cd_t (by decide), cd_f (by decide), y4, bI_some]
    · rw [cd_t (by decide), cd_t (by decide), y5, bI_some]
  obtain ⟨g0, a1, a2, a3⟩ := one 0 w h h81 (Or.inl ⟨rfl, rfl⟩)
  have f0 : FrN h (up g0 91 (3 * r) w) := FrN_t a2 ⟨fun p hp => up_n _ _ _ (by omega), by rw [up_n _ _ _ (by decide)], by rw [up_n _ _ _ (by decide)]⟩
  obtain ⟨g1, b1, b2, b3⟩ := one 1 l (up g0 91 (3 * r) w) (by rw [f0.1 81 (by omega), h81]) (Or.inr (Or.inl ⟨rfl, rfl⟩))
  have f1 : FrN h (up g1 91 (3 * r + 1) l) := FrN_t (FrN_t f0 b2) ⟨fun p hp => up_n _ _ _ (by omega), by rw [up_n _ _ _ (by decide)], by rw [up_n _ _ _ (by decide)]⟩
  obtain ⟨g2, c1, c2, c3⟩ := one 2 c (up g1 91 (3 * r + 1) l) (by rw [f1.1 81 (by omega), h81]) (Or.inr (Or.inr ⟨rfl, rfl⟩))
  have f2 : FrN h (up g2 91 (3 * r + 2) c) := FrN_t (FrN_t f1 c2) ⟨fun p hp => up_n _ _ _ (by omega), by rw [up_n _ _ _ (by decide)], by rw [up_n _ _ _ (by decide)]⟩
  refine ⟨up g2 91 (3 * r + 2) c, 3, ?_, f2, ⟨?_, ?_, ?_⟩, fun j hj => ?_⟩
  · rw [e101_2, wr_id (x := r) (by omega) (by omega), cd_f (by omega), e101_9, cd_f (by decide), a1, bI_some, inb_t (by omega) (by omega) (by omega), cond_t, show wr (3 * r + 0) = 3 * r by rw [wr_id (by omega) (by omega)]; omega, e101_9, cd_f (by decide), show (0 : Int) + 1 = 1 from rfl, b1, bI_some, inb_t (by omega) (by omega) (by omega), cond_t, wr_id (x := 3 * r + 1) (by omega) (by omega), e101_9, cd_f (by decide), show (1 : Int) + 1 = 2 from rfl, c1, bI_some, inb_t (by omega) (by omega) (by omega), cond_t, wr_id (x := 3 * r + 2) (by omega) (by omega), e101_9, cd_t (by decide)]
    rfl
  · rw [up_o _ _ _ (by omega), c3, up_o _ _ _ (by omega), b3, up_s]
  · rw [up_o _ _ _ (by omega), c3, up_s]
  · rw [up_s]
  · rw [up_o _ _ _ (by omega), c3, up_o _ _ _ (by omega), b3, up_o _ _ _ (by omega), a3]
theorem case_22 (L : Nat) (xs : Nat → Int32) : Cs_22 L xs := by
  intro h hI
  have hS := hI.1
  have q69 : ∀ {a b : Hp}, (∀ p, ¬ (27 ≤ p ∧ p ≤ 52) → p ≠ 69 → b p = a p) → Inv L xs a → Inv L xs b := fun f I => inv_quiet I (fun p hp => f p (by omega) (by omega)) ⟨by rw [f 80 (by omega) (by omega)], by rw [f 80 (by omega) (by omega)]⟩
  obtain ⟨g0, w0, l0, c0, a1, a2, a3, a4, a5, a6⟩ := s_fig hI (r := 0) (by omega)
  have I0 := q69 a2 hI
  obtain ⟨g1, w1, l1, c1, b1, b2, b3, b4, b5, b6⟩ := s_fig I0 (r := 0 + 1) (by omega)
  have I1 := q69 b2 I0
  obtain ⟨g2, w2, l2, c2, d1, d2, d3, d4, d5, d6⟩ := s_fig I1 (r := 0 + 1 + 1) (by omega)
  have I2 := q69 d2 I1
  have z0 : g0 81 = h 81 := a2 81 (by omega) (by omega)
  have z1 : g1 81 = h 81 := by rw [b2 81 (by omega) (by omega), z0]
  have z2 : g2 81 = h 81 := by rw [d2 81 (by omega) (by omega), z1]
  rw [z0] at b6
  rw [z1] at d6
  obtain ⟨m0, y0, p1, p2, p3, p4⟩ := m_fig (by omega) a6 z2 aN
  have u0 : m0 81 = h 81 := by rw [p2.1 81 (by omega), z2]
  obtain ⟨m1, y1, r1, r2, r3, r4⟩ := m_fig (by omega) b6 u0 (aI y0)
  have u1 : m1 81 = h 81 := by rw [r2.1 81 (by omega), u0]
  obtain ⟨m2, y2, t1, t2, t3, t4⟩ := m_fig (by omega) d6 u1 (aI y1)
  have FN : FrN g2 m2 := FrN_t (FrN_t p2 r2) t2
  have k9 : ∀ k : Int, 0 ≤ k → k < 9 → k = 0 ∨ k = 1 ∨ k = 2 ∨ k = 3 ∨ k = 4 ∨ k = 5 ∨ k = 6 ∨ k = 7 ∨ k = 8 := fun k _ _ => by omega
  have v0 : m2 91 0 = w0 := by rw [t4 0 (by omega), r4 0 (by omega)]; exact p3.1
  have v1 : m2 91 1 = l0 := by rw [t4 1 (by omega), r4 1 (by omega)]; exact p3.2.1
  have v2 : m2 91 2 = c0 := by rw [t4 2 (by omega), r4 2 (by omega)]; exact p3.2.2
  have v3 : m2 91 3 = w1 := by rw [t4 3 (by omega)]; exact r3.1
  have v4 : m2 91 4 = l1 := by rw [t4 4 (by omega)]; exact r3.2.1
  have v5 : m2 91 5 = c1 := by rw [t4 5 (by omega)]; exact r3.2.2
  have v6 : m2 91 6 = w2 := t3.1
  have v7 : m2 91 7 = l2 := t3.2.1
  have v8 : m2 91 8 = c2 := t3.2.2
  have x0 : g2 69 0 = w0 := by rw [d4 0 (by omega), b4 0 (by omega)]; exact a3.1
  have x1 : g2 69 1 = l0 := by rw [d4 1 (by omega), b4 1 (by omega)]; exact a3.2.1
  have x2 : g2 69 2 = -c0 := by rw [d4 2 (by omega), b4 2 (by omega)]; exact a3.2.2
  have x3 : g2 69 3 = w1 := by rw [d4 3 (by omega)]; exact b3.1
  have x4 : g2 69 4 = l1 := by rw [d4 4 (by omega)]; exact b3.2.1
  have x5 : g2 69 5 = -c1 := by rw [d4 5 (by omega)]; exact b3.2.2
  have x6 : g2 69 6 = w2 := d3.1
  have x7 : g2 69 7 = l2 := d3.2.1
  have x8 : g2 69 8 = -c2 := d3.2.2
  have hF : FB (m2 91) := fun k k0 k1 => by
    rcases k9 k k0 k1 with rfl | rfl | rfl | rfl | rfl | rfl | rfl | rfl | rfl <;> omega
  have h69 : ∀ i, 0 ≤ i → i < 3 → g2 69 (3 * i) = m2 91 (3 * i) ∧ g2 69 (3 * i + 1) = m2 91 (3 * i + 1) ∧ g2 69 (3 * i + 2) = -m2 91 (3 * i + 2) := fun i i0 i1 => by
    have : i = 0 ∨ i = 1 ∨ i = 2 := by omega
    rcases this with rfl | rfl | rfl
    · exact ⟨x0.trans v0.symm, x1.trans v1.symm, x2.trans (congrArg _ v2.symm)⟩
    · exact ⟨x3.trans v3.symm, x4.trans v4.symm, x5.trans (congrArg _ v5.symm)⟩
    · exact ⟨x6.trans v6.symm, x7.trans v7.symm, x8.trans (congrArg _ v8.symm)⟩
  obtain ⟨e1, e2, k1⟩ := s_row hF h69 (j := 0) (by omega) 0 aN aN
  obtain ⟨e3, e4, k2⟩ := s_row hF h69 (j := 0 + 1) (by omega) (bR (m2 91) 0 0) (aI e1) (aI e2)
  obtain ⟨e5, e6, k3⟩ := s_row hF h69 (j := 0 + 1 + 1) (by omega) (bR (m2 91) (0 + 1) (bR (m2 91) 0 0)) (aI e3) (aI e4)
  obtain ⟨f1, f2, f3, f4, n1⟩ := m_row hF (fun k _ _ => rfl) (j := 0) (by omega) 0 aN aN aN aN
  obtain ⟨f5, f6, f7, f8, n2⟩ := m_row hF (fun k _ _ => rfl) (j := 0 + 1) (by omega) (bR (m2 91) 0 0) (aI f1) (aI f2) (aI f3) (aI f4)
  obtain ⟨f9, f10, f11, f12, n3⟩ := m_row hF (fun k _ _ => rfl) (j := 0 + 1 + 1) (by omega) (bR (m2 91) (0 + 1) (bR (m2 91) 0 0)) (aI f5) (aI f6) (aI f7) (aI f8)
  refine ⟨bR (m2 91) (0 + 1 + 1) (bR (m2 91) (0 + 1) (bR (m2 91) 0 0)), g2, m2, ?_, fun p hp => by rw [d2 p (by omega) (by omega), b2 p (by omega) (by omega), a2 p (by omega) (by omega)]; exact hS p hp, ?_, inv_quiet I2 (fun p hp => FN.1 p (by omega)) FN.2⟩
  · rw [e22_0, a1, b1, d1, e22_2, cd_t (by decide), k1, k2, k3, e22_72, cd_t (by decide)]
  · rw [e101_0, p1, r1, t1, e101_2, cd_t (by decide), n1, n2, n3, e101_46, cd_t (by decide)]
