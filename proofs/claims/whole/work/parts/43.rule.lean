/-! the other day, by another rule -/
theorem Dat_rule {d : Nat} {io : Int → Int} {n : Int} {Z : Int → Int} {pl ru th : Int} {h : Hp} (H : Dat d io n Z pl ru th h) (r : Int) : Dat d io n Z pl r th (up h (d + 12) 7 r) := by
  obtain ⟨a1, a2, a3, a4, ⟨b0, b1, b2, b3, b4, b6, b5, b7⟩, a6, a7, a8⟩ := H
  have o : ∀ p, p ≠ d + 12 → up h (d + 12) 7 r p = h p := fun p hp => up_n _ _ _ hp
  unfold Dat
  rw [o (d + 18) (by omega), o (d + 19) (by omega), o (d + 20) (by omega), o (d + 21) (by omega), o (d + 22) (by omega), o (d + 13) (by omega), o (d + 14) (by omega), o (d + 16) (by omega), up_s, up_o _ _ _ (by decide), up_o _ _ _ (by decide), up_o _ _ _ (by decide), up_o _ _ _ (by decide), up_o _ _ _ (by decide), up_o _ _ _ (by decide), up_o _ _ _ (by decide)]
  exact ⟨a1, a2, a3, a4, ⟨b0, b1, b2, b3, b4, b6, b5, rfl⟩, a6, a7, a8⟩
theorem copy_trial {L : Nat} {xs : Nat → Int32} {h : Hp} (hI : Inv L xs h) : ∃ g, X (171, 0, [aR 37, aR 11], [], h) = some (none, g) ∧ (∀ p, (p < 39 ∨ 52 < p) → g p = h p) ∧ RR 37 81 g ∧ Dat 27 (fun i => i) (h 81 24) (h 81) 0 (h 81 7) (h 81 5) g := by
  have hR := hI.2.1
  have hZ := hI.2.2.1
  have hn : h (11 + 8) 4 = h 81 24 := hR.2.2.2.1.1
  have hb := hZ.2.2.2.1.1
  obtain ⟨g, g1, g2⟩ := s_copyRoom (r := 37) (q := 11) (h := h) (by decide) (by decide) (by decide) (by omega) (by omega)
  have f : ∀ p, (p < 39 ∨ 52 < p) → g p = h p := fun p hp => g2.1 p (by omega)
  have g81 : g 81 = h 81 := f 81 (by omega)
  have R2 : RR 37 81 g := RR_copy g2.2 (fun j _ _ => by rw [g81]) hZ hR
  have D := Dat_of (d := 27) (h := g) (z := 81) R2 (Zz_congr g81 hZ)
  rw [g81] at D
  exact ⟨g, g1, f, R2, D⟩
theorem sta_rule {Z : Int → Int} (hZ : ZD Z) {r : Int} (r0 : 0 ≤ r ∧ r ≤ 2) : Sta (fun i => i) (Z 24) Z 0 r (Z 5) 240 (-4) (-1) := by
  obtain ⟨a1, a2, a3, a4⟩ := sta_told hZ
  exact ⟨a1, a2, r0, a4⟩
theorem MP_rule {h : Hp} {r : Int} : MP (up (tol h) 80 6 r) (h 81) 0 r (h 81 5) 240 (-4) := by
  obtain ⟨a1, a2, a3, a4, a5, a6⟩ := tol_MP h
  exact ⟨by rw [up_n _ _ _ (by decide)]; exact a1, by rw [up_o _ _ _ (by decide)]; exact a2, up_s _ _ _ _, by rw [up_o _ _ _ (by decide)]; exact a4, by rw [up_o _ _ _ (by decide)]; exact a5, by rw [up_o _ _ _ (by decide)]; exact a6⟩
/-- playByRule, and the reference's day by that rule over any heap with that row -/
theorem by_rule {L : Nat} {xs : Nat → Int32} {h : Hp} (hI : Inv L xs h) {r : Int} (r0 : 0 ≤ r ∧ r ≤ 2) : ∃ g, X (39, 0, [aR 0, aI r], [], h) = some (none, g) ∧ (∀ p, (p < 27 ∨ 52 < p) → g p = h p) ∧ ∀ hm : Hp, hm 81 = h 81 → ∃ gm w l c t F, X (83, 0, [aR 80, aI 239, aN, aN], [], up (tol hm) 80 6 r) = some (none, gm) ∧ FrM (up (tol hm) 80 6 r) gm ∧ Su 27 g gm w l c t F := by
  obtain ⟨g1, c1, c2, c3, c4⟩ := copy_trial hI
  have hZ : ZD (h 81) := zd_of hI.2.2.1
  have D := Dat_rule c4 r
  have M0 := MP_rule (h := h) (r := r)
  obtain ⟨g, gm0, a1, a2, a3, a4, a5, a6, a7⟩ := day_both (d := 27) (Or.inr rfl) (sta_rule hZ r0) M0 D
  refine ⟨g, by rw [e39_0, c1, bV_some, a1, bV_some], fun p hp => by rw [a3.1 p (by omega), up_n _ _ _ (by omega), c2 p (by omega)], fun hm h81 => ?_⟩
  have M := MP_rule (h := hm) (r := r)
  rw [h81] at M
  obtain ⟨g', gm, b1, b2, b3, b4, b5, b6, b7⟩ := day_both (d := 27) (Or.inr rfl) (sta_rule hZ r0) M D
  have eg : g' = g := by
    rw [a1] at b1
    injection b1 with b1
    injection b1 with _ b1
    exact b1.symm
  subst eg
  have DG : Dat 27 (fun i => i) (h 81 24) (h 81) 0 r (h 81 5) g' := Dat_c (fun p p1 p2 => a3.1 p (by omega)) D
  obtain ⟨w, l, c, t, F, s⟩ := sums (d := 27) (Or.inr rfl) hZ DG (by rw [b4.1 81 (by omega), up_n _ _ _ (by decide), tol_o hm (by decide), h81]) b5
  exact ⟨gm, w, l, c, t, F, b2, b4, s⟩
