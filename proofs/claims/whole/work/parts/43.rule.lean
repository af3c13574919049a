/-! the other day, by another rule -/
theorem Dat_rule {d : Nat} {io : Int → Int} {n : Int} {Z : Int → Int} {pl ru th : Int} {h : Hp} (H : Dat d io n Z pl ru th h) (r : Int) : Dat d io n Z pl r th (up h (d + 12) 7 r) := by
  obtain ⟨a1, a2, a3, a4, ⟨b0, b1, b2, b3, b4, b6, b5, b7⟩, a6, a7, a8⟩ := H
  have o : ∀ p, p ≠ d + 12 → up h (d + 12) 7 r p = h p := fun p hp => up_n _ _ _ hp
  unfold Dat
  rw [o (d + 18) (by omega), o (d + 19) (by omega), o (d + 20) (by omega), o (d + 21) (by omega), o (d + 22) (by omega), o (d + 13) (by omega), o (d + 14) (by omega), o (d + 16) (by omega), up_s, up_o _ _ _ (by decide), up_o _ _ _ (by decide), up_o _ _ _ (by decide), up_o _ _ _ (by decide), up_o _ _ _ (by decide), up_o _ _ _ (by decide), up_o _ _ _ (by decide)]
  exact ⟨a1, a2, a3, a4, ⟨b0, b1, b2, b3, b4, b6, b5, rfl⟩, a6, a7, a8⟩
theorem copy_trial {L : Nat} {xs : Nat → Int32} {h : Hp} (hI : Inv L xs h) : ∃ g, X (171, 0, [aR 37, aR 11], [], h) = some (none, g) ∧ (∀ p, (p < 39 ∨ 52 < p) → g p = h p) ∧ RR 37 81 g ∧ Dat 27 (fun i => i) (h 81 24) (h 81) 0 (h 81 7) (h 81 5) g := by
  have hR := hI.2.1
  have hZ := hI.2.2.1
  have hn : h (11 + 8) 4 = h 81 24 := hR.2.2.2.1.1
  have hb := hZ.2.2.2.1.1
  obtain ⟨g, g1, g2⟩ := s_copyRoom (r := 37) (q := 11) (h := h) (by decide) (by decide) (by decide) (by omega) (by omega)
  have f : ∀ p, (p < 39 ∨ 52 < p) → g p = h p := fun p hp => g2.1 p (by omega)
  have g81 : g 81 = h 81 := f 81 (by omega)
  have R2 : RR 37 81 g := RR_copy g2.2 (fun j _ _ => by rw [g81]) hZ hR
  have D := Dat_of (d := 27) (h := g) (z := 81) R2 (Zz_congr g81 hZ)
  rw [g81] at D
  exact ⟨g, g1, f, R2, D⟩
