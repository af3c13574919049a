/-! strike -/
def dn (p x : Int) : Int := if x ≤ p then x else x - 1
def wOK (N x y : Int) : Prop := (0 ≤ x ∧ x < N) ∧ (0 ≤ y ∧ y < N) ∧ x ≠ y
theorem dn_ok {N p x y : Int} (p0 : 0 ≤ p) (p1 : p < N) (H : wOK N x y) (hx : x ≠ p) (hy : y ≠ p) : wOK (N - 1) (dn p x) (dn p y) := by
  unfold wOK dn at *
  split <;> split <;> omega
theorem forget_both {p N S : Int} (p0 : 0 ≤ p) (p1 : p < N) (hN : N ≤ 12) (hS : S ≤ 12) : ∀ (k : Nat) (v2 v3 : Int) (h : Hp), 0 ≤ v2 → v2 ≤ v3 → v3 + k = S → h 24 2 = S → (∀ w, 0 ≤ w → w < v2 → wOK (N - 1) (h 25 w) (h 26 w)) → (∀ w, v3 ≤ w → w < S → wOK N (h 25 w) (h 26 w)) →
    ∃ h', X (124, 4, [aR 24, aI p, aI v2, aI v3], [], h) = some (none, h') ∧ (∀ q, (q < 24 ∨ 26 < q) → h' q = h q) ∧ h' 24 3 = -1 ∧ (0 ≤ h' 24 2 ∧ h' 24 2 ≤ S) ∧ (∀ w, 0 ≤ w → w < h' 24 2 → wOK (N - 1) (h' 25 w) (h' 26 w)) ∧
      ∀ (g : Hp) (w4 w5 : AV), g 81 42 = S → (∀ w, 0 ≤ w → w < S → (w < v2 ∨ v3 ≤ w) → h 25 w = g 81 (43 + 2 * w) ∧ h 26 w = g 81 (44 + 2 * w)) → ∃ g', X (54, 70, [aR 80, aI p, aI v2, aI v3, w4, w5], [], g) = some (some (g 81 24), g') ∧ (∀ q, q ≠ 81 → g' q = g q) ∧ (∀ j, (j < 42 ∨ 67 ≤ j) → g' 81 j = g 81 j) ∧ g' 81 42 = h' 24 2 ∧ ∀ w, 0 ≤ w → w < h' 24 2 → h' 25 w = g' 81 (43 + 2 * w) ∧ h' 26 w = g' 81 (44 + 2 * w)
  | 0, v2, v3, h, a0, a1, hk, h2, P, Q => by
    refine ⟨up (up h 24 2 v2) 24 3 (-1), ?_, fun q hq => ?_, up_s _ _ _ _, ?_, ?_, fun g w4 w5 g42 R => ⟨up g 81 42 v2, ?_, fun q hq => up_n _ _ _ hq, fun j hj => up_o _ _ _ (by omega), ?_, ?_⟩⟩
    · rw [e124_4 (by decide), h2, wr_id (x := S) (by omega) (by omega), wr_id (x := v3) (by omega) (by omega), cd_t (by omega)]
    · rw [up_n _ _ _ (by omega), up_n _ _ _ (by omega)]
    · rw [up_o _ _ _ (by decide), up_s]; omega
    · rw [up_o _ _ _ (by decide), up_s, up_n _ _ _ (by decide), up_n _ _ _ (by decide), up_n _ _ _ (by decide), up_n _ _ _ (by decide)]; exact P
    · rw [e54_70, g42, wr_id (x := S) (by omega) (by omega), wr_id (x := v3) (by omega) (by omega), cd_t (by omega), up_o _ _ _ (by decide)]
    · rw [up_s, up_o _ _ _ (by decide), up_s]
    · have z2 : up (up h 24 2 v2) 24 3 (-1) 24 2 = v2 := by rw [up_o _ _ _ (by decide), up_s]
      have z5 : up (up h 24 2 v2) 24 3 (-1) 25 = h 25 := by rw [up_n _ _ _ (by decide), up_n _ _ _ (by decide)]
      have z6 : up (up h 24 2 v2) 24 3 (-1) 26 = h 26 := by rw [up_n _ _ _ (by decide), up_n _ _ _ (by decide)]
      rw [z2, z5, z6]
      intro w w0 w1
      rw [up_o _ _ _ (by omega), up_o _ _ _ (by omega)]
      exact R w w0 (by omega) (Or.inl w1)
  | k + 1, v2, v3, h, a0, a1, hk, h2, P, Q => by
    obtain ⟨x1, x2, x3⟩ := Q v3 (by omega) (by omega)
    have i2 : inb 12 v2 = true := inb_t (by omega) (by omega) (by omega)
    have i3 : inb 12 v3 = true := inb_t (by omega) (by omega) (by omega)
    have ce := e124_4 (d := 24) (by decide) p v2 v3 h
    rw [h2, wr_id (x := S) (by omega) (by omega), wr_id (x := v3) (by omega) (by omega), cd_f (by omega), i3, i2, wr_id (x := v2) (by omega) (by omega), wr_id (x := p) (by omega) (by omega)] at ce
    simp only [cond_t] at ce
    rw [up_n h v2 _ (by decide : 24 + 2 ≠ 24 + 1), up_n h v2 _ (by decide : 24 + 2 ≠ 24 + 1), show 24 + 1 = 25 from rfl, show 24 + 2 = 26 from rfl, wr_id (x := h 25 v3) (by omega) (by omega), wr_id (x := h 26 v3) (by omega) (by omega)] at ce
    have me : ∀ (g : Hp) (w4 w5 : AV), g 81 42 = S → h 25 v3 = g 81 (43 + 2 * v3) ∧ h 26 v3 = g 81 (44 + 2 * v3) → _ := fun g w4 w5 g42 gx => by
      have me := e54_70 p v2 v3 w4 w5 g
      rw [g42, wr_id (x := S) (by omega) (by omega), wr_id (x := v3) (by omega) (by omega), cd_f (by omega), inb_t (i := 43 + 2 * v3) (by omega) (by omega) (by omega), inb_t (i := 43 + 2 * v3 + 1) (by omega) (by omega) (by omega), inb_t (i := 43 + 2 * v2) (by omega) (by omega) (by omega), inb_t (i := 43 + 2 * v2 + 1) (by omega) (by omega) (by omega), wr_id (x := 43 + 2 * v3) (by omega) (by omega), wr_id (x := 43 + 2 * v3 + 1) (by omega) (by omega), wr_id (x := 43 + 2 * v2) (by omega) (by omega), wr_id (x := 43 + 2 * v2 + 1) (by omega) (by omega), wr_id (x := p) (by omega) (by omega), show 43 + 2 * v3 + 1 = 44 + 2 * v3 by omega, show 43 + 2 * v2 + 1 = 44 + 2 * v2 by omega, ← gx.1, ← gx.2, wr_id (x := h 25 v3) (by omega) (by omega), wr_id (x := h 26 v3) (by omega) (by omega)] at me
      simp only [cond_t] at me
      exact me
    by_cases c1 : h 25 v3 = p
    · rw [cd_t c1] at ce
      obtain ⟨h', b1, b2, b3, b4, b5, b6⟩ := forget_both p0 p1 hN hS k v2 (v3 + 1) h a0 (by omega) (by omega) h2 P (fun w w0 w1 => Q w (by omega) w1)
      refine ⟨h', ce.trans b1, b2, b3, b4, b5, fun g w4 w5 g42 R => ?_⟩
      have m := me g w4 w5 g42 (R v3 (by omega) (by omega) (Or.inr (by omega)))
      rw [cd_t c1] at m
      obtain ⟨g', d1, d2⟩ := b6 g _ _ g42 (fun w w0 w1 hw => R w w0 w1 (by omega))
      exact ⟨g', m.trans d1, d2⟩
    rw [cd_f c1] at ce
    by_cases c2 : h 26 v3 = p
    · rw [cd_t c2] at ce
      obtain ⟨h', b1, b2, b3, b4, b5, b6⟩ := forget_both p0 p1 hN hS k v2 (v3 + 1) h a0 (by omega) (by omega) h2 P (fun w w0 w1 => Q w (by omega) w1)
      refine ⟨h', ce.trans b1, b2, b3, b4, b5, fun g w4 w5 g42 R => ?_⟩
      have m := me g w4 w5 g42 (R v3 (by omega) (by omega) (Or.inr (by omega)))
      rw [cd_f c1, cd_t c2] at m
      obtain ⟨g', d1, d2⟩ := b6 g _ _ g42 (fun w w0 w1 hw => R w w0 w1 (by omega))
      exact ⟨g', m.trans d1, d2⟩
    rw [cd_f c2] at ce
    have ok := dn_ok p0 p1 (Q v3 (by omega) (by omega)) c1 c2
    have ce : X (124, 4, [aR 24, aI p, aI v2, aI v3], [], h) = X (124, 4, [aR 24, aI p, aI (v2 + 1), aI (v3 + 1)], [], up (up h 25 v2 (dn p (h 25 v3))) 26 v2 (dn p (h 26 v3))) := by
      rw [ce]
      unfold dn
      by_cases e1 : h 25 v3 ≤ p
      · rw [cd_t e1, if_pos e1]
        by_cases e2 : h 26 v3 ≤ p
        · rw [cd_t e2, if_pos e2]
        · rw [cd_f e2, if_neg e2]
      · rw [cd_f e1, if_neg e1]
        by_cases e2 : h 26 v3 ≤ p
        · rw [cd_t e2, if_pos e2]
        · rw [cd_f e2, if_neg e2]
    have s25 : ∀ w, up (up h 25 v2 (dn p (h 25 v3))) 26 v2 (dn p (h 26 v3)) 25 w = if w = v2 then dn p (h 25 v3) else h 25 w := fun w => by
      rw [up_n _ _ _ (by decide)]; unfold up; simp
    have s26 : ∀ w, up (up h 25 v2 (dn p (h 25 v3))) 26 v2 (dn p (h 26 v3)) 26 w = if w = v2 then dn p (h 26 v3) else h 26 w := fun w => by
      by_cases e : w = v2
      · rw [e, up_s, if_pos rfl]
      · rw [up_o _ _ _ e, up_n _ _ _ (by decide), if_neg e]
    have so : ∀ q, q ≠ 25 → q ≠ 26 → up (up h 25 v2 (dn p (h 25 v3))) 26 v2 (dn p (h 26 v3)) q = h q := fun q q1 q2 => by rw [up_n _ _ _ q2, up_n _ _ _ q1]
    generalize up (up h 25 v2 (dn p (h 25 v3))) 26 v2 (dn p (h 26 v3)) = hh at ce s25 s26 so
    obtain ⟨h', b1, b2, b3, b4, b5, b6⟩ := forget_both p0 p1 hN hS k (v2 + 1) (v3 + 1) hh (by omega) (by omega) (by omega) (by rw [so 24 (by decide) (by decide)]; exact h2) (fun w w0 w1 => by
      rw [s25, s26]
      by_cases e : w = v2
      · rw [if_pos e, if_pos e]; exact ok
      · rw [if_neg e, if_neg e]; exact P w w0 (by omega)) (fun w w0 w1 => by
      rw [s25, s26, if_neg (by omega), if_neg (by omega)]; exact Q w (by omega) w1)
    refine ⟨h', ce.trans b1, fun q hq => by rw [b2 q hq, so q (by omega) (by omega)], b3, b4, b5, fun g w4 w5 g42 R => ?_⟩
    have m := me g w4 w5 g42 (R v3 (by omega) (by omega) (Or.inr (by omega)))
    rw [cd_f c1, cd_f c2] at m
    have m : ∃ w4' w5' : AV, X (54, 70, [aR 80, aI p, aI v2, aI v3, w4, w5], [], g) = X (54, 70, [aR 80, aI p, aI (v2 + 1), aI (v3 + 1), w4', w5'], [], up (up g 81 (43 + 2 * v2) (dn p (h 25 v3))) 81 (44 + 2 * v2) (dn p (h 26 v3))) := by
      refine ⟨aI (h 25 v3), aI (h 26 v3), m.trans ?_⟩
      unfold dn
      by_cases e1 : h 25 v3 ≤ p
      · rw [cd_t e1, if_pos e1]
        by_cases e2 : h 26 v3 ≤ p
        · rw [cd_t e2, if_pos e2]
        · rw [cd_f e2, if_neg e2]
      · rw [cd_f e1, if_neg e1]
        by_cases e2 : h 26 v3 ≤ p
        · rw [cd_t e2, if_pos e2]
        · rw [cd_f e2, if_neg e2]
    obtain ⟨w4', w5', m⟩ := m
    have u : ∀ j, j ≠ 43 + 2 * v2 → j ≠ 44 + 2 * v2 → up (up g 81 (43 + 2 * v2) (dn p (h 25 v3))) 81 (44 + 2 * v2) (dn p (h 26 v3)) 81 j = g 81 j := fun j j1 j2 => by rw [up_o _ _ _ j2, up_o _ _ _ j1]
    obtain ⟨g', d1, d2, d3, d4⟩ := b6 (up (up g 81 (43 + 2 * v2) (dn p (h 25 v3))) 81 (44 + 2 * v2) (dn p (h 26 v3))) w4' w5' (by rw [u 42 (by omega) (by omega)]; exact g42) (fun w w0 w1 hw => by
      rw [s25, s26]
      by_cases e : w = v2
      · subst e
        rw [if_pos rfl, if_pos rfl, up_s, up_o _ _ _ (by omega), up_s]
        exact ⟨rfl, rfl⟩
      · rw [if_neg e, if_neg e, u _ (by omega) (by omega), u _ (by omega) (by omega)]
        exact R w w0 w1 (by omega))
    refine ⟨g', m.trans ?_, fun q hq => by rw [d2 q hq, up_n _ _ _ hq, up_n _ _ _ hq], fun j hj => by rw [d3 j hj, u j (by omega) (by omega)], d4⟩
    rw [d1, u 24 (by omega) (by omega)]
theorem m_shiftL {p N : Int} (p0 : 0 ≤ p) (p1 : p < N) (hN : N ≤ 12) : ∀ (k : Nat) (v2 : Int) (h : Hp), 67 + 4 * p ≤ v2 → v2 + k = 67 + 4 * N - 4 → h 81 24 = N → ∃ g, X (54, 17, [aR 80, aI p, aI v2, aN, aN, aN], [], h) = X (54, 70, [aR 80, aI p, aI 0, aI 0, aN, aN], [], g) ∧ (∀ q, q ≠ 81 → g q = h q) ∧ (∀ j, g 81 j = if j = 24 then N - 1 else if v2 ≤ j ∧ j < 67 + 4 * N - 4 then h 81 (j + 4) else h 81 j)
  | 0, v2, h, a0, hk, h4 => by
    refine ⟨up h 81 24 (N - 1), ?_, fun q hq => up_n _ _ _ hq, fun j => ?_⟩
    · rw [e54_17, h4, wr_id (x := 67 + 4 * N - 4) (by omega) (by omega), wr_id (x := v2) (by omega) (by omega), cd_t (by omega)]
    · by_cases e : j = 24
      · rw [e, up_s, if_pos rfl]
      · rw [up_o _ _ _ e, if_neg e, if_neg (by omega)]
  | k + 1, v2, h, a0, hk, h4 => by
    obtain ⟨g, g1, g2, g3⟩ := m_shiftL p0 p1 hN k (v2 + 1) (up h 81 v2 (h 81 (v2 + 4))) (by omega) (by omega) (by rw [up_o _ _ _ (by omega)]; exact h4)
    refine ⟨g, ?_, fun q hq => by rw [g2 q hq, up_n _ _ _ hq], fun j => ?_⟩
    · rw [e54_17, h4, wr_id (x := 67 + 4 * N - 4) (by omega) (by omega), wr_id (x := v2) (by omega) (by omega), cd_f (by omega), inb_t (i := v2 + 4) (by omega) (by omega) (by omega), inb_t (i := v2) (by omega) (by omega) (by omega), cond_t, cond_t, wr_id (x := v2 + 4) (by omega) (by omega), g1]
    · rw [g3 j]
      by_cases e : j = 24
      · rw [if_pos e, if_pos e]
      · rw [if_neg e, if_neg e]
        by_cases c : j = v2
        · rw [if_neg (by omega), if_pos (by omega), c, up_s]
        · by_cases c2 : v2 + 1 ≤ j ∧ j < 67 + 4 * N - 4
          · rw [if_pos c2, if_pos (by omega), up_o _ _ _ (by omega)]
          · rw [if_neg c2, if_neg (by omega), up_o _ _ _ c]
theorem case_5 (L : Nat) (xs : Nat → Int32) : Cs_5 L xs := by
  intro h hI a1 r1
  have hS := hI.1
  have e1 : wr a1 = a1 := wr_id r1.1 r1.2
  have hR := hI.2.1
  have hZ := hI.2.2.1
  have hb := hZ.2.2.2.1.1
  have hn : h 19 4 = h 81 24 := hR.2.2.2.1.1
  have qs := e5_0 a1 h
  rw [hn, s_below a1 _ (by omega), bI_some, d_bi1, e1] at qs
  by_cases p1 : 0 ≤ a1 ∧ a1 < h 81 24
  · obtain ⟨g1, c1, c2, c3, c4, c5⟩ := s_remove (d := 19) (by decide) (h := h) hn p1.1 p1.2 hb.2
    have hw := hR.2.2.2.2.2
    have hzw := hZ.2.2.2.2.2
    have f24 : ∀ q, (q < 19 ∨ 23 < q) → g1 q = h q := fun q hq => c2 q (by omega)
    have w2 : g1 24 2 = h 81 42 := by rw [f24 24 (by omega)]; exact hw.1
    have rw1 : ∀ w, 0 ≤ w → w < h 81 42 → h 25 w = h 81 (43 + 2 * w) ∧ h 26 w = h 81 (44 + 2 * w) := hw.2
    obtain ⟨h', b1, b2, b3, b4, b5, b6⟩ := forget_both (p := a1) (N := h 81 24) (S := h 81 42) p1.1 p1.2 hb.2 hzw.1.2 (h 81 42).toNat 0 0 g1 (by omega) (by omega) (by have := hzw.1; omega) w2 (fun w w0 w1 => by omega) (fun w w0 w1 => by
      rw [f24 25 (by omega), f24 26 (by omega), (rw1 w w0 w1).1, (rw1 w w0 w1).2]
      obtain ⟨y1, y2, y3⟩ := hzw.2 w w0 w1
      exact ⟨y1, y2, y3⟩)
    have b1 : X (124, 0, [aR 24, aI a1, aN, aN], [], g1) = some (none, h') := (e124_0 (by decide) a1 g1).trans b1
    rw [decide_eq_true p1, cond_t, c1, bV_some, b1, bV_some] at qs
    generalize hG : up h' 1 15 1 = G at qs
    have Go : ∀ q, q ≠ 1 → G q = h' q := fun q hq => by rw [← hG, up_n _ _ _ hq]
    have G81 : G 81 = h 81 := by rw [Go 81 (by decide), b2 81 (by omega), f24 81 (by omega)]
    have G19 : G 19 4 = h 81 24 - 1 := by rw [Go 19 (by decide), b2 19 (by omega), c4]
    rw [G19] at qs
    obtain ⟨gs, k1, k2, k3⟩ := m_shiftL (p := a1) (N := h 81 24) p1.1 p1.2 hb.2 (4 * (h 81 24 - 1 - a1)).toNat (67 + 4 * a1) G (by omega) (by omega) (by rw [G81])
    have s42 : ∀ j, (25 ≤ j ∧ j < 67) → gs 81 j = h 81 j := fun j hj => by rw [k3 j, if_neg (by omega), if_neg (by omega), G81]
    obtain ⟨gf, d1, d2, d3, d4, d5⟩ := b6 gs aN aN (s42 42 (by omega)) (fun w w0 w1 _ => by
      have := hzw.1
      rw [f24 25 (by omega), f24 26 (by omega), s42 _ (by omega), s42 _ (by omega)]; exact rw1 w w0 w1)
    have s24 : gs 81 24 = h 81 24 - 1 := by rw [k3 24, if_pos rfl]
    have qm := e54_0 a1 G
    rw [m_isPerson a1 (by rw [G81]; exact hb), bI_some, d_bi1, e1, G81, decide_eq_true p1, cond_t, k1, d1, s24] at qm
    have row : ∀ j, (j < 42 ∨ 67 ≤ j) → gf 81 j = if j = 24 then h 81 24 - 1 else if 67 + 4 * a1 ≤ j ∧ j < 67 + 4 * h 81 24 - 4 then h 81 (j + 4) else h 81 j := fun j hj => by rw [d3 j hj, k3 j, G81]
    have fq : ∀ q, q ≠ 81 → gf q = G q := fun q hq => by rw [d2 q hq, k2 q hq]
    have f1 : ∀ q, ¬ (q = 1 ∨ (19 ≤ q ∧ q ≤ 26) ∨ q = 81) → gf q = h q := fun q hq => by rw [fq q (by omega), Go q (by omega), b2 q (by omega), f24 q (by omega)]
    have g24 : gf 81 24 = h 81 24 - 1 := by rw [row 24 (by omega), if_pos rfl]
    have pr : ∀ i, 0 ≤ i → i < h 81 24 - 1 → ∀ e : Int, 0 ≤ e → e ≤ 3 → gf 81 (67 + e + 4 * i) = if i < a1 then h 81 (67 + e + 4 * i) else h 81 (67 + e + 4 * (i + 1)) := fun i i0 i1 e e0 e3 => by
      rw [row _ (by omega), if_neg (by omega)]
      by_cases c : i < a1
      · rw [if_neg (by omega), if_pos c]
      · rw [if_pos (by omega), if_neg c, show 67 + e + 4 * i + 4 = 67 + e + 4 * (i + 1) by omega]
    have pr0 := fun i i0 i1 => pr i i0 i1 0 (by omega) (by omega)
    have pr1 := fun i i0 i1 => pr i i0 i1 1 (by omega) (by omega)
    have pr2 := fun i i0 i1 => pr i i0 i1 2 (by omega) (by omega)
    have pr3 := fun i i0 i1 => pr i i0 i1 3 (by omega) (by omega)
    refine ⟨h 81 24 - 1, G, gf, qs, fun p hp => ?_, qm, inv_folk hI (fun p hp => f1 p (by omega)) ⟨by rw [f1 80 (by decide)], by rw [f1 80 (by decide)]⟩ (by rw [fq 1 (by decide), ← hG, up_s]) (fun j hj => by rw [row j (by omega), if_neg (by omega), if_neg (by omega)]) ⟨⟨?_, fun i i0 i1 => ?_⟩, ⟨by omega, fun i i0 i1 => ?_⟩⟩ ⟨⟨?_, fun w w0 w1 => ?_⟩, ⟨by rw [d4]; have := hzw.1; omega, fun w w0 w1 => ?_⟩⟩ (Or.inl ?_)⟩
    · rw [Go p (by omega), b2 p (by omega), f24 p (by omega)]; exact hS p hp
    · show gf 19 4 = gf 81 24
      rw [fq 19 (by decide), G19, g24]
    · rw [g24] at i1
      have q := hR.2.2.2.1.2
      have fk : ∀ k : Nat, 1 ≤ k → k ≤ 4 → gf (19 + k) i = if i < a1 then h (19 + k) i else h (19 + k) (i + 1) := fun k k1 k4 => by
        rw [fq _ (by omega), Go _ (by omega), b2 _ (by omega), c5 k k1 k4 i i0 i1]
      have fk1 : gf (11 + 9) i = _ := fk 1 (by omega) (by omega)
      have fk2 : gf (11 + 10) i = _ := fk 2 (by omega) (by omega)
      have fk3 : gf (11 + 11) i = _ := fk 3 (by omega) (by omega)
      have fk4 : gf (11 + 12) i = _ := fk 4 (by omega) (by omega)
      rw [fk1, fk2, fk3, fk4, show 67 + 4 * i = 67 + 0 + 4 * i by omega, show 68 + 4 * i = 67 + 1 + 4 * i by omega, show 69 + 4 * i = 67 + 2 + 4 * i by omega, show 70 + 4 * i = 67 + 3 + 4 * i by omega, pr0 i i0 i1, pr1 i i0 i1, pr2 i i0 i1, pr3 i i0 i1]
      by_cases c : i < a1
      · rw [if_pos c, if_pos c, if_pos c, if_pos c, if_pos c, if_pos c, if_pos c, if_pos c]
        exact q i i0 (by omega)
      · rw [if_neg c, if_neg c, if_neg c, if_neg c, if_neg c, if_neg c, if_neg c, if_neg c]
        exact q (i + 1) (by omega) (by omega)
    · rw [g24] at i1
      rw [show 67 + 4 * i = 67 + 0 + 4 * i by omega, show 68 + 4 * i = 67 + 1 + 4 * i by omega, show 69 + 4 * i = 67 + 2 + 4 * i by omega, show 70 + 4 * i = 67 + 3 + 4 * i by omega, pr0 i i0 i1, pr1 i i0 i1, pr2 i i0 i1, pr3 i i0 i1]
      have q := hZ.2.2.2.1.2
      by_cases c : i < a1
      · rw [if_pos c, if_pos c, if_pos c, if_pos c]
        exact q i i0 (by omega)
      · rw [if_neg c, if_neg c, if_neg c, if_neg c]
        exact q (i + 1) (by omega) (by omega)
    · show gf 24 2 = gf 81 42
      rw [fq 24 (by decide), Go 24 (by decide), d4]
    · rw [d4] at w1
      show gf 25 w = _ ∧ gf 26 w = _
      rw [fq 25 (by decide), fq 26 (by decide), Go 25 (by decide), Go 26 (by decide)]
      exact d5 w w0 w1
    · rw [d4] at w1
      have o := b5 w w0 w1
      have d5 := d5 w w0 w1
      rw [← d5.1, ← d5.2, g24]
      exact ⟨o.1, o.2.1, o.2.2⟩
    · rw [fq 24 (by decide), Go 24 (by decide), b3]
  · rw [decide_eq_false p1, cond_f] at qs
    have qm := e54_0 a1 h
    rw [m_isPerson a1 hb, bI_some, d_bi1, e1, decide_eq_false p1, cond_f] at qm
    exact ⟨-1, h, h, qs, hS, qm, hI⟩
