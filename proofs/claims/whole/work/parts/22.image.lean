/-! image, restore -/
def cz (h : Hp) (p q : Nat) (v : Int) : Hp := fun r i => if r = q ∧ v ≤ i ∧ i < 115 then h p i else h r i
theorem cz_0 (h : Hp) (p q : Nat) {v : Int} (hv : 115 ≤ v) : cz h p q v = h := by
  funext r i; unfold cz; rw [if_neg (by omega)]
theorem cz_s (h : Hp) {p q : Nat} (hpq : p ≠ q) {v : Int} (hv : v < 115) : cz (up h q v (h p v)) p q (v + 1) = cz h p q v := by
  funext r i
  unfold cz
  rw [up_n _ _ _ hpq]
  unfold up
  by_cases c1 : r = q ∧ v ≤ i ∧ i < 115
  · rw [if_pos c1]
    by_cases c2 : i = v
    · rw [if_neg (by omega), if_pos ⟨c1.1, c2⟩, c2]
    · rw [if_pos ⟨c1.1, by omega, c1.2.2⟩]
  · rw [if_neg c1, if_neg (by omega), if_neg (by omega)]
theorem cz_o (h : Hp) {p q r : Nat} (v : Int) (hr : r ≠ q) : cz h p q v r = h r := by
  funext i; unfold cz; rw [if_neg (fun z => hr z.1)]
theorem cz_i (h : Hp) (p q : Nat) {i : Int} (h0 : 0 ≤ i) (h1 : i < 115) : cz h p q 0 q i = h p i := by
  unfold cz; rw [if_pos ⟨rfl, h0, h1⟩]
theorem m_imageL : ∀ (n : Nat) (v : Int) (h : Hp), 0 ≤ v → v + n = 115 → X (111, 2, [aR 80, aI v], [], h) = some (some 1, up (cz h 81 94 v) 80 22 1)
  | 0, v, h, h0, hn => by
    rw [e111_2, wr_id (by omega) (by omega), cd_t (by omega), cz_0 _ _ _ (by omega)]
  | n + 1, v, h, h0, hn => by
    rw [e111_2, wr_id (x := v) (by omega) (by omega), cd_f (by omega), inb_t (by omega) (by omega) (by omega), cond_t, cond_t, m_imageL n (v + 1) _ (by omega) (by omega), cz_s _ (by decide) (by omega)]
theorem m_restoreL : ∀ (n : Nat) (v : Int) (h : Hp), 0 ≤ v → v + n = 115 → X (112, 12, [aR 80, aI v], [], h) = some (some 1, cz h 94 81 v)
  | 0, v, h, h0, hn => by
    rw [e112_12, wr_id (by omega) (by omega), cd_t (by omega), cz_0 _ _ _ (by omega)]
  | n + 1, v, h, h0, hn => by
    rw [e112_12, wr_id (x := v) (by omega) (by omega), cd_f (by omega), inb_t (by omega) (by omega) (by omega), cond_t, cond_t, m_restoreL n (v + 1) _ (by omega) (by omega), cz_s _ (by decide) (by omega)]
theorem Dr_copy {c q : Nat} {h g : Hp} (e2 : g c 2 = h q 2) (e3 : g c 3 = h q 3) (e : ∀ w, 0 ≤ w → w < 12 → g (c + 1) w = h (q + 1) w ∧ g (c + 2) w = h (q + 2) w) (hb : h q 2 ≤ 12) (H : Dr q h) : Dr c g := by
  unfold Dr at H ⊢
  rw [e2, e3]
  refine H.imp id (fun H => H.imp id ?_)
  rintro ⟨g1, d, h1, h2, h3, h4⟩
  refine ⟨g1, d, h1, h2, fun w w0 w1 => ?_, h4⟩
  rw [(e w w0 (by omega)).1, (e w w0 (by omega)).2]
  exact h3 w w0 w1
theorem case_28 (L : Nat) (xs : Nat → Int32) : Cs_28 L xs := by
  intro h hI
  have hS := hI.1
  have hR := hI.2.1
  have hZ := hI.2.2.1
  have hn : h (11 + 8) 4 = h 81 24 := hR.2.2.2.1.1
  have hb := hZ.2.2.2.1.1
  obtain ⟨g, g1, g2⟩ := s_copyRoom (r := 53) (q := 11) (h := h) (by decide) (by decide) (by decide) (by omega) (by omega)
  have g3 := g2.1
  have k : ∀ p, p ≠ 0 → (p < 55 ∨ 68 < p) → up g 0 5 1 p = h p := fun p n1 n2 => by rw [up_n _ _ _ n1, g3 p (by omega)]
  generalize hg : up g 0 5 1 = g4
  rw [hg] at k
  have q1 : X (28, 0, [aR 0], [], h) = some (some 1, g4) := by rw [e28_0, g1, bV_some, hg]
  have q2 : X (111, 0, [aR 80, aN], [], g4) = some (some 1, up (cz g4 81 94 0) 80 22 1) := by rw [e111_0]; exact m_imageL 115 0 g4 (by omega) (by omega)
  have g05 : g4 0 5 = 1 := by rw [← hg, up_s]
  have hgg : ∀ p, p ≠ 0 → g4 p = g p := fun p hp => by rw [← hg, up_n _ _ _ hp]
  refine ⟨1, g4, up (cz g4 81 94 0) 80 22 1, q1, fun p hp => by rw [k p (by omega) (by omega)]; exact hS p hp, q2, ?_⟩
  have m : ∀ p, p ≠ 80 → p ≠ 94 → up (cz g4 81 94 0) 80 22 1 p = g4 p := fun p n1 n2 => by rw [up_n _ _ _ n1, cz_o _ _ n2]
  have m80 : ∀ j, j ≠ 22 → up (cz g4 81 94 0) 80 22 1 80 j = h 80 j := fun j hj => by rw [up_o _ _ _ hj, cz_o _ _ (by decide), k 80 (by decide) (by omega)]
  have m94 : ∀ j, 0 ≤ j → j < 115 → up (cz g4 81 94 0) 80 22 1 94 j = h 81 j := fun j j0 j1 => by
    rw [up_n _ _ _ (by decide), cz_i _ _ _ j0 j1, k 81 (by decide) (by omega)]
  have m22 : up (cz g4 81 94 0) 80 22 1 80 22 = 1 := up_s _ _ _ _
  generalize up (cz g4 81 94 0) 80 22 1 = f at m m80 m94 m22
  have n : ∀ p, p ≠ 0 → p ≠ 80 → p ≠ 94 → (p < 55 ∨ 68 < p) → f p = h p := fun p n1 n2 n3 n4 => by rw [m p n2 n3, k p n1 n4]
  obtain ⟨i1, i2, i3, i4, i5, i6, i7, i8⟩ := hI
  have mg : ∀ p, 53 + 2 ≤ p → p ≤ 53 + 15 → f p = g p := fun p p1 p2 => by rw [m p (by omega) (by omega), hgg p (by omega)]
  have hC : Cq 53 11 h f := Cq_c mg g2.2
  have hRk : RR 53 94 f := RR_copy hC m94 hZ hR
  have hZk : Zz 94 f := Zz_copy m94 hZ
  have hDk : Dr 66 f := Dr_copy (c := 66) (q := 24) (h := h) hC.2.2.2.2.2.1 hC.2.2.2.2.2.2.1 (fun w w0 w1 => hC.2.2.2.2.2.2.2 w w0 w1) (by rw [show h 24 2 = h 81 42 from hR.2.2.2.2.2.1]; exact hZ.2.2.2.2.2.1.2) i8
  refine ⟨fun p hp => by rw [n p (by omega) (by omega) (by omega) (by omega)]; exact i1 p hp, RR_congr (fun p hp => n p (by omega) (by omega) (by omega) (by omega)) (by rw [n _ (by decide) (by decide) (by decide) (by omega)]) (by rw [n _ (by decide) (by decide) (by decide) (by omega)]) (by rw [n _ (by decide) (by decide) (by decide) (by omega)]) (n _ (by decide) (by decide) (by decide) (by omega)) i2, Zz_congr (n _ (by decide) (by decide) (by decide) (by omega)) i3, ⟨?_, Or.inr ⟨m22, hRk, hZk, hDk⟩⟩, Tp_congr (by rw [n _ (by decide) (by decide) (by decide) (by omega)]) (m80 2 (by decide)) (n _ (by decide) (by decide) (by decide) (by omega)) (n _ (by decide) (by decide) (by decide) (by omega)) i5, Sh_congr (fun p hp => n p (by omega) (by omega) (by omega) (by omega)) i6, ?_, Dr_congr (by rw [n _ (by decide) (by decide) (by decide) (by omega)]) (by rw [n _ (by decide) (by decide) (by decide) (by omega)]) (n _ (by decide) (by decide) (by decide) (by omega)) (n _ (by decide) (by decide) (by decide) (by omega)) i8⟩
  · rw [m 0 (by decide) (by decide), m22, g05]
  · rw [n 1 (by decide) (by decide) (by decide) (by omega)]
    exact i7.imp (fun ⟨y1, y2⟩ => ⟨y1, Fd_congr (fun p hp => n p (by omega) (by omega) (by omega) (by omega)) (by rw [n 1 (by decide) (by decide) (by decide) (by omega)]) y2⟩) id
theorem case_29 (L : Nat) (xs : Nat → Int32) : Cs_29 L xs := by
  intro h hI
  have hS := hI.1
  obtain ⟨k1, k2⟩ := hI.2.2.2.1
  rcases k2 with k2 | ⟨k2, hR, hZ, hD⟩
  · refine ⟨-4, h, h, ?_, hS, ?_, hI⟩
    · show X (29, 0, [aR 0], [], h) = _
      rw [e29_0, k1, k2, wr_0, cd_f (by omega)]
    · show X (112, 0, [aR 80, aN], [], h) = _
      rw [e112_0, k2, wr_0, cd_f (by omega)]
  · have hn : h (53 + 8) 4 = h 94 24 := hR.2.2.2.1.1
    have hb := hZ.2.2.2.1.1
    obtain ⟨g, g1, g2⟩ := s_copyRoom (r := 11) (q := 53) (h := h) (by decide) (by decide) (by decide) (by omega) (by omega)
    have g3 := g2.1
    have k : ∀ p, p ≠ 1 → (p < 13 ∨ 26 < p) → up g 1 15 1 p = h p := fun p n1 n2 => by rw [up_n _ _ _ n1, g3 p (by omega)]
    generalize hg : up g 1 15 1 = g4
    rw [hg] at k
    have q1 : X (29, 0, [aR 0], [], h) = some (some 1, g4) := by rw [e29_0, k1, k2, wr_1, cd_t (by decide), g1, bV_some, hg]
    have q2 : X (112, 0, [aR 80, aN], [], g4) = some (some 1, cz g4 94 81 0) := by
      rw [e112_0, k 80 (by decide) (by omega), k2, wr_1, cd_t (by decide)]; exact m_restoreL 115 0 g4 (by omega) (by omega)
    have g15 : g4 1 15 = 1 := by rw [← hg, up_s]
    have hgg : ∀ p, p ≠ 1 → g4 p = g p := fun p hp => by rw [← hg, up_n _ _ _ hp]
    refine ⟨1, g4, cz g4 94 81 0, q1, fun p hp => by rw [k p (by omega) (by omega)]; exact hS p hp, q2, ?_⟩
    have m : ∀ p, p ≠ 81 → cz g4 94 81 0 p = g4 p := fun p n1 => by rw [cz_o _ _ n1]
    have m81 : ∀ j, 0 ≤ j → j < 115 → cz g4 94 81 0 81 j = h 94 j := fun j j0 j1 => by
      rw [cz_i _ _ _ j0 j1, k 94 (by decide) (by omega)]
    generalize cz g4 94 81 0 = f at m m81
    have n : ∀ p, p ≠ 1 → p ≠ 81 → (p < 13 ∨ 26 < p) → f p = h p := fun p n1 n2 n4 => by rw [m p n2, k p n1 n4]
    have mg : ∀ p, 11 + 2 ≤ p → p ≤ 11 + 15 → f p = g p := fun p p1 p2 => by rw [m p (by omega), hgg p (by omega)]
    have hC : Cq 11 53 h f := Cq_c mg g2.2
    refine inv_room hI (fun p hp => n p (by omega) (by omega) (by omega)) ⟨by rw [n 80 (by decide) (by decide) (by omega)], by rw [n 80 (by decide) (by decide) (by omega)]⟩ (by rw [m 1 (by decide), g15]) (RR_copy hC m81 hZ hR) (Zz_copy m81 hZ) (Dr_copy (c := 24) (q := 66) (h := h) hC.2.2.2.2.2.1 hC.2.2.2.2.2.2.1 (fun w w0 w1 => hC.2.2.2.2.2.2.2 w w0 w1) (by rw [show h 66 2 = h 94 42 from hR.2.2.2.2.2.1]; exact hZ.2.2.2.2.2.1.2) hD)
