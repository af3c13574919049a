def RD (Q : Int → Int → Int) (v : Int) (g : Hp) : Prop := ∀ j, 0 ≤ j → j < v → g 83 (4 * j) = Q j 1 ∧ g 83 (4 * j + 1) = Q j 2 ∧ g 83 (4 * j + 2) = Q j 3 ∧ g 83 (4 * j + 3) = Q j 4
theorem Qn_o {Q : Int → Int → Int} {v m k s n j : Int} (hj : j ≠ v) (i : Int) : Qn Q v m k s n j i = Q j i := if_neg hj
theorem Qn_s (Q : Int → Int → Int) (v m k s n : Int) : Qn Q v m k s n v 1 = m ∧ Qn Q v m k s n v 2 = k ∧ Qn Q v m k s n v 3 = s ∧ Qn Q v m k s n v 4 = n := by
  unfold Qn
  rw [if_pos rfl, if_pos rfl, if_pos rfl, if_pos rfl]
  exact ⟨rfl, rfl, rfl, rfl⟩
theorem people_both {L : Nat} {xs : Nat → Int32} {f : Int → Int} {l : Int} (hT : FT l f) : ∀ (k : Nat) (v s : Int) (Q : Int → Int → Int) (w3 : AV) (h : Hp), v + k = 8 → 0 ≤ v → 0 ≤ s → s ≤ l → Sm L xs h → CT h l f s → GB Q v h → (∀ j, 0 ≤ j → j < v → lgr Q j = true) →
    ∃ h' r, X (180, 7, [aR 70, aR 45, aI (v + 1), w3], [], h) = some (some r, h') ∧ (∀ q, ¬ (q = 70 ∨ (45 ≤ q ∧ q ≤ 49)) → h' q = h q) ∧ (∀ j, j ≠ 2 → h' 70 j = h 70 j) ∧
      ((r ≤ -20 ∧ -200 ≤ r ∧ ∀ g w, MT g l f s → ∃ g', X (66, 7, [aR 80, aI v, w], [], g) = some (some 0, g') ∧ FrR g g' ∧ r = -20 - g' 80 3) ∨
       (∃ Q' : Int → Int → Int, (1 ≤ r ∧ r ≤ 8) ∧ GB Q' r h' ∧ (∀ j, 0 ≤ j → j < r → lgr Q' j = true) ∧ ∀ g w, MT g l f s → RD Q v g → ∃ g', X (66, 7, [aR 80, aI v, w], [], g) = some (some 1, g') ∧ FrR g g' ∧ g' 80 4 = r ∧ RD Q' r g'))
  | 0, v, s, Q, w3, h, hk, v0, s0, s1, hS, C, B, Lg => by
    have hl := hT.1
    have e : v = 8 := by omega
    subst e
    refine ⟨h, -20 - s, ?_, fun _ _ => rfl, fun _ _ => rfl, Or.inl ⟨by omega, by omega, fun g w M => ⟨g, ?_, ⟨fun _ _ _ => rfl, fun _ _ _ => rfl⟩, by rw [M.2.1]⟩⟩⟩
    · rw [e180_7 (by decide), cd_t (by decide), C.2.1, e184_0, bI_some]
    · rw [e66_7, cd_t (by decide)]
  | k + 1, v, s, Q, w3, h, hk, v0, s0, s1, hS, C, B, Lg => by
    have hl := hT.1
    obtain ⟨h1, r1, a1, a2, a3, a4⟩ := person_both (Q := Q) hT hS v0 (by omega) s0 s1 C B
    have ec := e180_7 (q1 := 45) (by decide) (v + 1) w3 h
    rcases a4 with ⟨b1, b2, b3⟩ | ⟨b1, e, m, kk, so, n, b2, b3, b4, b5, b6⟩
    · rw [wr_id (x := v + 1) (by omega) (by omega), cd_f (by omega), a1, bI_some, wr_id (x := r1) (by omega) (by omega), cd_f (by omega)] at ec
      refine ⟨h1, r1, ec, a2, a3, Or.inl ⟨b1, b2, fun g w M => ?_⟩⟩
      obtain ⟨g', c1, c2, c3⟩ := b3 g M
      refine ⟨g', ?_, c2, c3⟩
      rw [e66_7, wr_id (x := v) (by omega) (by omega), cd_f (by omega), c1, bI_some, cd_f (by decide)]
    · subst b1
      rw [wr_id (x := v + 1) (by omega) (by omega), cd_f (by omega), a1, bI_some, wr_0, cd_t (by decide)] at ec
      obtain ⟨h4, x1, x2, x3, x4⟩ := s_peek hT b3 (by omega) (by omega)
      have r3 := nx_r (f := f) (s := e) (l := l) (by omega)
      have bb3 := bta_r hT (p := nx f l e) (by omega)
      have lt3 := bta_lt (f := f) (l := l) (p := nx f l e)
      have id3 := nx_id (f := f) (l := l) (s := e) (by omega) (by omega) hl.2
      have mp3 := fun (g : Hp) (M : MT g l f e) => m_peek hT M (by omega) (by omega)
      obtain ⟨h5, z1, z2, z3, z4⟩ := s_peek hT x2 (by omega) (by omega)
      rw [id3] at z1 z2
      generalize nx f l e = q3 at x1 x2 r3 bb3 lt3 mp3 z1 z2
      generalize bta f l q3 = c3 at x1 bb3 lt3 mp3 z1
      rw [x1, bI_some, z1, bI_some, wr_id (x := c3) (by omega) (by omega), z2.2.1] at ec
      have fr4 : ∀ q, ¬ (q = 70 ∨ (45 ≤ q ∧ q ≤ 49)) → h4 q = h q := fun q hq => by rw [x3 q (by omega), a2 q hq]
      have fj4 : ∀ j, j ≠ 2 → h4 70 j = h 70 j := fun j hj => by rw [x4 j hj, a3 j hj]
      have fr5 : ∀ q, ¬ (q = 70 ∨ (45 ≤ q ∧ q ≤ 49)) → h5 q = h q := fun q hq => by rw [z3 q (by omega), fr4 q hq]
      have fj5 : ∀ j, j ≠ 2 → h5 70 j = h 70 j := fun j hj => by rw [z4 j hj, fj4 j hj]
      have gbc : ∀ y : Hp, (∀ q, q ≠ 70 → y q = h1 q) → GB (Qn Q v m kk so n) (v + 1) y := fun y hy => by
        unfold GB at b5 ⊢
        rw [hy 45 (by decide)]
        refine ⟨b5.1, fun j j0 j1 i i1 i4 => ?_⟩
        rw [hy _ (by omega)]
        exact b5.2 j j0 j1 i i1 i4
      have Lg2 : ∀ j, 0 ≤ j → j < v + 1 → lgr (Qn Q v m kk so n) j = true := fun j j0 j1 => by
        unfold lgr
        by_cases ej : j = v
        · subst ej
          obtain ⟨y1, y2, y3, y4⟩ := Qn_s Q j m kk so n
          rw [y1, y2, y3, y4]; exact b4
        · rw [Qn_o ej, Qn_o ej, Qn_o ej, Qn_o ej]; exact Lg j j0 (by omega)
      have em3 : ∀ g w, MT g l f s → ∃ g3 : Hp, MT g3 l f q3 ∧ FrR g g3 ∧ g3 80 4 = v + 1 ∧ (RD Q v g → RD (Qn Q v m kk so n) (v + 1) g3) ∧ X (66, 7, [aR 80, aI v, w], [], g) = cond (decide (0 ≤ c3)) (cond (decide (c3 ≠ 59)) (some (some 0, g3)) (cond (decide (v ≠ 7)) (X (66, 7, [aR 80, aI (v + 1), aI c3], [], up g3 80 3 (q3 + 1))) (some (some 0, g3)))) (some (some 1, g3)) := fun g w M => by
        obtain ⟨g2, y1, y2, y3, y4⟩ := b6 g M
        have M2 : MT (up g2 80 4 (v + 1)) l f e := MT_c ⟨up_o _ _ _ (by decide), up_o _ _ _ (by decide)⟩ (up_n _ _ _ (by decide)) y3
        obtain ⟨g3, n1, n2, n3, n4⟩ := mp3 _ M2
        refine ⟨g3, n2, FrR_t y2 (FrR_t (FrR_80 _ _ (Or.inr rfl)) (FrR_p n3 n4)), by rw [n4 4 (by decide), up_s], fun R j j0 j1 => ?_, ?_⟩
        · rw [n3 83 (by decide), up_n _ _ _ (by decide), y4, y4, y4, y4]
          by_cases ej : j = v
          · subst ej
            obtain ⟨w1, w2, w3', w4⟩ := Qn_s Q j m kk so n
            rw [w1, w2, w3', w4, if_pos rfl, if_neg (by omega), if_pos rfl, if_neg (by omega), if_neg (by omega), if_pos rfl, if_neg (by omega), if_neg (by omega), if_neg (by omega), if_pos rfl]
            exact ⟨rfl, rfl, rfl, rfl⟩
          · rw [Qn_o ej, Qn_o ej, Qn_o ej, Qn_o ej]
            have q := R j j0 (by omega)
            rw [if_neg (by omega), if_neg (by omega), if_neg (by omega), if_neg (by omega), if_neg (by omega), if_neg (by omega), if_neg (by omega), if_neg (by omega), if_neg (by omega), if_neg (by omega), if_neg (by omega), if_neg (by omega), if_neg (by omega), if_neg (by omega), if_neg (by omega), if_neg (by omega)]
            exact q
        · rw [e66_7, wr_id (x := v) (by omega) (by omega), cd_f (by omega), y1, bI_some, cd_t (by decide), n1, bI_some, wr_id (x := c3) (by omega) (by omega), n2.2.1]
      by_cases k4 : c3 ≠ -1
      · rw [cd_t k4] at ec
        have q3l : q3 < l := lt3 k4
        by_cases k5 : c3 ≠ 59
        · rw [cd_t k5, e184_0, bI_some] at ec
          refine ⟨h5, -20 - q3, ec, fr5, fj5, Or.inl ⟨by omega, by omega, fun g w M => ?_⟩⟩
          obtain ⟨g3, y1, y2, y3, y4, y5⟩ := em3 g w M
          rw [cd_t (by omega), cd_t k5] at y5
          exact ⟨g3, y5, y2, by rw [y1.2.1]⟩
        · rw [cd_f k5] at ec
          by_cases k6 : v = 7
          · rw [cd_f (by omega), e184_0, bI_some] at ec
            refine ⟨h5, -20 - q3, ec, fr5, fj5, Or.inl ⟨by omega, by omega, fun g w M => ?_⟩⟩
            obtain ⟨g3, y1, y2, y3, y4, y5⟩ := em3 g w M
            rw [cd_t (by omega), cd_f k5, cd_f (by omega)] at y5
            exact ⟨g3, y5, y2, by rw [y1.2.1]⟩
          · rw [cd_t (by omega)] at ec
            have C5 := CT_up z2 (q3 + 1)
            obtain ⟨h', r, f1, f2, f3, f4⟩ := people_both (L := L) (xs := xs) hT k (v + 1) (q3 + 1) (Qn Q v m kk so n) (aI 0) (up h5 70 2 (q3 + 1)) (by omega) (by omega) (by omega) (by omega) (fun q hq => by rw [up_n _ _ _ (by omega), fr5 q (by omega)]; exact hS q hq) C5 (gbc _ (fun q hq => by rw [up_n _ _ _ hq, z3 q hq, x3 q hq])) Lg2
            refine ⟨h', r, ec.trans f1, fun q hq => by rw [f2 q hq, up_n _ _ _ (by omega), fr5 q hq], fun j hj => by rw [f3 j hj, up_o _ _ _ hj, fj5 j hj], ?_⟩
            rcases f4 with ⟨c1, c2, c3'⟩ | ⟨Q', c1, c2, c3', c4⟩
            · refine Or.inl ⟨c1, c2, fun g w M => ?_⟩
              obtain ⟨g3, y1, y2, y3, y4, y5⟩ := em3 g w M
              rw [cd_t (by omega), cd_f k5, cd_t k6] at y5
              obtain ⟨g', d1, d2, d3⟩ := c3' (up g3 80 3 (q3 + 1)) (aI c3) (MT_up y1 _)
              exact ⟨g', y5.trans d1, FrR_t y2 (FrR_t (FrR_80 _ _ (Or.inl rfl)) d2), d3⟩
            · refine Or.inr ⟨Q', c1, c2, c3', fun g w M hg => ?_⟩
              obtain ⟨g3, y1, y2, y3, y4, y5⟩ := em3 g w M
              rw [cd_t (by omega), cd_f k5, cd_t k6] at y5
              obtain ⟨g', d1, d2, d3, d4⟩ := c4 (up g3 80 3 (q3 + 1)) (aI c3) (MT_up y1 _) (by
                have := y4 hg
                unfold RD at this ⊢
                rw [up_n _ _ _ (by decide)]
                exact this)
              exact ⟨g', y5.trans d1, FrR_t y2 (FrR_t (FrR_80 _ _ (Or.inl rfl)) d2), d3, d4⟩
      · rw [cd_f k4] at ec
        refine ⟨h4, v + 1, ec, fr4, fj4, Or.inr ⟨Qn Q v m kk so n, by omega, gbc _ x3, Lg2, fun g w M hg => ?_⟩⟩
        obtain ⟨g3, y1, y2, y3, y4, y5⟩ := em3 g w M
        rw [cd_f (by omega)] at y5
        exact ⟨g3, y5, y2, y3, y4 hg⟩
def rd4 (h : Hp) (j k : Int) : Int := h 83 (4 * j + k - 1)
theorem m_peopL {r w : Int} (hr : 1 ≤ r ∧ r ≤ 8) : ∀ (m : Nat) (v : Int) (h : Hp), 0 ≤ v → v + m = r → h 80 4 = r → 0 ≤ h 81 24 → h 81 24 + m ≤ 12 → ∃ g, X (67, 44, [aR 80, aI w, aI v], [], h) = some (some r, g) ∧ mA h (fun j k => rd4 h (j + v) k) m g
  | 0, v, h, h0, hv, h4, c0, c12 => by
    refine ⟨h, ?_, mA_0 h _⟩
    rw [e67_44, h4, wr_id (x := r) (by omega) (by omega), wr_id (x := v) (by omega) (by omega), cd_t (by omega)]
  | m + 1, v, h, h0, hv, h4, c0, c12 => by
    have key : X (67, 44, [aR 80, aI w, aI v], [], h) = X (67, 44, [aR 80, aI w, aI (v + 1)], [], uM h (h 83 (4 * v)) (h 83 (4 * v + 1)) (h 83 (4 * v + 2)) (h 83 (4 * v + 3))) := by
      rw [e67_44, h4, wr_id (x := r) (by omega) (by omega), wr_id (x := v) (by omega) (by omega), cd_f (by omega), inb_t (by omega) (by omega) (by omega), inb_t (by omega) (by omega) (by omega), inb_t (by omega) (by omega) (by omega), inb_t (by omega) (by omega) (by omega), wr_id (x := 4 * v) (by omega) (by omega), wr_id (x := 4 * v + 1) (by omega) (by omega), wr_id (x := 4 * v + 2) (by omega) (by omega), wr_id (x := 4 * v + 3) (by omega) (by omega), m_add c0 (by omega)]
      simp only [cond_t, bV_some]
      rfl
    have e83 : uM h (h 83 (4 * v)) (h 83 (4 * v + 1)) (h 83 (4 * v + 2)) (h 83 (4 * v + 3)) 83 = h 83 := uM_o _ _ _ _ _ (by decide)
    have e80 : uM h (h 83 (4 * v)) (h 83 (4 * v + 1)) (h 83 (4 * v + 2)) (h 83 (4 * v + 3)) 80 = h 80 := uM_o _ _ _ _ _ (by decide)
    have n1 := uM_n h (h 83 (4 * v)) (h 83 (4 * v + 1)) (h 83 (4 * v + 2)) (h 83 (4 * v + 3))
    obtain ⟨g, g1, g2⟩ := m_peopL (w := w) hr m (v + 1) (uM h (h 83 (4 * v)) (h 83 (4 * v + 1)) (h 83 (4 * v + 2)) (h 83 (4 * v + 3))) (by omega) (by omega) (by rw [e80]; exact h4) (by omega) (by omega)
    refine ⟨g, key.trans g1, ?_⟩
    have q := mA_s (h := h) (g := g) (f := fun j k => rd4 h (j + v) k) (n := m) (by omega) c0 (by
      show mA (uM h (rd4 h (0 + v) 1) (rd4 h (0 + v) 2) (rd4 h (0 + v) 3) (rd4 h (0 + v) 4)) (fun j k => rd4 h (j + 1 + v) k) m g
      have fe : ∀ k : Int, rd4 h (0 + v) k = h 83 (4 * v + k - 1) := fun k => by unfold rd4; rw [Int.zero_add]
      rw [fe 1, fe 2, fe 3, fe 4, show 4 * v + 1 - 1 = 4 * v by omega, show 4 * v + 2 - 1 = 4 * v + 1 by omega, show 4 * v + 3 - 1 = 4 * v + 2 by omega, show 4 * v + 4 - 1 = 4 * v + 3 by omega]
      have ef : (fun j k => rd4 (uM h (h 83 (4 * v)) (h 83 (4 * v + 1)) (h 83 (4 * v + 2)) (h 83 (4 * v + 3))) (j + (v + 1)) k) = fun j k => rd4 h (j + 1 + v) k := by
        funext j k
        unfold rd4
        rw [e83, show j + (v + 1) = j + 1 + v by omega]
      rw [ef] at g2
      exact g2)
    rw [show ((m + 1 : Nat) : Int) = (m : Int) + 1 by omega]
    exact q
theorem case_10 (L : Nat) (xs : Nat → Int32) : Cs_10 L xs := by
  intro h hI
  have hS := hI.1
  obtain ⟨t1, t2, t3⟩ := hI.2.2.2.2.1
  have hT : FT (h 80 2) (h 82) := ⟨t2, fun i i0 i1 => (t3 i i0 i1).2⟩
  have hb := hI.2.2.1.2.2.2.1.1
  have hn : h 19 4 = h 81 24 := hI.2.1.2.2.2.1.1
  have fr0 : ∀ q, q ≠ 45 → q ≠ 70 → up (up h 45 4 0) 70 2 0 q = h q := fun q q1 q2 => by rw [up_n _ _ _ q2, up_n _ _ _ q1]
  have C0 : CT (up (up h 45 4 0) 70 2 0) (h 80 2) (h 82) 0 := ⟨by rw [up_o _ _ _ (by decide), up_n _ _ _ (by decide)]; exact t1, up_s _ _ _ _, fun i i0 i1 => by rw [up_n _ _ _ (by decide), up_n _ _ _ (by decide)]; exact (t3 i i0 i1).1⟩
  have B0 : GB (fun _ _ => 0) 0 (up (up h 45 4 0) 70 2 0) := ⟨by rw [up_n _ _ _ (by decide), up_s], fun j j0 j1 => by omega⟩
  obtain ⟨h2, r, b1, b2, b3, b4⟩ := people_both (L := L) (xs := xs) hT 8 0 0 (fun _ _ => 0) aN (up (up h 45 4 0) 70 2 0) (by omega) (by omega) (by omega) (by omega) (fun p hp => by rw [fr0 p (by omega) (by omega)]; exact hS p hp) C0 B0 (fun j j0 j1 => by omega)
  have b1 : X (180, 0, [aR 70, aR 45, aN, aN], [], up h 45 4 0) = some (some r, h2) := (e180_0 (by decide) (up h 45 4 0)).trans b1
  have fr2 : ∀ q, ¬ (q = 70 ∨ (45 ≤ q ∧ q ≤ 49)) → h2 q = h q := fun q hq => by rw [b2 q hq, fr0 q (by omega) (by omega)]
  have qs := e10_0 h
  rw [b1, bI_some] at qs
  have MT0 : ∀ G : Hp, G 80 = h 80 → G 82 = h 82 → MT (up G 80 3 0) (h 80 2) (h 82) 0 := fun G z1 z2 => ⟨by rw [up_o _ _ _ (by decide), z1], up_s _ _ _ _, fun i _ _ => by rw [up_n _ _ _ (by decide), z2]⟩
  have G0 : ∀ q, ¬ (q = 70 ∨ (45 ≤ q ∧ q ≤ 49)) → up h2 70 1 0 q = h q := fun q hq => by rw [up_n _ _ _ (by omega), fr2 q hq]
  have sG0 : Sm L xs (up h2 70 1 0) := fun p hp => by rw [G0 p (by omega)]; exact hS p hp
  have quiet : ∀ gf : Hp, FrR (up (up h2 70 1 0) 80 3 0) gf → Inv L xs (up gf 80 2 0) := fun gf d2 => by
    refine inv_tape2 hI (fun p hp => ?_) ?_ (Tp_0 ?_ (up_s _ _ _ _))
    · rw [up_n _ _ _ (by omega), d2.1 p (by omega) (by omega), up_n _ _ _ (by omega), G0 p (by omega)]
    · rw [up_o _ _ _ (by decide), d2.2 22 (by decide) (by decide), up_o _ _ _ (by decide), G0 80 (by decide)]
    · rw [up_n _ _ _ (by decide), d2.1 70 (by decide) (by decide), up_n _ _ _ (by decide), up_s]
  rcases b4 with ⟨c1, c2, c3⟩ | ⟨Q, c1, c2, c3, c4⟩
  · rw [wr_id (x := r) (by omega) (by omega), cd_f (by omega)] at qs
    obtain ⟨g', d1, d2, d3⟩ := c3 (up (up h2 70 1 0) 80 3 0) aN (MT0 _ (G0 80 (by decide)) (G0 82 (by decide)))
    have qm := e67_0 (up h2 70 1 0)
    rw [e66_0, d1, bI_some, cd_f (by decide), up_o _ _ _ (by decide), ← d3] at qm
    exact ⟨r, up h2 70 1 0, up g' 80 2 0, qs, sG0, qm, quiet g' d2⟩
  · have R0 : RD (fun _ _ => 0) 0 (up (up h2 70 1 0) 80 3 0) := fun j j0 j1 => by omega
    rw [wr_id (x := r) (by omega) (by omega), cd_t (by omega), G0 19 (by decide), hn, wr_id (x := h 81 24 + r) (by omega) (by omega)] at qs
    by_cases full : h 81 24 + r ≤ 12
    · rw [cd_t full] at qs
      have g45 : up h2 70 1 0 45 4 = r := by rw [up_n _ _ _ (by decide)]; exact c2.1
      obtain ⟨h3, s1, s2, s3, s4⟩ := s_addAll (d := 19) (q := 45) (h := up h2 70 1 0) (by decide) (by decide) (by decide) (by omega) (by omega) (by rw [G0 19 (by decide)]; omega) (by rw [G0 19 (by decide)]; omega)
      rw [g45] at s3 s4
      rw [G0 19 (by decide)] at s3 s4
      rw [s1, bV_some] at qs
      generalize hG : up h3 1 15 1 = G at qs
      have Go : ∀ q, ¬ (q = 1 ∨ (19 ≤ q ∧ q ≤ 23)) → G q = up h2 70 1 0 q := fun q hq => by rw [← hG, up_n _ _ _ (by omega), s2 q (by omega)]
      have G80 : G 80 = h 80 := by rw [Go 80 (by decide), G0 80 (by decide)]
      have G81 : G 81 = h 81 := by rw [Go 81 (by decide), G0 81 (by decide)]
      obtain ⟨g', d1, d2, d3, d4⟩ := c4 (up G 80 3 0) aN (MT0 _ G80 (by rw [Go 82 (by decide), G0 82 (by decide)])) (fun j j0 j1 => by omega)
      have z81 : up g' 80 2 0 81 = h 81 := by rw [up_n _ _ _ (by decide), d2.1 81 (by decide) (by decide), up_n _ _ _ (by decide), G81]
      have z4 : up g' 80 2 0 80 4 = r := by rw [up_o _ _ _ (by decide)]; exact d3
      obtain ⟨gf, k1, k2⟩ := m_peopL (w := 1) c1 r.toNat 0 (up g' 80 2 0) (by omega) (by omega) z4 (by rw [z81]; exact hb.1) (by rw [z81]; omega)
      rw [show ((r.toNat : Nat) : Int) = r by omega] at k2
      have qm := e67_0 G
      rw [e66_0, d1, bI_some, cd_t (by decide), z81, z4, wr_id (x := h 81 24 + r) (by omega) (by omega), cd_t full, k1] at qm
      obtain ⟨m1, m2, m3, m4⟩ := k2
      rw [z81] at m2 m3 m4
      have f1 : ∀ q, q ≠ 80 → q ≠ 81 → q ≠ 83 → gf q = G q := fun q q1 q2 q3 => by rw [m1 q q2, up_n _ _ _ q1, d2.1 q q1 q3, up_n _ _ _ q1]
      have g80 : gf 80 2 = 0 ∧ gf 80 22 = h 80 22 := ⟨by rw [m1 80 (by decide), up_s], by rw [m1 80 (by decide), up_o _ _ _ (by decide), d2.2 22 (by decide) (by decide), up_o _ _ _ (by decide), G80]⟩
      have g70 : gf 70 1 = 0 := by rw [f1 70 (by decide) (by decide) (by decide), Go 70 (by decide), up_s]
      have r83 : ∀ j k : Int, 0 ≤ j → j < r → 1 ≤ k → k ≤ 4 → rd4 (up g' 80 2 0) (j + 0) k = Q j k := fun j k j0 j1 k1' k4 => by
        unfold rd4
        rw [up_n _ _ _ (by decide), Int.add_zero]
        obtain ⟨y1, y2, y3, y4⟩ := d4 j j0 j1
        have : k = 1 ∨ k = 2 ∨ k = 3 ∨ k = 4 := by omega
        rcases this with rfl | rfl | rfl | rfl
        · rw [show 4 * j + 1 - 1 = 4 * j by omega]; exact y1
        · rw [show 4 * j + 2 - 1 = 4 * j + 1 by omega]; exact y2
        · rw [show 4 * j + 3 - 1 = 4 * j + 2 by omega]; exact y3
        · rw [show 4 * j + 4 - 1 = 4 * j + 3 by omega]; exact y4
      have mid : ∃ y : Hp, Inv L xs y ∧ (∀ p, ¬ (p = 70 ∨ p = 80 ∨ p = 83) → y p = h p) ∧ ∀ p, (p = 70 ∨ p = 80 ∨ p = 83) → y p = gf p := by
        refine ⟨fun p => if p = 70 ∨ p = 80 ∨ p = 83 then gf p else h p, inv_tape2 hI (fun p hp => if_neg (by omega)) ?_ (Tp_0 ?_ ?_), fun p hp => if_neg hp, fun p hp => if_pos hp⟩
        · show (if (80 : Nat) = 70 ∨ (80 : Nat) = 80 ∨ (80 : Nat) = 83 then gf 80 else h 80) 22 = _
          rw [if_pos (by decide)]; exact g80.2
        · show (if (70 : Nat) = 70 ∨ (70 : Nat) = 80 ∨ (70 : Nat) = 83 then gf 70 else h 70) 1 = _
          rw [if_pos (by decide)]; exact g70
        · show (if (80 : Nat) = 70 ∨ (80 : Nat) = 80 ∨ (80 : Nat) = 83 then gf 80 else h 80) 2 = _
          rw [if_pos (by decide)]; exact g80.1
      obtain ⟨y, y1, y2, y3⟩ := mid
      have y81 : y 81 = h 81 := y2 81 (by decide)
      have y19 : y 19 = h 19 := y2 19 (by decide)
      have h19k : ∀ k : Nat, 1 ≤ k → k ≤ 4 → up h2 70 1 0 (19 + k) = h (19 + k) := fun k a b => G0 (19 + k) (by omega)
      refine ⟨r, G, gf, qs, fun p hp => by rw [Go p (by omega)]; exact sG0 p hp, qm, inv_app (n := r) Q y1 (by omega) (by rw [y81]; exact full) c3 (fun p hp => ?_) ⟨by rw [y3 80 (by decide)], by rw [y3 80 (by decide)]⟩ ?_ ?_ (fun k a b i i0 i1 => ?_) (by rw [y81]; exact m2) (fun j hj => by rw [y81] at hj ⊢; exact m3 j hj) (fun k a b j j0 j1 => ?_)⟩
      · by_cases e : p = 70 ∨ p = 80 ∨ p = 83
        · exact (y3 p e).symm
        · rw [f1 p (by omega) (by omega) (by omega), Go p (by omega), G0 p (by omega), y2 p e]
      · rw [f1 1 (by decide) (by decide) (by decide), ← hG, up_s]
      · rw [f1 19 (by decide) (by decide) (by decide), ← hG, up_n _ _ _ (by decide), s3, y19]
      · rw [y19] at i1 ⊢
        rw [f1 _ (by omega) (by omega) (by omega), ← hG, up_n _ _ _ (by omega), s4 k a b i, h19k k a b, y2 (19 + k) (by omega)]
        by_cases c : i < h 19 4
        · rw [if_neg (by omega), if_pos c]
        · rw [if_pos (by omega), if_neg c]
          show up h2 70 1 0 (45 + ((k : Int)).toNat) (i - h 19 4) = _
          rw [up_n _ _ _ (by omega), show ((k : Int)).toNat = k by omega]
          exact c2.2 (i - h 19 4) (by omega) (by omega) k a b
      · rw [y81, m4 k a b j j0 j1]
        exact r83 j k j0 j1 (by omega) (by omega)
    · rw [cd_f full] at qs
      obtain ⟨g', d1, d2, d3, d4⟩ := c4 (up (up h2 70 1 0) 80 3 0) aN (MT0 _ (G0 80 (by decide)) (G0 82 (by decide))) R0
      have z81 : up g' 80 2 0 81 = h 81 := by rw [up_n _ _ _ (by decide), d2.1 81 (by decide) (by decide), up_n _ _ _ (by decide), G0 81 (by decide)]
      have qm := e67_0 (up h2 70 1 0)
      rw [e66_0, d1, bI_some, cd_t (by decide), z81, up_o _ _ _ (by decide), d3, wr_id (x := h 81 24 + r) (by omega) (by omega), cd_f full] at qm
      exact ⟨-3, up h2 70 1 0, up g' 80 2 0, qs, sG0, qm, quiet g' d2⟩
