def pnx (P : Int → Int) (v a b : Int) : Int → Int := fun j => if j = 2 * v then a else if j = 2 * v + 1 then b else P j
theorem pnx_r {P : Int → Int} {v a b : Int} (a0 : 0 ≤ a ∧ a < 6) (b0 : 0 ≤ b ∧ b < 6) (H : ∀ j, 0 ≤ j → j < 2 * v → 0 ≤ P j ∧ P j < 6) : ∀ j, 0 ≤ j → j < 2 * (v + 1) → 0 ≤ pnx P v a b j ∧ pnx P v a b j < 6 := fun j j0 j1 => by
  unfold pnx
  by_cases e : j = 2 * v
  · rw [if_pos e]; exact a0
  · rw [if_neg e]
    by_cases e2 : j = 2 * v + 1
    · rw [if_pos e2]; exact b0
    · rw [if_neg e2]; exact H j j0 (by omega)
theorem man_both {f : Int → Int} {l : Int} (hT : FT l f) : ∀ (k : Nat) (v s : Int) (P : Int → Int) (w3 w4 : AV) (h : Hp), v + k = 8 → 0 ≤ v → 0 ≤ s → s ≤ l → CT h l f s → HB P v h → (∀ j, 0 ≤ j → j < 2 * v → 0 ≤ P j ∧ P j < 6) →
    ∃ h' r, X (179, 7, [aR 70, aR 42, aI (v + 1), w3, w4], [], h) = some (some r, h') ∧ (∀ q, q ≠ 42 → q ≠ 43 → q ≠ 70 → h' q = h q) ∧ (∀ j, j ≠ 2 → h' 70 j = h 70 j) ∧
      ((r ≤ -20 ∧ -200 ≤ r ∧ ∀ g w, MT g l f s → ∃ g', X (60, 7, [aR 80, aI v, w], [], g) = some (some 0, g') ∧ FrR g g' ∧ r = -20 - g' 80 3) ∨
       (∃ P' : Int → Int, (1 ≤ r ∧ r ≤ 8) ∧ HB P' r h' ∧ (∀ j, 0 ≤ j → j < 2 * r → 0 ≤ P' j ∧ P' j < 6) ∧ ∀ g w, MT g l f s → (∀ j, 0 ≤ j → j < 2 * v → g 83 j = P j) → ∃ g', X (60, 7, [aR 80, aI v, w], [], g) = some (some 1, g') ∧ FrR g g' ∧ g' 80 4 = r ∧ ∀ j, 0 ≤ j → j < 2 * r → g' 83 j = P' j))
  | 0, v, s, P, w3, w4, h, hk, v0, s0, s1, C, B, Pr => by
    have hl := hT.1
    have e : v = 8 := by omega
    subst e
    refine ⟨h, -20 - s, ?_, fun _ _ _ _ => rfl, fun _ _ => rfl, Or.inl ⟨by omega, by omega, fun g w M => ⟨g, ?_, ⟨fun _ _ _ => rfl, fun _ _ _ => rfl⟩, by rw [M.2.1]⟩⟩⟩
    · rw [e179_7 (by decide), cd_t (by decide), C.2.1, e184_0, bI_some]
    · rw [e60_7, cd_t (by decide)]
  | k + 1, v, s, P, w3, w4, h, hk, v0, s0, s1, C, B, Pr => by
    have hl := hT.1
    obtain ⟨h1, p1, p2, p3, p4⟩ := s_peek hT C s0 s1
    have r1 := nx_r (f := f) s1
    have b1 := bta_r hT (p := nx f l s) (by omega)
    have lt1 := bta_lt (f := f) (l := l) (p := nx f l s)
    have mk1 := fun (g : Hp) (M : MT g l f s) => m_kind hT M s0 s1 (a := -4) (by omega)
    have kr1 := kd_r (bta f l (nx f l s))
    have km1 : bta f l (nx f l s) = -1 → kd (bta f l (nx f l s)) = -1 := fun e => by rw [e]; rfl
    generalize nx f l s = q1 at p1 p2 r1 b1 lt1 mk1 kr1 km1
    generalize bta f l q1 = c1 at p1 b1 lt1 mk1 kr1 km1
    have i32 : inb 32 (2 * v) = true := inb_t (by omega) (by omega) (by omega)
    have i33 : inb 32 (2 * v + 1) = true := inb_t (by omega) (by omega) (by omega)
    have ec := e179_7 (q1 := 42) (by decide) (v + 1) w3 w4 h
    rw [wr_id (x := v + 1) (by omega) (by omega), cd_f (by omega), p1, bI_some, s_kind b1 h1, bI_some, wr_id (x := kd c1) (by omega) (by omega)] at ec
    have em : ∀ g w, X (60, 7, [aR 80, aI v, w], [], g) = _ := fun g w => e60_7 v w g
    have em : ∀ g w, MT g l f s → ∃ g1, MT g1 l f (if kd c1 = -4 ∨ kd c1 = -1 then q1 else q1 + 1) ∧ FrR g g1 ∧ g1 83 = g 83 ∧ X (60, 7, [aR 80, aI v, w], [], g) = cond (decide (0 ≤ kd c1)) (bI (X (59, 0, [aR 80, aI (kd c1), aN, aN], [], up g1 83 (2 * v) (kd c1))) (fun r2 h2 => cond (decide (0 ≤ wr r2)) (bI (X (56, 0, [aR 80], [], up (up h2 83 (2 * v + 1) r2) 80 4 (v + 1))) (fun r3 h3 => cond (decide (0 ≤ wr r3)) (cond (decide (wr r3 ≠ 44)) (some (some 0, h3)) (cond (decide (v ≠ 7)) (X (60, 7, [aR 80, aI (v + 1), aI r3], [], up h3 80 3 (h3 80 3 + 1))) (some (some 0, h3)))) (some (some 1, h3)))) (some (some 0, up h2 83 (2 * v + 1) r2)))) (some (some 0, up g1 83 (2 * v) (kd c1))) := fun g w M => by
      obtain ⟨g1, y1, y2, y3, y4⟩ := mk1 g M
      rw [if_neg (by omega)] at y1
      refine ⟨g1, y2, FrR_p y3 y4, y3 83 (by decide), ?_⟩
      rw [em, wr_id (x := v) (by omega) (by omega), cd_f (by omega), y1, bI_some, i32, i33, wr_id (x := 2 * v) (by omega) (by omega), wr_id (x := 2 * v + 1) (by omega) (by omega), up_s, wr_id (x := kd c1) (by omega) (by omega)]
      simp only [cond_t, up_s]
    by_cases k1 : kd c1 ≠ -1
    · rw [cd_t k1, p2.2.1] at ec
      have q1l : q1 < l := lt1 (fun e => k1 (km1 e))
      have C2 := CT_up p2 (q1 + 1)
      obtain ⟨h2, u1, u2, u3, u4⟩ := s_peek hT C2 (by omega) (by omega)
      have r2 := nx_r (f := f) (s := q1 + 1) (l := l) (by omega)
      have b2 := bta_r hT (p := nx f l (q1 + 1)) (by omega)
      have lt2 := bta_lt (f := f) (l := l) (p := nx f l (q1 + 1))
      have mk2 := fun (g : Hp) (M : MT g l f (q1 + 1)) => m_kind hT M (by omega) (by omega) (a := kd c1) (by omega)
      have kr2 := kd_r (bta f l (nx f l (q1 + 1)))
      have km2 : bta f l (nx f l (q1 + 1)) = -1 → kd (bta f l (nx f l (q1 + 1))) = -1 := fun e => by rw [e]; rfl
      generalize nx f l (q1 + 1) = q2 at u1 u2 r2 b2 lt2 mk2 kr2 km2
      generalize bta f l q2 = c2 at u1 b2 lt2 mk2 kr2 km2
      rw [u1, bI_some, s_kind b2 h2, bI_some, wr_id (x := kd c2) (by omega) (by omega), u2.2.1] at ec
      have fr2 : ∀ q, q ≠ 42 → q ≠ 43 → q ≠ 70 → h2 q = h q := fun q _ _ q3 => by rw [u3 q q3, up_n _ _ _ q3, p3 q q3]
      have fj2 : ∀ j, j ≠ 2 → h2 70 j = h 70 j := fun j hj => by rw [u4 j hj, up_o _ _ _ hj, p4 j hj]
      have em2 : ∀ g w, MT g l f s → ∃ g2 : Hp, MT g2 l f (if kd c2 = kd c1 ∨ kd c2 = -1 then q2 else q2 + 1) ∧ FrR g g2 ∧ (∀ j, g2 83 j = if j = 2 * v + 1 then (if kd c2 = kd c1 then -1 else kd c2) else if j = 2 * v then kd c1 else g 83 j) ∧ X (60, 7, [aR 80, aI v, w], [], g) = cond (decide (0 ≤ (if kd c2 = kd c1 then -1 else kd c2))) (bI (X (56, 0, [aR 80], [], up g2 80 4 (v + 1))) (fun r3 h3 => cond (decide (0 ≤ wr r3)) (cond (decide (wr r3 ≠ 44)) (some (some 0, h3)) (cond (decide (v ≠ 7)) (X (60, 7, [aR 80, aI (v + 1), aI r3], [], up h3 80 3 (h3 80 3 + 1))) (some (some 0, h3)))) (some (some 1, h3)))) (some (some 0, g2)) := fun g w M => by
        obtain ⟨g1, y1, y2, y3, y4⟩ := em g w M
        rw [if_neg (by omega)] at y1
        have M1 : MT (up g1 83 (2 * v) (kd c1)) l f (q1 + 1) := MT_c ⟨by rw [up_n _ _ _ (by decide)], by rw [up_n _ _ _ (by decide)]⟩ (up_n _ _ _ (by decide)) y1
        obtain ⟨g2, z1, z2, z3, z4⟩ := mk2 _ M1
        rw [cd_t (show 0 ≤ kd c1 by omega), z1, bI_some] at y4
        have rr : wr (if kd c2 = kd c1 then -1 else kd c2) = (if kd c2 = kd c1 then -1 else kd c2) := by
          split
          · decide
          · exact wr_id (by omega) (by omega)
        rw [rr] at y4
        refine ⟨up g2 83 (2 * v + 1) (if kd c2 = kd c1 then -1 else kd c2), MT_c ⟨by rw [up_n _ _ _ (by decide)], by rw [up_n _ _ _ (by decide)]⟩ (up_n _ _ _ (by decide)) z2, FrR_t y2 (FrR_t (FrR_83 _ _ _) (FrR_t (FrR_p z3 z4) (FrR_83 _ _ _))), fun j => ?_, y4⟩
        by_cases e : j = 2 * v + 1
        · rw [e, up_s, if_pos rfl]
        · rw [up_o _ _ _ e, if_neg e, z3 83 (by decide)]
          by_cases e2 : j = 2 * v
          · rw [e2, up_s, if_pos rfl]
          · rw [up_o _ _ _ e2, if_neg e2, y3]
      by_cases k2 : kd c2 = -1
      · rw [cd_t k2, e184_0, bI_some] at ec
        refine ⟨h2, -20 - q2, ec, fr2, fj2, Or.inl ⟨by omega, by omega, fun g w M => ?_⟩⟩
        obtain ⟨g2, y1, y2, y3, y4⟩ := em2 g w M
        rw [if_pos (Or.inr k2)] at y1
        rw [cd_f (by split <;> omega)] at y4
        exact ⟨g2, y4, y2, by rw [y1.2.1]⟩
      rw [cd_f k2] at ec
      by_cases k3 : kd c2 ≠ kd c1
      · rw [cd_t k3] at ec
        have q2l : q2 < l := lt2 (fun e => k2 (km2 e))
        have B2 : HB P v (up h2 70 2 (q2 + 1)) := by
          unfold HB at B ⊢
          rw [up_n _ _ _ (by decide), up_n _ _ _ (by decide), u3 42 (by decide), u3 43 (by decide), up_n _ _ _ (by decide), up_n _ _ _ (by decide), p3 42 (by decide), p3 43 (by decide)]
          exact B
        obtain ⟨h3, t1, t2, t3⟩ := HB_add v0 (a := kd c1) (b := kd c2) (by omega) (by omega) B2
        have C3 : CT h3 l f (q2 + 1) := CT_c ⟨t2 70 (by decide) (by decide), t2 71 (by decide) (by decide)⟩ (CT_up u2 (q2 + 1))
        obtain ⟨h4, x1, x2, x3, x4⟩ := s_peek hT C3 (by omega) (by omega)
        have r3 := nx_r (f := f) (s := q2 + 1) (l := l) (by omega)
        have b3 := bta_r hT (p := nx f l (q2 + 1)) (by omega)
        have lt3 := bta_lt (f := f) (l := l) (p := nx f l (q2 + 1))
        have id3 := nx_id (f := f) (l := l) (s := q2 + 1) (by omega) (by omega) hl.2
        have mp3 := fun (g : Hp) (M : MT g l f (q2 + 1)) => m_peek hT M (by omega) (by omega)
        have C4 := x2
        obtain ⟨h5, z1, z2, z3, z4⟩ := s_peek hT C4 (by omega) (by omega)
        rw [id3] at z1 z2
        generalize nx f l (q2 + 1) = q3 at x1 x2 r3 b3 lt3 mp3 z1 z2
        generalize bta f l q3 = c3 at x1 b3 lt3 mp3 z1
        rw [t1, bV_some, x1, bI_some, z1, bI_some, wr_id (x := c3) (by omega) (by omega), z2.2.1] at ec
        have fr4 : ∀ q, q ≠ 42 → q ≠ 43 → q ≠ 70 → h4 q = h q := fun q q1' q2' q3' => by rw [x3 q q3', t2 q q1' q2', up_n _ _ _ q3', fr2 q q1' q2' q3']
        have fj4 : ∀ j, j ≠ 2 → h4 70 j = h 70 j := fun j hj => by rw [x4 j hj, t2 70 (by decide) (by decide), up_o _ _ _ hj, fj2 j hj]
        have fr5 : ∀ q, q ≠ 42 → q ≠ 43 → q ≠ 70 → h5 q = h q := fun q q1' q2' q3' => by rw [z3 q q3', fr4 q q1' q2' q3']
        have fj5 : ∀ j, j ≠ 2 → h5 70 j = h 70 j := fun j hj => by rw [z4 j hj, fj4 j hj]
        have B4 : HB (pnx P v (kd c1) (kd c2)) (v + 1) h4 := by
          have t3 : HB (pnx P v (kd c1) (kd c2)) (v + 1) h3 := t3
          unfold HB at t3 ⊢
          rw [x3 42 (by decide), x3 43 (by decide)]
          exact t3
        have Pr4 := pnx_r (v := v) (a := kd c1) (b := kd c2) (by omega) (by omega) Pr
        have em3 : ∀ g w, MT g l f s → ∃ g3 : Hp, MT g3 l f q3 ∧ FrR g g3 ∧ g3 80 4 = v + 1 ∧ (∀ j, g3 83 j = if j = 2 * v + 1 then kd c2 else if j = 2 * v then kd c1 else g 83 j) ∧ X (60, 7, [aR 80, aI v, w], [], g) = cond (decide (0 ≤ c3)) (cond (decide (c3 ≠ 44)) (some (some 0, g3)) (cond (decide (v ≠ 7)) (X (60, 7, [aR 80, aI (v + 1), aI c3], [], up g3 80 3 (q3 + 1))) (some (some 0, g3)))) (some (some 1, g3)) := fun g w M => by
          obtain ⟨g2, y1, y2, y3, y4⟩ := em2 g w M
          rw [if_neg (by omega)] at y1
          rw [if_neg k3, cd_t (by omega)] at y4
          have M2 : MT (up g2 80 4 (v + 1)) l f (q2 + 1) := MT_c ⟨up_o _ _ _ (by decide), up_o _ _ _ (by decide)⟩ (up_n _ _ _ (by decide)) y1
          obtain ⟨g3, n1, n2, n3, n4⟩ := mp3 _ M2
          rw [n1, bI_some, wr_id (x := c3) (by omega) (by omega), n2.2.1] at y4
          refine ⟨g3, n2, FrR_t y2 (FrR_t (FrR_80 _ _ (Or.inr rfl)) (FrR_p n3 n4)), by rw [n4 4 (by decide), up_s], fun j => ?_, y4⟩
          rw [n3 83 (by decide), up_n _ _ _ (by decide), y3, if_neg k3]
        by_cases k4 : c3 ≠ -1
        · rw [cd_t k4] at ec
          have q3l : q3 < l := lt3 k4
          by_cases k5 : c3 ≠ 44
          · rw [cd_t k5, e184_0, bI_some] at ec
            refine ⟨h5, -20 - q3, ec, fr5, fj5, Or.inl ⟨by omega, by omega, fun g w M => ?_⟩⟩
            obtain ⟨g3, y1, y2, y3, y4, y5⟩ := em3 g w M
            rw [cd_t (by omega), cd_t k5] at y5
            exact ⟨g3, y5, y2, by rw [y1.2.1]⟩
          · rw [cd_f k5] at ec
            by_cases k6 : v = 7
            · rw [cd_f (by omega), e184_0, bI_some] at ec
              refine ⟨h5, -20 - q3, ec, fr5, fj5, Or.inl ⟨by omega, by omega, fun g w M => ?_⟩⟩
              obtain ⟨g3, y1, y2, y3, y4, y5⟩ := em3 g w M
              rw [cd_t (by omega), cd_f k5, cd_f (by omega)] at y5
              exact ⟨g3, y5, y2, by rw [y1.2.1]⟩
            · rw [cd_t (by omega)] at ec
              have C5 := CT_up z2 (q3 + 1)
              have B5 : HB (pnx P v (kd c1) (kd c2)) (v + 1) (up h5 70 2 (q3 + 1)) := by
                unfold HB at B4 ⊢
                rw [up_n _ _ _ (by decide), up_n _ _ _ (by decide), z3 42 (by decide), z3 43 (by decide)]
                exact B4
              obtain ⟨h', r, f1, f2, f3, f4⟩ := man_both hT k (v + 1) (q3 + 1) (pnx P v (kd c1) (kd c2)) (aI (kd c1)) (aI (kd c2)) (up h5 70 2 (q3 + 1)) (by omega) (by omega) (by omega) (by omega) C5 B5 Pr4
              refine ⟨h', r, ec.trans f1, fun q q1' q2' q3' => by rw [f2 q q1' q2' q3', up_n _ _ _ q3', fr5 q q1' q2' q3'], fun j hj => by rw [f3 j hj, up_o _ _ _ hj, fj5 j hj], ?_⟩
              rcases f4 with ⟨a1, a2, a3⟩ | ⟨P', a1, a2, a3, a4⟩
              · refine Or.inl ⟨a1, a2, fun g w M => ?_⟩
                obtain ⟨g3, y1, y2, y3, y4, y5⟩ := em3 g w M
                rw [cd_t (by omega), cd_f k5, cd_t k6] at y5
                obtain ⟨g', d1, d2, d3⟩ := a3 (up g3 80 3 (q3 + 1)) (aI c3) (MT_up y1 _)
                exact ⟨g', y5.trans d1, FrR_t y2 (FrR_t (FrR_80 _ _ (Or.inl rfl)) d2), d3⟩
              · refine Or.inr ⟨P', a1, a2, a3, fun g w M hg => ?_⟩
                obtain ⟨g3, y1, y2, y3, y4, y5⟩ := em3 g w M
                rw [cd_t (by omega), cd_f k5, cd_t k6] at y5
                obtain ⟨g', d1, d2, d3, d4⟩ := a4 (up g3 80 3 (q3 + 1)) (aI c3) (MT_up y1 _) (fun j j0 j1 => by
                  rw [up_n _ _ _ (by decide), y4]
                  unfold pnx
                  by_cases e : j = 2 * v
                  · rw [if_neg (by omega), if_pos e, if_pos e]
                  · by_cases e2 : j = 2 * v + 1
                    · rw [if_pos e2, if_neg e, if_pos e2]
                    · rw [if_neg e2, if_neg e, if_neg e, if_neg e2]
                      exact hg j j0 (by omega))
                exact ⟨g', y5.trans d1, FrR_t y2 (FrR_t (FrR_80 _ _ (Or.inl rfl)) d2), d3, d4⟩
        · rw [cd_f k4] at ec
          refine ⟨h4, v + 1, ec, fr4, fj4, Or.inr ⟨pnx P v (kd c1) (kd c2), by omega, B4, Pr4, fun g w M hg => ?_⟩⟩
          obtain ⟨g3, y1, y2, y3, y4, y5⟩ := em3 g w M
          rw [cd_f (by omega)] at y5
          refine ⟨g3, y5, y2, y3, fun j j0 j1 => ?_⟩
          rw [y4]
          unfold pnx
          by_cases e : j = 2 * v
          · rw [if_neg (by omega), if_pos e, if_pos e]
          · by_cases e2 : j = 2 * v + 1
            · rw [if_pos e2, if_neg e, if_pos e2]
            · rw [if_neg e2, if_neg e, if_neg e, if_neg e2]
              exact hg j j0 (by omega)
      · rw [cd_f k3, e184_0, bI_some] at ec
        refine ⟨h2, -20 - q2, ec, fr2, fj2, Or.inl ⟨by omega, by omega, fun g w M => ?_⟩⟩
        obtain ⟨g2, y1, y2, y3, y4⟩ := em2 g w M
        rw [if_pos (Or.inl (by omega))] at y1
        rw [cd_f (by split <;> omega)] at y4
        exact ⟨g2, y4, y2, by rw [y1.2.1]⟩
    · rw [cd_f k1, p2.2.1, e184_0, bI_some] at ec
      refine ⟨h1, -20 - q1, ec, fun q _ _ q3 => p3 q q3, p4, Or.inl ⟨by omega, by omega, fun g w M => ?_⟩⟩
      obtain ⟨g1, y1, y2, y3, y4⟩ := em g w M
      rw [if_pos (Or.inr (by omega))] at y1
      rw [cd_f (by omega)] at y4
      exact ⟨_, y4, FrR_t y2 (FrR_83 _ _ _), by rw [up_n _ _ _ (by decide), y1.2.1]⟩
theorem m_habL {r v1 : Int} (hr : 1 ≤ r ∧ r ≤ 8) : ∀ (k : Nat) (v : Int) (g : Hp), 0 ≤ v → v + k = 2 * r → g 80 4 = r → ∃ g', X (61, 24, [aR 80, aI v1, aI v], [], g) = some (some r, g') ∧ (∀ q, q ≠ 81 → g' q = g q) ∧ ∀ j, g' 81 j = if j = 25 then r else if 26 + v ≤ j ∧ j < 26 + 2 * r then g 83 (j - 26) else g 81 j
  | 0, v, g, v0, hk, g4 => by
    refine ⟨up g 81 25 r, ?_, fun q hq => up_n _ _ _ hq, fun j => ?_⟩
    · rw [e61_24, g4, wr_id (x := 2 * r) (by omega) (by omega), wr_id (x := v) (by omega) (by omega), cd_t (by omega), up_n _ _ _ (by decide), g4]
    · by_cases e : j = 25
      · rw [e, up_s, if_pos rfl]
      · rw [up_o _ _ _ e, if_neg e, if_neg (by omega)]
  | k + 1, v, g, v0, hk, g4 => by
    obtain ⟨g', g1, g2, g3⟩ := m_habL (v1 := v1) hr k (v + 1) (up g 81 (26 + v) (g 83 v)) (by omega) (by omega) (by rw [up_n _ _ _ (by decide)]; exact g4)
    refine ⟨g', ?_, fun q hq => by rw [g2 q hq, up_n _ _ _ hq], fun j => ?_⟩
    · rw [e61_24, g4, wr_id (x := 2 * r) (by omega) (by omega), wr_id (x := v) (by omega) (by omega), cd_f (by omega), inb_t v0 (by omega) (by omega), inb_t (by omega) (by omega) (by omega), cond_t, cond_t, wr_id (x := 26 + v) (by omega) (by omega), g1]
    · rw [g3 j, up_n _ _ _ (by decide : 83 ≠ 81)]
      by_cases e : j = 25
      · rw [if_pos e, if_pos e]
      · rw [if_neg e, if_neg e]
        by_cases c : j = 26 + v
        · rw [if_neg (by omega), if_pos (by omega), c, up_s, show 26 + v - 26 = v by omega]
        · rw [up_o _ _ _ c]
          by_cases c2 : 26 + (v + 1) ≤ j ∧ j < 26 + 2 * r
          · rw [if_pos c2, if_pos (by omega)]
          · rw [if_neg c2, if_neg (by omega)]
theorem s_clearL : ∀ (k : Nat) (v : Int) (h : Hp), 0 ≤ v → v + k = 6 → ∃ g, X (163, 2, [aR 42, aI v], [], h) = some (none, g) ∧ (∀ q, q ≠ 42 → q ≠ 43 → g q = h q) ∧ g 42 2 = 0 ∧ ∀ j, g 43 j = if v ≤ j ∧ j < 6 then 0 else h 43 j
  | 0, v, h, v0, hk => by
    refine ⟨up h 42 2 0, ?_, fun q q1 q2 => up_n _ _ _ q1, up_s _ _ _ _, fun j => by rw [if_neg (by omega), up_n _ _ _ (by decide)]⟩
    rw [e163_2 (by decide), wr_id (x := v) (by omega) (by omega), cd_t (by omega)]
  | k + 1, v, h, v0, hk => by
    obtain ⟨g, g1, g2, g3, g4⟩ := s_clearL k (v + 1) (up h 43 v 0) (by omega) (by omega)
    refine ⟨g, ?_, fun q q1 q2 => by rw [g2 q q1 q2, up_n _ _ _ q2], g3, fun j => ?_⟩
    · rw [e163_2 (by decide), wr_id (x := v) (by omega) (by omega), cd_f (by omega), inb_t v0 (by omega) (by omega), cond_t]
      exact g1
    · rw [g4 j]
      by_cases c : j = v
      · rw [if_neg (by omega), if_pos (by omega), c, up_s]
      · rw [up_o _ _ _ c]
        by_cases c2 : v + 1 ≤ j ∧ j < 6
        · rw [if_pos c2, if_pos (by omega)]
        · rw [if_neg c2, if_neg (by omega)]
theorem inv_tape2 {L : Nat} {xs : Nat → Int32} {h g : Hp} (hI : Inv L xs h) (f : ∀ p, ¬ ((27 ≤ p ∧ p ≤ 52) ∨ p = 70 ∨ p = 71 ∨ p = 80 ∨ p = 82 ∨ p = 83) → g p = h p) (h80 : g 80 22 = h 80 22) (hT : Tp g) : Inv L xs g := by
  obtain ⟨q1, q2, q3, q4, q5, q6, q7, q8⟩ := hI
  refine ⟨fun p hp => by rw [f p (by omega)]; exact q1 p hp, RR_congr (fun p hp => f p (by omega)) (by rw [f _ (by decide)]) (by rw [f _ (by decide)]) (by rw [f _ (by decide)]) (f _ (by decide)) q2, Zz_congr (f _ (by decide)) q3, Kp_congr (by rw [f _ (by decide)]) h80 (fun p h1 h2 => f p (by omega)) (f _ (by decide)) q4, hT, Sh_congr (fun p hp => f p (by omega)) q6, ?_, Dr_congr (by rw [f _ (by decide)]) (by rw [f _ (by decide)]) (f _ (by decide)) (f _ (by decide)) q8⟩
  rw [f 1 (by decide)]
  exact q7.imp (fun ⟨y1, y2⟩ => ⟨y1, Fd_congr (fun p hp => f p (by omega)) (by rw [f 1 (by decide)]) y2⟩) id
theorem Tp_0 {g : Hp} (h1 : g 70 1 = 0) (h2 : g 80 2 = 0) : Tp g := ⟨by rw [h1, h2], by rw [h2]; omega, fun i i0 i1 => by rw [h2] at i1; omega⟩
theorem case_7 (L : Nat) (xs : Nat → Int32) : Cs_7 L xs := by
  intro h hI
  have hS := hI.1
  obtain ⟨t1, t2, t3⟩ := hI.2.2.2.2.1
  have hT : FT (h 80 2) (h 82) := ⟨t2, fun i i0 i1 => (t3 i i0 i1).2⟩
  obtain ⟨h0, a1, a2, a3, a4⟩ := s_clearL 6 0 h (by omega) (by omega)
  have fr0 : ∀ q, q ≠ 42 → q ≠ 43 → q ≠ 70 → up h0 70 2 0 q = h q := fun q q1 q2 q3 => by rw [up_n _ _ _ q3, a2 q q1 q2]
  have C0 : CT (up h0 70 2 0) (h 80 2) (h 82) 0 := ⟨by rw [up_o _ _ _ (by decide), a2 70 (by decide) (by decide)]; exact t1, up_s _ _ _ _, fun i i0 i1 => by rw [up_n _ _ _ (by decide), a2 71 (by decide) (by decide)]; exact (t3 i i0 i1).1⟩
  have B0 : HB (fun _ => 0) 0 (up h0 70 2 0) := by
    unfold HB
    rw [up_n _ _ _ (by decide), up_n _ _ _ (by decide)]
    refine ⟨a3, fun a a0 a6 => ⟨0, by rw [a4 a, if_pos (by omega)]; rfl, by decide, fun b _ => ?_⟩⟩
    rw [Nat.zero_testBit]
    exact ⟨fun z => absurd z (by decide), fun ⟨k, k0, k1, _⟩ => by omega⟩
  obtain ⟨h2, r, b1, b2, b3, b4⟩ := man_both hT 8 0 0 (fun _ => 0) aN aN (up h0 70 2 0) (by omega) (by omega) (by omega) (by omega) C0 B0 (fun j j0 j1 => by omega)
  have b1 : X (179, 0, [aR 70, aR 42, aN, aN, aN], [], h0) = some (some r, h2) := (e179_0 (by decide) h0).trans b1
  have fr2 : ∀ q, q ≠ 42 → q ≠ 43 → q ≠ 70 → h2 q = h q := fun q q1 q2 q3 => by rw [b2 q q1 q2 q3, fr0 q q1 q2 q3]
  have qs := e7_0 h
  rw [e163_0 (by decide), a1, bV_some, b1, bI_some] at qs
  have MT0 : ∀ G : Hp, G 80 = h 80 → G 82 = h 82 → MT (up G 80 3 0) (h 80 2) (h 82) 0 := fun G z1 z2 => ⟨by rw [up_o _ _ _ (by decide), z1], up_s _ _ _ _, fun i _ _ => by rw [up_n _ _ _ (by decide), z2]⟩
  rcases b4 with ⟨c1, c2, c3⟩ | ⟨P, c1, c2, c3, c4⟩
  · rw [wr_id (x := r) (by omega) (by omega), cd_t (by omega)] at qs
    obtain ⟨g', d1, d2, d3⟩ := c3 (up (up h2 70 1 0) 80 3 0) aN (MT0 _ (by rw [up_n _ _ _ (by decide), fr2 80 (by decide) (by decide) (by decide)]) (by rw [up_n _ _ _ (by decide), fr2 82 (by decide) (by decide) (by decide)]))
    have qm := e61_0 (up h2 70 1 0)
    rw [e60_0, d1, bI_some, cd_f (by decide), up_o _ _ _ (by decide), ← d3] at qm
    refine ⟨r, up h2 70 1 0, up g' 80 2 0, qs, fun p hp => by rw [up_n _ _ _ (by omega), fr2 p (by omega) (by omega) (by omega)]; exact hS p hp, qm, inv_tape2 hI (fun p hp => ?_) ?_ (Tp_0 ?_ (up_s _ _ _ _))⟩
    · rw [up_n _ _ _ (by omega), d2.1 p (by omega) (by omega), up_n _ _ _ (by omega), up_n _ _ _ (by omega), fr2 p (by omega) (by omega) (by omega)]
    · rw [up_o _ _ _ (by decide), d2.2 22 (by decide) (by decide), up_o _ _ _ (by decide), up_n _ _ _ (by decide), fr2 80 (by decide) (by decide) (by decide)]
    · rw [up_n _ _ _ (by decide), d2.1 70 (by decide) (by decide), up_n _ _ _ (by decide), up_s]
  · rw [wr_id (x := r) (by omega) (by omega), cd_f (by omega), e165_0 (by decide) (by decide), bV_some] at qs
    have x42 : cpy (up h2 70 1 0) (42 + 1) (16 + 1) 0 0 6 42 2 = r := by rw [cpy_o _ _ _ _ (by decide), up_n _ _ _ (by decide), c2.1]
    have x17 : ∀ i, 0 ≤ i → i < 6 → cpy (up h2 70 1 0) (42 + 1) (16 + 1) 0 0 6 17 i = h2 43 i := fun i i0 i1 => by
      have := cpy_i (up h2 70 1 0) 43 17 i0 i1
      rw [up_n _ _ _ (by decide)] at this
      exact this
    have xo : ∀ q, q ≠ 17 → cpy (up h2 70 1 0) (42 + 1) (16 + 1) 0 0 6 q = up h2 70 1 0 q := fun q hq => cpy_o _ _ _ _ hq
    rw [x42] at qs
    generalize cpy (up h2 70 1 0) (42 + 1) (16 + 1) 0 0 6 = Y at qs x17 xo
    generalize hG : up (up Y 16 2 r) 1 15 1 = G at qs
    have Go : ∀ q, q ≠ 1 → q ≠ 16 → q ≠ 17 → q ≠ 42 → q ≠ 43 → q ≠ 70 → G q = h q := fun q q1 q2 q3 q4 q5 q6 => by rw [← hG, up_n _ _ _ q1, up_n _ _ _ q2, xo q q3, up_n _ _ _ q6, fr2 q q4 q5 q6]
    have G80 := Go 80 (by decide) (by decide) (by decide) (by decide) (by decide) (by decide)
    obtain ⟨g', d1, d2, d3, d4⟩ := c4 (up G 80 3 0) aN (MT0 _ G80 (Go 82 (by decide) (by decide) (by decide) (by decide) (by decide) (by decide))) (fun j j0 j1 => by omega)
    obtain ⟨gf, k1, k2, k3⟩ := m_habL (v1 := 1) c1 (2 * r).toNat 0 (up g' 80 2 0) (by omega) (by omega) (by rw [up_o _ _ _ (by decide)]; exact d3)
    have qm := e61_0 G
    rw [e60_0, d1, bI_some, cd_t (by decide), k1] at qm
    have f1 : ∀ q, q ≠ 80 → q ≠ 81 → q ≠ 83 → gf q = G q := fun q q1 q2 q3 => by rw [k2 q q2, up_n _ _ _ q1, d2.1 q q1 q3, up_n _ _ _ q1]
    have row : ∀ j, gf 81 j = if j = 25 then r else if 26 ≤ j ∧ j < 26 + 2 * r then P (j - 26) else h 81 j := fun j => by
      rw [k3 j]
      by_cases e : j = 25
      · rw [if_pos e, if_pos e]
      · rw [if_neg e, if_neg e]
        by_cases c : 26 ≤ j ∧ j < 26 + 2 * r
        · rw [if_pos (by omega), if_pos c, up_n _ _ _ (by decide), d4 _ (by omega) (by omega)]
        · rw [if_neg (by omega), if_neg c, up_n _ _ _ (by decide), d2.1 81 (by decide) (by decide), up_n _ _ _ (by decide), Go 81 (by decide) (by decide) (by decide) (by decide) (by decide) (by decide)]
    have rowo : ∀ j, (j < 25 ∨ 42 ≤ j) → gf 81 j = h 81 j := fun j hj => by rw [row j, if_neg (by omega), if_neg (by omega)]
    have r25 : gf 81 25 = r := by rw [row 25, if_pos rfl]
    have g80 : gf 80 2 = 0 ∧ gf 80 22 = h 80 22 := ⟨by rw [k2 80 (by decide), up_s], by rw [k2 80 (by decide), up_o _ _ _ (by decide), d2.2 22 (by decide) (by decide), up_o _ _ _ (by decide), G80]⟩
    have g70 : gf 70 1 = 0 := by rw [f1 70 (by decide) (by decide) (by decide), ← hG, up_n _ _ _ (by decide), up_n _ _ _ (by decide), xo 70 (by decide), up_s]
    have fa : ∀ q, ¬ (q = 1 ∨ q = 16 ∨ q = 17 ∨ q = 42 ∨ q = 43 ∨ q = 70 ∨ q = 80 ∨ q = 81 ∨ q = 83) → gf q = h q := fun q hq => by rw [f1 q (by omega) (by omega) (by omega), Go q (by omega) (by omega) (by omega) (by omega) (by omega) (by omega)]
    obtain ⟨e1, e2, e3, e4, e5, e6⟩ := hI.2.1
    obtain ⟨z1, z2, z3, z4, z5, z6⟩ := hI.2.2.1
    have mid : Inv L xs (fun p => if p = 70 ∨ p = 80 ∨ p = 83 then gf p else h p) := by
      refine inv_tape2 hI (fun p hp => if_neg (by omega)) ?_ (Tp_0 ?_ ?_)
      · show (if (80 : Nat) = 70 ∨ (80 : Nat) = 80 ∨ (80 : Nat) = 83 then gf 80 else h 80) 22 = _
        rw [if_pos (by decide)]; exact g80.2
      · show (if (70 : Nat) = 70 ∨ (70 : Nat) = 80 ∨ (70 : Nat) = 83 then gf 70 else h 70) 1 = _
        rw [if_pos (by decide)]; exact g70
      · show (if (80 : Nat) = 70 ∨ (80 : Nat) = 80 ∨ (80 : Nat) = 83 then gf 80 else h 80) 2 = _
        rw [if_pos (by decide)]; exact g80.1
    refine ⟨r, G, gf, qs, fun p hp => by rw [Go p (by omega) (by omega) (by omega) (by omega) (by omega) (by omega)]; exact hS p hp, qm, inv_room mid (fun p hp => ?_) ⟨?_, ?_⟩ ?_ ⟨RS_c (fa _ (by decide)) (fun j j1 j2 => rowo j (by omega)) e1, RN_c (fa _ (by decide)) (fun j j1 j2 => rowo j (by omega)) e2, RP_c (fa _ (by decide)) (fun j j1 j2 => rowo j (by omega)) e3, RG_c z4.1.2 (by rw [fa _ (by decide)]) (fa _ (by decide)) (fa _ (by decide)) (fa _ (by decide)) (fa _ (by decide)) (fun j hj => rowo j (by omega)) e4, ?_, RW_c z6.1.2 (by rw [fa _ (by decide)]) (fa _ (by decide)) (fa _ (by decide)) (fun j j1 j2 => rowo j (by omega)) e6⟩ ⟨ZS_c (fun j j1 j2 => rowo j (by omega)) z1, ZN_c (fun j j1 j2 => rowo j (by omega)) z2, ZP_c (fun j j1 j2 => rowo j (by omega)) z3, ZG_c (fun j hj => rowo j (by omega)) z4, ?_, ZW_c (fun j hj => rowo j (by omega)) z6⟩ (Dr_congr (by rw [fa 24 (by decide)]) (by rw [fa 24 (by decide)]) (fa _ (by decide)) (fa _ (by decide)) hI.2.2.2.2.2.2.2)⟩
    · by_cases e : p = 70 ∨ p = 80 ∨ p = 83
      · exact (if_pos e).symm
      · rw [fa p (by omega)]; exact (if_neg e).symm
    · rfl
    · rfl
    · rw [f1 1 (by decide) (by decide) (by decide), ← hG, up_s]
    · refine ⟨?_, fun a a0 a6 => ?_⟩
      · show gf 16 2 = gf 81 25
        rw [r25, f1 16 (by decide) (by decide) (by decide), ← hG, up_n _ _ _ (by decide), up_s]
      · obtain ⟨x, x1, x2, x3⟩ := c2.2 a a0 a6
        have g17 : gf (11 + 6) a = (x : Int) := by
          show gf 17 a = _
          rw [f1 17 (by decide) (by decide) (by decide), ← hG, up_n _ _ _ (by decide), up_n _ _ _ (by decide), x17 a a0 a6, x1]
        rw [g17]
        refine ⟨by omega, by omega, fun b b0 b6 => ?_⟩
        obtain ⟨bn, rfl⟩ : ∃ bn : Nat, b = bn := ⟨b.toNat, by omega⟩
        rw [bit_n (by omega) (by omega), r25]
        have key : (∃ k, 0 ≤ k ∧ k < r ∧ P (2 * k) = a ∧ P (2 * k + 1) = bn) ↔ ∃ k, 0 ≤ k ∧ k < r ∧ gf 81 (26 + 2 * k) = a ∧ gf 81 (27 + 2 * k) = bn := by
          constructor
          · rintro ⟨k, k0, k1', k2', k3'⟩
            exact ⟨k, k0, k1', by rw [row, if_neg (by omega), if_pos (by omega), show 26 + 2 * k - 26 = 2 * k by omega]; exact k2', by rw [row, if_neg (by omega), if_pos (by omega), show 27 + 2 * k - 26 = 2 * k + 1 by omega]; exact k3'⟩
          · rintro ⟨k, k0, k1', k2', k3'⟩
            rw [row, if_neg (by omega), if_pos (by omega), show 26 + 2 * k - 26 = 2 * k by omega] at k2'
            rw [row, if_neg (by omega), if_pos (by omega), show 27 + 2 * k - 26 = 2 * k + 1 by omega] at k3'
            exact ⟨k, k0, k1', k2', k3'⟩
        rw [← key, ← x3 bn (by omega)]
        by_cases tb : x.testBit bn = true
        · rw [if_pos tb]; exact ⟨fun _ => tb, fun _ => rfl⟩
        · rw [if_neg tb]; exact ⟨fun z => absurd z (by decide), fun z => absurd z tb⟩
    · refine ⟨by rw [r25]; omega, fun k k0 k1' => ?_⟩
      rw [r25] at k1'
      have q1 := c3 (2 * k) (by omega) (by omega)
      have q2 := c3 (2 * k + 1) (by omega) (by omega)
      rw [row (26 + 2 * k), row (27 + 2 * k), if_neg (by omega), if_pos (by omega), if_neg (by omega), if_pos (by omega), show 26 + 2 * k - 26 = 2 * k by omega, show 27 + 2 * k - 26 = 2 * k + 1 by omega]
      exact ⟨q1, q2⟩
