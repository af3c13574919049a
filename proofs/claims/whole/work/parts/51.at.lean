/-! at -/
theorem at_eqv {Z : Int → Int} {gt gm : Hp} {t p : Int} (hZ : ZD Z) (O : Mo (fun i => i) (Z 24) Z gm) (Ot : Mo (fun i => i) (Z 24) Z gt) (A : Arr Z gt (t + 1) 0) (B : Bn Z (t + 1) gt) (Lt : Ltr Z (t + 1) gt gm) (W : ∀ p, 0 ≤ p → p < Z 24 → gm 85 p = wfin Z gm p) (t0 : 0 ≤ t ∧ t < 240) (p0 : 0 ≤ p) (p1 : p < Z 24) : (gt 84 p = 4 ↔ gm 84 p ≠ 1 ∧ 0 ≤ t - zmn Z p ∧ t - zmn Z p < gm 85 p) ∧ (gt 84 p = 3 ↔ gm 84 p = 3 ∧ gm 86 p ≤ t) ∧ (gt 84 p = 3 → gt 86 p = gm 86 p ∧ gt 87 p = gm 87 p ∧ gt 88 p = gm 88 p) := by
  obtain ⟨l1, l2, l3⟩ := Lt p p0 p1
  obtain ⟨b1, b2⟩ := B p p0 p1
  obtain ⟨f, o3, o2, o4, -⟩ := O.1 p p0 p1
  obtain ⟨ft, -⟩ := Ot.1 p p0 p1
  have a := A p p0 p1
  have r := (zd_row hZ p0 p1).1
  have w := W p p0 p1
  unfold wfin at w
  by_cases c4 : gt 84 p = 4
  · have a := a (by omega)
    rcases l2 c4 with g4 | ⟨g2, g3⟩ | ⟨g2, g3⟩
    · rw [if_neg (by omega), if_neg (by omega), if_pos g4] at w
      exact ⟨⟨fun _ => by omega, fun _ => c4⟩, ⟨fun z => by omega, fun z => by omega⟩, fun z => by omega⟩
    · rw [if_neg (by omega), if_pos g2] at w
      exact ⟨⟨fun _ => by omega, fun _ => c4⟩, ⟨fun z => by omega, fun z => by omega⟩, fun z => by omega⟩
    · rw [if_pos g2] at w
      exact ⟨⟨fun _ => by omega, fun _ => c4⟩, ⟨fun z => by omega, fun z => by omega⟩, fun z => by omega⟩
  · by_cases c0 : gt 84 p = 0
    · have key : ¬ (gm 84 p ≠ 1 ∧ 0 ≤ t - zmn Z p ∧ t - zmn Z p < gm 85 p) ∧ ¬ (gm 84 p = 3 ∧ gm 86 p ≤ t) := by
        rcases l3 c0 with g0 | g0
        · rw [if_neg (by omega), if_neg (by omega), if_neg (by omega)] at w
          exact ⟨by omega, by omega⟩
        · refine ⟨by omega, fun z => ?_⟩
          have := o3 z.1
          omega
      exact ⟨⟨fun z => absurd z c4, fun z => absurd z key.1⟩, ⟨fun z => by omega, fun z => absurd z key.2⟩, fun z => by omega⟩
    · obtain ⟨x1, x2, x3, x4, x5⟩ := l1 ⟨c0, c4⟩
      have key : ¬ (gm 84 p ≠ 1 ∧ 0 ≤ t - zmn Z p ∧ t - zmn Z p < gm 85 p) := by
        by_cases c3 : gt 84 p = 3
        · have b2 := b2 c3
          rw [if_pos (by omega)] at w
          omega
        · by_cases c2 : gt 84 p = 2
          · have b1 := b1 c2
            rw [if_neg (by omega), if_pos (by omega)] at w
            omega
          · omega
      refine ⟨⟨fun z => absurd z c4, fun z => absurd z key⟩, ⟨fun z => ?_, fun z => by omega⟩, fun z => ⟨x2.symm, x3.symm, x4.symm⟩⟩
      have b2 := b2 z
      omega
theorem s_waitAt {Z : Int → Int} {g gm : Hp} {t p : Int} {ft : Int → Int} (hZ : ZD Z) (D : Dat 1 (fun i => i) (Z 24) Z 0 (Z 7) (Z 5) g) (t0 : 0 ≤ t ∧ t < 240) (p0 : 0 ≤ p) (p1 : p < Z 24) (e1 : g 2 p = gm 84 p) (e2 : g 3 p = gm 85 p) (f : 0 ≤ gm 84 p ∧ gm 84 p ≤ 4) (w : 0 ≤ gm 85 p ∧ gm 85 p ≤ 240) (q : ft p = 4 ↔ gm 84 p ≠ 1 ∧ 0 ≤ t - zmn Z p ∧ t - zmn Z p < gm 85 p) : X (151, 0, [aR 1, aI p, aI t, aN], [], g) = some (some (bi (decide (ft p = 4))), g) := by
  have hn := zd_n hZ
  have r := (zd_row hZ p0 p1).1
  have em : g (1 + 19) p = zmn Z p := (D.2.2.1 p p0 p1).2.1
  have i1 : inb 12 p = true := inb_t p0 (by omega) (by omega)
  rw [e151_0 (Or.inl rfl), i1, show g (1 + 1) (wr p) = gm 84 p by rw [wr_id (by omega) (by omega)]; exact e1, show g (1 + 2) (wr p) = gm 85 p by rw [wr_id (by omega) (by omega)]; exact e2, wr_id (x := p) (by omega) (by omega), em, wr_id (x := t - zmn Z p) (by omega) (by omega), wr_id (x := gm 84 p) (by omega) (by omega), wr_id (x := gm 85 p) (by omega) (by omega)]
  simp only [cond_t]
  by_cases c1 : gm 84 p = 1
  · rw [cd_t c1, decide_eq_false (fun z => (q.mp z).1 c1)]; rfl
  rw [cd_f c1]
  by_cases c2 : t - zmn Z p < 0
  · rw [cd_t c2, decide_eq_false (fun z => by have := (q.mp z).2.1; omega)]; rfl
  rw [cd_f c2]
  by_cases c3 : gm 85 p ≤ t - zmn Z p
  · rw [cd_t c3, decide_eq_false (fun z => by have := (q.mp z).2.2; omega)]; rfl
  rw [cd_f c3, decide_eq_true (q.mpr ⟨c1, by omega, by omega⟩)]; rfl
theorem s_waitAtL {N t : Int} {ft : Int → Int} {g : Hp} (hn : 0 ≤ N ∧ N ≤ 12) (h4 : g 19 4 = N) (H : ∀ p, 0 ≤ p → p < N → X (151, 0, [aR 1, aI p, aI t, aN], [], g) = some (some (bi (decide (ft p = 4))), g)) : ∀ (k q : Nat), (q : Int) + k = N → X (152, 4, [aR 1, aI t, aI (sm (fun p => if ft p = 4 then 1 else 0) q), aI q], [], g) = some (some (sm (fun p => if ft p = 4 then 1 else 0) (q + k)), g)
  | 0, q, hk => by
    rw [e152_4 (Or.inl rfl), show g (1 + 18) 4 = N from h4, wr_id (x := N) (by omega) (by omega), wr_id (x := (q : Int)) (by omega) (by omega), cd_t (by omega)]; rfl
  | k + 1, q, hk => by
    have ih := s_waitAtL hn h4 H k (q + 1) (by omega)
    have es : sm (fun p => if ft p = 4 then 1 else 0) (q + 1) = sm (fun p => if ft p = 4 then 1 else 0) q + (if ft q = 4 then 1 else 0) := rfl
    rw [show q + 1 + k = q + (k + 1) by omega, es, show ((q + 1 : Nat) : Int) = (q : Int) + 1 by omega] at ih
    rw [e152_4 (Or.inl rfl), show g (1 + 18) 4 = N from h4, wr_id (x := N) (by omega) (by omega), wr_id (x := (q : Int)) (by omega) (by omega), cd_f (by omega), H q (by omega) (by omega), bI_some, d_bi0]
    by_cases c : ft (q : Int) = 4
    · rw [if_pos c] at ih
      rw [decide_eq_true c, Bool.not_true, cond_f]; exact ih
    · rw [if_neg c] at ih
      rw [decide_eq_false c, Bool.not_false, cond_t]; exact ih
def sat (Z : Int → Int) (ft : Int → Int) (t p : Int) : Int := if ft p = 4 ∧ zOut Z 0 p t = false then zSz Z p else 0
theorem s_seatL {Z : Int → Int} {t : Int} {ft : Int → Int} {g : Hp} (hZ : ZD Z) (D : Dat 1 (fun i => i) (Z 24) Z 0 (Z 7) (Z 5) g) (t0 : 0 ≤ t ∧ t < 240) (h6 : ∀ p, 0 ≤ p → p < Z 24 → g 7 p = zSz Z p) (H : ∀ p, 0 ≤ p → p < Z 24 → X (151, 0, [aR 1, aI p, aI t, aN], [], g) = some (some (bi (decide (ft p = 4))), g)) : ∀ (k q : Nat), (q : Int) + k = Z 24 → X (153, 4, [aR 1, aI t, aI (sm (sat Z ft t) q), aI q], [], g) = some (some (sm (sat Z ft t) (q + k)), g)
  | 0, q, hk => by
    have hn := zd_n hZ
    rw [e153_4 (Or.inl rfl), D.2.1, wr_id (x := Z 24) (by omega) (by omega), wr_id (x := (q : Int)) (by omega) (by omega), cd_t (by omega)]; rfl
  | k + 1, q, hk => by
    have hn := zd_n hZ
    have ih := s_seatL hZ D t0 h6 H k (q + 1) (by omega)
    have es : sm (sat Z ft t) (q + 1) = sm (sat Z ft t) q + sat Z ft t q := rfl
    rw [show q + 1 + k = q + (k + 1) by omega, es, show ((q + 1 : Nat) : Int) = (q : Int) + 1 by omega] at ih
    have so := s_isOut (d := 1) (Or.inl rfl) hZ D (i := (q : Int)) (m := t) (by omega) (by omega) t0
    rw [e153_4 (Or.inl rfl), D.2.1, wr_id (x := Z 24) (by omega) (by omega), wr_id (x := (q : Int)) (by omega) (by omega), cd_f (by omega), H q (by omega) (by omega), bI_some, d_bi0, so, bI_some, d_bi1, inb_t (by omega) (by omega) (by omega), cond_t, show g (1 + 6) (q : Int) = zSz Z q from h6 q (by omega) (by omega)]
    unfold sat at ih ⊢
    by_cases c : ft (q : Int) = 4
    · rw [decide_eq_true c, Bool.not_true, cond_f]
      cases z : zOut Z 0 (q : Int) t
      · rw [if_pos ⟨c, z⟩] at ih
        rw [cond_f]; exact ih
      · rw [if_neg (by rw [z]; exact fun y => absurd y.2 (by decide))] at ih
        rw [cond_t]; exact ih
    · rw [if_neg (fun y => c y.1)] at ih
      rw [decide_eq_false c, Bool.not_false, cond_t]; exact ih
def lst (f : Int → Bool) : Nat → Int
  | 0 => -4
  | k + 1 => cond (f k) k (lst f k)
theorem lst_0 {f : Int → Bool} : ∀ k : Nat, (∀ p : Int, 0 ≤ p → p < k → f p = false) → lst f k = -4
  | 0, _ => rfl
  | k + 1, h => by
    show cond (f k) (k : Int) (lst f k) = -4
    rw [h k (by omega) (by omega), cond_f]
    exact lst_0 k (fun p a b => h p a (by omega))
theorem lst_u {f : Int → Bool} {q : Int} (hq : f q = true) (q0 : 0 ≤ q) : ∀ k : Nat, q < k → (∀ p : Int, 0 ≤ p → p < k → f p = true → p = q) → lst f k = q
  | 0, a, _ => by omega
  | k + 1, a, h => by
    show cond (f k) (k : Int) (lst f k) = q
    by_cases c : q = k
    · rw [← c, hq, cond_t]
    · have z : f k = false := by
        cases e : f k
        · rfl
        · exact absurd (h k (by omega) (by omega) e) (fun y => c y.symm)
      rw [z, cond_f]
      exact lst_u hq q0 k (by omega) (fun p a b => h p a (by omega))
def und' (gt : Hp) (c t p : Int) : Bool := decide (gt 84 p = 3 ∧ gt 87 p = c ∧ t < gt 86 p + gt 88 p)
theorem s_underL {N c t : Int} {g gt gm : Hp} (hn : 0 ≤ N ∧ N ≤ 12) (c0 : 0 ≤ c ∧ c < 3) (t0 : 0 ≤ t ∧ t < 240) (h4 : g 19 4 = N) (H : ∀ p, 0 ≤ p → p < N → g 5 p = gm 87 p ∧ g 4 p = gm 86 p ∧ (gm 84 p = 3 → g 6 p = gm 88 p) ∧ (-4 ≤ gm 87 p ∧ gm 87 p ≤ 2) ∧ (-4 ≤ gm 86 p ∧ gm 86 p < 240) ∧ (0 ≤ gm 87 p → gm 84 p = 3 ∧ 1 ≤ gm 88 p ∧ gm 88 p ≤ 260) ∧ (gt 84 p = 3 ↔ gm 84 p = 3 ∧ gm 86 p ≤ t) ∧ (gt 84 p = 3 → gt 86 p = gm 86 p ∧ gt 87 p = gm 87 p ∧ gt 88 p = gm 88 p)) (hu : ∀ p q, 0 ≤ p → p < N → 0 ≤ q → q < N → und' gt c t p = true → und' gt c t q = true → p = q) : ∀ (k q : Nat) (w : AV), (q : Int) + k = N → (∀ p : Int, 0 ≤ p → p < q → und' gt c t p = false) → X (154, 2, [aR 1, aI c, aI t, aI q, w], [], g) = some (some (lst (und' gt c t) N.toNat), g)
  | 0, q, w, hk, hf => by
    rw [e154_2 (Or.inl rfl), show g (1 + 18) 4 = N from h4, wr_id (x := N) (by omega) (by omega), wr_id (x := (q : Int)) (by omega) (by omega), cd_t (by omega), lst_0 _ (fun p a b => hf p a (by omega))]
  | k + 1, q, w, hk, hf => by
    obtain ⟨a1, a2, a3, a4, a5, a6, a7, a8⟩ := H q (by omega) (by omega)
    have ih := fun w (z : und' gt c t q = false) => s_underL hn c0 t0 h4 H hu k (q + 1) w (by omega) (fun p p0 p1 => by
      by_cases e : p = q
      · rw [e]; exact z
      · exact hf p p0 (by omega))
    rw [show ((q + 1 : Nat) : Int) = (q : Int) + 1 by omega] at ih
    rw [e154_2 (Or.inl rfl), show g (1 + 18) 4 = N from h4, wr_id (x := N) (by omega) (by omega), wr_id (x := (q : Int)) (by omega) (by omega), cd_f (by omega), inb_t (by omega) (by omega) (by omega), show g (1 + 4) (q : Int) = gm 87 q from a1, show g (1 + 3) (q : Int) = gm 86 q from a2, wr_id (x := gm 87 (q : Int)) (by omega) (by omega), wr_id (x := c) (by omega) (by omega), wr_id (x := t - gm 86 (q : Int)) (by omega) (by omega)]
    simp only [cond_t]
    by_cases c1 : gm 87 (q : Int) ≠ c
    · rw [cd_t c1]
      refine ih _ (decide_eq_false (fun z => c1 ?_))
      rw [← (a8 z.1).2.1]; exact z.2.1
    · have c1 : gm 87 (q : Int) = c := by omega
      have a6 := a6 (by omega)
      rw [cd_f (by omega)]
      by_cases c2 : t - gm 86 (q : Int) < 0
      · rw [cd_t c2]
        refine ih _ (decide_eq_false (fun z => ?_))
        have := a7.mp z.1
        omega
      · have z3 := a7.mpr ⟨a6.1, by omega⟩
        have a8 := a8 z3
        rw [cd_f c2, show g (1 + 5) (q : Int) = gm 88 q from a3 a6.1, wr_id (x := gm 88 (q : Int)) (by omega) (by omega)]
        by_cases c3 : gm 88 (q : Int) ≤ t - gm 86 (q : Int)
        · rw [cd_t c3]
          refine ih _ (decide_eq_false (fun z => ?_))
          omega
        · rw [cd_f c3]
          have yes : und' gt c t q = true := decide_eq_true ⟨z3, by omega, by omega⟩
          rw [lst_u yes (by omega) _ (by omega) (fun p p0 p1 z => hu p q p0 (by omega) (by omega) (by omega) z yes)]
theorem m_atL {Z : Int → Int} {v1 v2 : Int} {h : Hp} (hZ : ZD Z) (h81 : h 81 = Z) (h8 : h 80 8 = 0) (t0 : 0 ≤ v1 ∧ v1 < 240) (b2 : 0 ≤ v2 ∧ v2 ≤ 4) (O : Mo (fun i => i) (Z 24) Z h) : ∀ (k q : Nat) (v4 : Int), (q : Int) + k = Z 24 → v4 = lst (und' h (v2 - 2) v1) q → X (90, 44, [aR 80, aI v1, aI v2, aI (if v2 = 1 then sm (sat Z (h 84) v1) q else 0), aI v4, aI q], [], h) = X (90, 44, [aR 80, aI v1, aI v2, aI (if v2 = 1 then sm (sat Z (h 84) v1) (q + k) else 0), aI (lst (und' h (v2 - 2) v1) (q + k)), aI (Z 24)], [], h)
  | 0, q, v4, hk, e4 => by
    have e : (q : Int) = Z 24 := by omega
    rw [e4, e]; rfl
  | k + 1, q, v4, hk, e4 => by
    have hn := zd_n hZ
    have ih := m_atL hZ h81 h8 t0 b2 O k (q + 1) _ (by omega) rfl
    have es : sm (sat Z (h 84) v1) (q + 1) = sm (sat Z (h 84) v1) q + sat Z (h 84) v1 q := rfl
    have el : lst (und' h (v2 - 2) v1) (q + 1) = cond (und' h (v2 - 2) v1 q) (q : Int) (lst (und' h (v2 - 2) v1) q) := rfl
    rw [show q + 1 + k = q + (k + 1) by omega, es, el, show ((q + 1 : Nat) : Int) = (q : Int) + 1 by omega] at ih
    rw [← ih, e4]
    obtain ⟨f, o3, o2, o4, -⟩ := O.1 q (by omega) (by omega)
    have rz := (zd_row hZ (p := (q : Int)) (by omega) (by omega)).1
    have i1 : inb 12 (q : Int) = true := inb_t (by omega) (by omega) (by omega)
    have mo := m_isOut (h := h) (by rw [h81]; exact hZ) (p := (q : Int)) (m := v1) (by omega) (by rw [h81]; omega) (Or.inl h8) t0
    rw [h81, h8] at mo
    have ms := m_sizeOf (h := h) (by rw [h81]; exact hZ) (p := (q : Int)) (by omega) (by rw [h81]; omega)
    rw [h81] at ms
    have tail : ∀ x : Int, cond (decide (wr (h 84 (wr (q : Int))) ≠ 3)) (X (90, 44, [aR 80, aI v1, aI v2, aI x, aI (lst (und' h (v2 - 2) v1) q), aI ((q : Int) + 1)], [], h)) (cond (inb 12 (q : Int)) (cond (decide (wr (h 87 (wr (q : Int))) ≠ wr (v2 - 2))) (X (90, 44, [aR 80, aI v1, aI v2, aI x, aI (lst (und' h (v2 - 2) v1) q), aI ((q : Int) + 1)], [], h)) (cond (inb 12 (q : Int)) (cond (inb 12 (q : Int)) (cond (decide (wr (h 86 (wr (q : Int)) + h 88 (wr (q : Int))) ≤ wr v1)) (X (90, 44, [aR 80, aI v1, aI v2, aI x, aI (lst (und' h (v2 - 2) v1) q), aI ((q : Int) + 1)], [], h)) (X (90, 44, [aR 80, aI v1, aI v2, aI x, aI (q : Int), aI ((q : Int) + 1)], [], h))) none) none)) none) = X (90, 44, [aR 80, aI v1, aI v2, aI x, aI (cond (und' h (v2 - 2) v1 q) (q : Int) (lst (und' h (v2 - 2) v1) q)), aI ((q : Int) + 1)], [], h) := by
      intro x
      rw [i1, wr_id (x := (q : Int)) (by omega) (by omega), wr_id (x := h 84 (q : Int)) (by omega) (by omega), wr_id (x := v2 - 2) (by omega) (by omega), wr_id (x := v1) (by omega) (by omega)]
      simp only [cond_t]
      unfold und'
      by_cases c3 : h 84 (q : Int) ≠ 3
      · rw [cd_t c3, cd_f (fun z => c3 z.1)]
      · have c3 : h 84 (q : Int) = 3 := by omega
        have o3 := o3 c3
        rw [cd_f (by omega), wr_id (x := h 87 (q : Int)) (by omega) (by omega), wr_id (x := h 86 (q : Int) + h 88 (q : Int)) (by omega) (by omega)]
        by_cases c1 : h 87 (q : Int) ≠ v2 - 2
        · rw [cd_t c1, cd_f (fun z => c1 z.2.1)]
        · rw [cd_f c1]
          by_cases c2 : h 86 (q : Int) + h 88 (q : Int) ≤ v1
          · rw [cd_t c2, cd_f (fun z => by omega)]
          · rw [cd_f c2, cd_t ⟨c3, by omega, by omega⟩]
    rw [e90_44 v1 v2 _ _ (q : Int), h81, wr_id (x := Z 24) (by omega) (by omega), wr_id (x := v2) (by omega) (by omega)]
    rw [show decide (Z 24 ≤ wr (q : Int)) = false from decide_eq_false (by rw [wr_id (by omega) (by omega)]; omega), cond_f]
    have t0' := tail ((if v2 = 1 then sm (sat Z (h 84) v1) q else 0) + 0)
    rw [Int.add_zero] at t0'
    by_cases e1 : v2 = 1
    · rw [cd_f (by omega), i1, cond_t]
      rw [if_pos e1] at t0' ⊢
      rw [if_pos e1]
      unfold sat
      by_cases c4 : h 84 (q : Int) = 4
      · rw [cd_f (show ¬ wr (h 84 (wr (q : Int))) ≠ 4 by rw [wr_id (x := (q : Int)) (by omega) (by omega), wr_id (x := h 84 (q : Int)) (by omega) (by omega)]; omega), mo, bI_some, d_bi1, ms, bI_some]
        cases z : zOut Z 0 (q : Int) v1
        · rw [cond_f, if_pos ⟨c4, rfl⟩]
          have tt := tail (sm (sat Z (h 84) v1) q + zSz Z q)
          rw [i1] at tt
          simp only [cond_t] at tt ⊢
          exact tt
        · rw [cond_t, if_neg (fun y => absurd y.2 (by decide)), Int.add_zero]
          rw [i1] at t0'
          simp only [cond_t] at t0' ⊢
          exact t0'
      · rw [cd_t (show wr (h 84 (wr (q : Int))) ≠ 4 by rw [wr_id (x := (q : Int)) (by omega) (by omega), wr_id (x := h 84 (q : Int)) (by omega) (by omega)]; exact c4), if_neg (fun y => c4 y.1), Int.add_zero]
        rw [i1] at t0'
        simp only [cond_t] at t0' ⊢
        exact t0'
    · rw [cd_t e1, i1, cond_t]
      rw [if_neg e1] at t0' ⊢
      rw [if_neg e1]
      rw [i1] at t0'
      simp only [cond_t] at t0' ⊢
      rw [Int.add_zero]
      exact t0'
theorem case_13 (L : Nat) (xs : Nat → Int32) : Cs_13 L xs := by
  intro h hI a1 a2 r1 r2
  have hS := hI.1
  have e1 : wr a1 = a1 := wr_id r1.1 r1.2
  have e2 : wr a2 = a2 := wr_id r2.1 r2.2
  have qs := e13_0 a1 a2 h
  rw [s_below a1 240 (by omega), bI_some, d_bi1, e1, e2] at qs
  by_cases p1 : 0 ≤ a1 ∧ a1 < 240
  · obtain ⟨g, t1, t2, t3, t4⟩ := today hI
    have g81 : g 81 = h 81 := t2 81 (by omega)
    rw [← g81] at t4
    have hZ : ZD (g 81) := zd_of t3.2.2.1
    have hn := zd_n hZ
    have D := Dat_of (d := 1) t3.2.1 t3.2.2.1
    obtain ⟨gm, m1, m2, m3, m4⟩ := t4 g rfl
    obtain ⟨gt, k1, k2, k3, k4, k5⟩ := m4 a1 p1.1 p1.2
    have B := (day_cov (Or.inl rfl) (sta_told hZ) p1 (tol_MP g) D k1).2
    have sG : Sm L xs g := fun p hp => by rw [t2 p (by omega)]; exact hS p hp
    rw [decide_eq_true p1, cond_t, t1, bV_some] at qs
    have eq := fun p p0 p1' => at_eqv (p := p) hZ m3.2.2.1 k3 k4 B k5 m3.2.2.2.1 p1 p0 p1'
    have H : ∀ p, 0 ≤ p → p < g 81 24 → X (151, 0, [aR 1, aI p, aI a1, aN], [], g) = some (some (bi (decide (gt 84 p = 4))), g) := fun p p0 p1' => s_waitAt hZ D p1 p0 p1' (m3.1 p p0 p1').1 (m3.1 p p0 p1').2.1 (m3.2.2.1.1 p p0 p1').1 (by rw [m3.2.2.2.1 p p0 p1']; exact wfin_r hZ m3.2.2.1 p0 p1') (eq p p0 p1').1
    have t81 : gt 81 = g 81 := by rw [k2.1 81 (by omega), tol_o g (by decide)]
    have tm := MP_fr k2 (tol_MP g)
    by_cases p2 : 0 ≤ a2 ∧ a2 ≤ 4
    · have qm := e90_0 a1 a2 g
      rw [s_inw g (by omega) (by omega), bI_some, d_bi0, e1, show iin a1 0 239 = true from decide_eq_true (by omega), Bool.not_true, cond_f, s_inw g (by omega) (by omega), bI_some, d_bi1, e2, show iin a2 0 4 = true from decide_eq_true p2, cond_t, m_asTold, bV_some, k1, bV_some] at qm
      have mL := m_atL (v1 := a1) (v2 := a2) hZ t81 tm.2.1 p1 p2 k3 (g 81 24).toNat 0 (-4) (by omega) rfl
      rw [Nat.zero_add] at mL
      have mL : X (90, 44, [aR 80, aI a1, aI a2, aI (if a2 = 1 then 0 else 0), aI (-4), aI 0], [], gt) = _ := mL
      rw [show (if a2 = 1 then (0 : Int) else 0) = 0 by split <;> rfl] at mL
      rw [mL, e90_44, t81, cd_t (by omega), e2] at qm
      by_cases c0 : a2 = 0
      · have mw := (m_waiting (h := gt) (m := a1) (by rw [t81]; exact hZ) p1 (fun p p0 p1' => by
          rw [t81] at p1' ⊢
          refine ⟨(k3.1 p p0 p1').1, fun z => ?_⟩
          rcases k4 p p0 p1' (by omega) with b | b <;> omega)).1
        rw [t81] at mw
        rw [cd_f (by omega), mw, bI_some] at qm
        have w := s_waitAtL (N := g 81 24) (ft := gt 84) (t := a1) hn D.2.1 H (g 81 24).toNat 0 (by omega)
        rw [Nat.zero_add] at w
        have w : X (152, 4, [aR 1, aI a1, aI 0, aI 0], [], g) = some (some (cnt (g 81) (gt 84)), g) := w
        rw [cd_t c0, e152_0 (Or.inl rfl), w, bI_some] at qs
        exact ⟨_, g, gt, qs, sG, qm, inv_told t3 k2⟩
      rw [cd_f c0] at qs
      rw [cd_t c0] at qm
      by_cases c1 : a2 = 1
      · rw [cd_f (by omega), if_pos c1] at qm
        have w := s_seatL (ft := gt 84) (t := a1) hZ D p1 (fun p p0 p1' => (m3.1 p p0 p1').2.2.2.2.1) H (g 81 24).toNat 0 (by omega)
        rw [Nat.zero_add] at w
        have w : X (153, 4, [aR 1, aI a1, aI 0, aI 0], [], g) = _ := w
        rw [cd_t c1, e153_0 (Or.inl rfl), w, bI_some] at qs
        exact ⟨_, g, gt, qs, sG, qm, inv_told t3 k2⟩
      rw [cd_f c1] at qs
      rw [cd_t c1] at qm
      have hu : ∀ p q, 0 ≤ p → p < g 81 24 → 0 ≤ q → q < g 81 24 → und' gt (a2 - 2) a1 p = true → und' gt (a2 - 2) a1 q = true → p = q := fun p q p0 p1' q0 q1 zp zq => by
        have zp := of_decide_eq_true zp
        have zq := of_decide_eq_true zq
        apply Classical.byContradiction
        intro ne
        have bp := (B p p0 p1').2 zp.1
        have bq := (B q q0 q1).2 zq.1
        have := k3.2 p q p0 p1' q0 q1 ne zp.1 zq.1 (by omega)
        omega
      have w := s_underL (N := g 81 24) (c := a2 - 2) (t := a1) (g := g) (gt := gt) (gm := gm) hn (by omega) p1 D.2.1 (fun p p0 p1' => by
        obtain ⟨x1, x2, x3, x4, x5, x6⟩ := m3.1 p p0 p1'
        obtain ⟨f, o3, o2, o4, -⟩ := m3.2.2.1.1 p p0 p1'
        obtain ⟨y1, y2, y3⟩ := eq p p0 p1'
        refine ⟨x4, x3, x6, ?_, ?_, fun z => ?_, y2, y3⟩
        · by_cases c : gm 84 p = 3
          · have := o3 c; omega
          · have := o4 c; omega
        · by_cases c : gm 84 p = 3
          · have := o3 c; have := (zd_row hZ p0 p1').1; omega
          · have := o4 c; omega
        · by_cases c : gm 84 p = 3
          · have := o3 c; exact ⟨c, by omega, by omega⟩
          · have := o4 c; omega) hu (g 81 24).toNat 0 aN (by omega) (fun p p0 p1' => by omega)
      have w : X (154, 2, [aR 1, aI (a2 - 2), aI a1, aI 0, aN], [], g) = _ := w
      have w2 : X (154, 0, [aR 1, aI (a2 - 2), aI a1, aN, aN], [], g) = _ := (e154_0 (Or.inl rfl) (a2 - 2) a1 g).trans w
      rw [w2, bI_some] at qs
      by_cases c2 : a2 = 2
      · rw [cd_t c2] at qs
        exact ⟨_, g, gt, qs, sG, qm, inv_told t3 k2⟩
      rw [cd_f c2] at qs
      by_cases c3 : a2 = 3
      · rw [cd_t c3] at qs
        exact ⟨_, g, gt, qs, sG, qm, inv_told t3 k2⟩
      rw [cd_f c3, cd_t (by omega)] at qs
      exact ⟨_, g, gt, qs, sG, qm, inv_told t3 k2⟩
    · have qm := e90_0 a1 a2 g
      rw [s_inw g (by omega) (by omega), bI_some, d_bi0, e1, show iin a1 0 239 = true from decide_eq_true (by omega), Bool.not_true, cond_f, s_inw g (by omega) (by omega), bI_some, d_bi1, e2, show iin a2 0 4 = false from decide_eq_false p2, cond_f] at qm
      rw [cd_f (by omega), cd_f (by omega), cd_f (by omega), cd_f (by omega), cd_f (by omega)] at qs
      exact ⟨-1, g, g, qs, sG, qm, t3⟩
  · rw [decide_eq_false p1, cond_f] at qs
    have qm := e90_0 a1 a2 h
    rw [s_inw h (by omega) (by omega), bI_some, d_bi0, e1, show iin a1 0 239 = false from decide_eq_false (by omega), Bool.not_false, cond_t] at qm
    exact ⟨-1, h, h, qs, hS, qm, hI⟩
