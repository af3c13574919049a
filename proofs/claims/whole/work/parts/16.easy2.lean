/-! cut, price, told, count, hush, before the rest -/
theorem inv_shop {L : Nat} {xs : Nat → Int32} {h g : Hp} (hI : Inv L xs h) (f : ∀ p, p ≠ 13 → p ≠ 14 → p ≠ 15 → p ≠ 1 → p ≠ 81 → g p = h p) (hst : g 1 15 = 1) (f81 : ∀ j, 24 ≤ j → g 81 j = h 81 j) (hs : RS 11 81 g ∧ ZS 81 g) (hn : RN 11 81 g ∧ ZN 81 g) (hp : RP 11 81 g ∧ ZP 81 g) : Inv L xs g := by
  have hZ := hI.2.2.1
  obtain ⟨c1, c2, c3, c4, c5, c6⟩ := hI.2.1
  obtain ⟨d1, d2, d3, d4, d5, d6⟩ := hI.2.2.1
  have k : ∀ p, 16 ≤ p → p ≠ 81 → g p = h p := fun p q1 q2 => f p (by omega) (by omega) (by omega) (by omega) q2
  refine inv_room hI (fun p hp => f p (by omega) (by omega) (by omega) (by omega) (by omega)) ⟨by rw [k 80 (by decide) (by decide)], by rw [k 80 (by decide) (by decide)]⟩ hst ?_ ?_ ?_
  · exact ⟨hs.1, hn.1, hp.1, RG_c d4.1.2 (by rw [k _ (by decide) (by decide)]) (k _ (by decide) (by decide)) (k _ (by decide) (by decide)) (k _ (by decide) (by decide)) (k _ (by decide) (by decide)) (fun j hj => f81 j (by omega)) c4, RH_c d5.1.2 (by rw [k _ (by decide) (by decide)]) (k _ (by decide) (by decide)) (fun j j1 j2 => f81 j (by omega)) c5, RW_c d6.1.2 (by rw [k _ (by decide) (by decide)]) (k _ (by decide) (by decide)) (k _ (by decide) (by decide)) (fun j j1 j2 => f81 j (by omega)) c6⟩
  · exact ⟨hs.2, hn.2, hp.2, ZG_c (fun j hj => f81 j (by omega)) d4, ZH_c (fun j j1 j2 => f81 j (by omega)) d5, ZW_c (fun j hj => f81 j (by omega)) d6⟩
  · exact Dr_congr (by rw [k 24 (by decide) (by decide)]) (by rw [k 24 (by decide) (by decide)]) (k _ (by decide) (by decide)) (k _ (by decide) (by decide)) hI.2.2.2.2.2.2.2
theorem s_cut {h : Hp} {a1 a2 a3 : Int} (r1 : Rg a1) (r2 : Rg a2) (r3 : Rg a3) : X (1, 0, [aR 0, aI a1, aI a2, aI a3, aN, aN], [], h) = if (0 ≤ a1 ∧ a1 < 3) ∧ (0 ≤ a2 ∧ a2 < 4) ∧ 1 ≤ a3 ∧ a3 ≤ 60 then some (some (h 14 (a1 * 4 + a2)), up (up h 14 (a1 * 4 + a2) a3) 1 15 1) else some (some (-1), h) := by
  have e1 : wr a1 = a1 := wr_id r1.1 r1.2
  have e2 : wr a2 = a2 := wr_id r2.1 r2.2
  have e3 : wr a3 = a3 := wr_id r3.1 r3.2
  rw [e1_0, s_isBelow, bI_some, d_bi0]
  unfold ib
  rw [show wr 3 = 3 by decide, e1, e3]
  by_cases h1 : 0 ≤ a1 ∧ a1 < 3
  · rw [decide_eq_true h1, Bool.not_true, cond_f, s_isBelow, bI_some, d_bi0]
    unfold ib
    rw [show wr 4 = 4 by decide, e2]
    by_cases h2 : 0 ≤ a2 ∧ a2 < 4
    · rw [decide_eq_true h2, Bool.not_true, cond_f, wr_id (x := a1 * 4 + a2) (by omega) (by omega), inb_t (n := 12) (i := a1 * 4 + a2) (by omega) (by omega) (by omega), cond_t, cond_t]
      by_cases h3 : a3 < 1
      · rw [cd_t h3, if_neg (by omega)]
      · rw [cd_f h3]
        by_cases h4 : a3 ≤ 60
        · rw [cd_t h4, if_pos ⟨h1, h2, by omega, h4⟩]
        · rw [cd_f h4, if_neg (by omega)]
    · rw [decide_eq_false h2, Bool.not_false, cond_t, if_neg (by omega)]
  · rw [decide_eq_false h1, Bool.not_false, cond_t, if_neg (by omega)]
theorem m_cut {h : Hp} {a1 a2 a3 : Int} (r1 : Rg a1) (r2 : Rg a2) (r3 : Rg a3) : X (44, 0, [aR 80, aI a1, aI a2, aI a3, aN], [], h) = if (0 ≤ a1 ∧ a1 < 3) ∧ (0 ≤ a2 ∧ a2 < 4) ∧ 1 ≤ a3 ∧ a3 ≤ 60 then some (some (h 81 (8 + 4 * a1 + a2)), up h 81 (8 + 4 * a1 + a2) a3) else some (some (-1), h) := by
  have e1 : wr a1 = a1 := wr_id r1.1 r1.2
  have e2 : wr a2 = a2 := wr_id r2.1 r2.2
  have e3 : wr a3 = a3 := wr_id r3.1 r3.2
  rw [e44_0, s_inw h (by omega) (by omega), bI_some, d_bi0, e1]
  unfold iin
  by_cases h1 : 0 ≤ a1 ∧ a1 ≤ 2
  · rw [decide_eq_true h1, Bool.not_true, cond_f, s_inw h (by omega) (by omega), bI_some, d_bi0, e2]
    unfold iin
    by_cases h2 : 0 ≤ a2 ∧ a2 ≤ 3
    · rw [decide_eq_true h2, Bool.not_true, cond_f, s_inw h (by omega) (by omega), bI_some, d_bi1, e3]
      unfold iin
      by_cases h3 : 1 ≤ a3 ∧ a3 ≤ 60
      · rw [decide_eq_true h3, cond_t, wr_id (x := 8 + 4 * a1 + a2) (by omega) (by omega), inb_t (n := 115) (i := 8 + 4 * a1 + a2) (by omega) (by omega) (by omega), cond_t, cond_t, if_pos ⟨⟨h1.1, by omega⟩, ⟨h2.1, by omega⟩, h3⟩]
      · rw [decide_eq_false h3, cond_f, if_neg (by omega)]
    · rw [decide_eq_false h2, Bool.not_false, cond_t, if_neg (by omega)]
  · rw [decide_eq_false h1, Bool.not_false, cond_t, if_neg (by omega)]
theorem case_1 (L : Nat) (xs : Nat → Int32) : Cs_1 L xs := by
  intro h hI a1 a2 a3 r1 r2 r3
  have hS := hI.1
  by_cases ok : (0 ≤ a1 ∧ a1 < 3) ∧ (0 ≤ a2 ∧ a2 < 4) ∧ 1 ≤ a3 ∧ a3 ≤ 60
  · refine ⟨h 14 (a1 * 4 + a2), up (up h 14 (a1 * 4 + a2) a3) 1 15 1, up (up (up h 14 (a1 * 4 + a2) a3) 1 15 1) 81 (8 + 4 * a1 + a2) a3, ?_, ?_, ?_, ?_⟩
    · show X (1, 0, [aR 0, aI a1, aI a2, aI a3, aN, aN], [], h) = _
      rw [s_cut r1 r2 r3, if_pos ok]
    · intro p hp
      rw [up_n _ _ _ (by omega), up_n _ _ _ (by omega)]; exact hS p hp
    · show X (44, 0, [aR 80, aI a1, aI a2, aI a3, aN], [], _) = _
      rw [m_cut r1 r2 r3, if_pos ok, up_n _ _ _ (by decide), up_n _ _ _ (by decide)]
      rw [show h 81 (8 + 4 * a1 + a2) = h 14 (a1 * 4 + a2) from by
        have := hI.2.1.2.1 (a1 * 4 + a2) (by omega) (by omega)
        rw [show (8 : Int) + (a1 * 4 + a2) = 8 + 4 * a1 + a2 by omega] at this
        exact this.symm]
    · obtain ⟨c1, c2, c3, c4, c5, c6⟩ := hI.2.1
      obtain ⟨d1, d2, d3, d4, d5, d6⟩ := hI.2.2.1
      have f : ∀ p, p ≠ 13 → p ≠ 14 → p ≠ 15 → p ≠ 1 → p ≠ 81 → up (up (up h 14 (a1 * 4 + a2) a3) 1 15 1) 81 (8 + 4 * a1 + a2) a3 p = h p := fun p _ n1 _ n2 n3 => by
        rw [up_n _ _ _ n3, up_n _ _ _ n2, up_n _ _ _ n1]
      have f13 : ∀ p, p = 13 ∨ p = 15 → up (up (up h 14 (a1 * 4 + a2) a3) 1 15 1) 81 (8 + 4 * a1 + a2) a3 p = h p := fun p hp => by
        rw [up_n _ _ _ (by omega), up_n _ _ _ (by omega), up_n _ _ _ (by omega)]
      have f81 : ∀ j, j ≠ 8 + 4 * a1 + a2 → up (up (up h 14 (a1 * 4 + a2) a3) 1 15 1) 81 (8 + 4 * a1 + a2) a3 81 j = h 81 j := fun j hj => by
        rw [up_o _ _ _ hj, up_n _ _ _ (by decide), up_n _ _ _ (by decide)]
      have f14 : ∀ j, j ≠ a1 * 4 + a2 → up (up (up h 14 (a1 * 4 + a2) a3) 1 15 1) 81 (8 + 4 * a1 + a2) a3 14 j = h 14 j := fun j hj => by
        rw [up_n _ _ _ (by decide), up_n _ _ _ (by decide), up_o _ _ _ hj]
      have g81 : up (up (up h 14 (a1 * 4 + a2) a3) 1 15 1) 81 (8 + 4 * a1 + a2) a3 81 (8 + 4 * a1 + a2) = a3 := up_s _ _ _ _
      have g14 : up (up (up h 14 (a1 * 4 + a2) a3) 1 15 1) 81 (8 + 4 * a1 + a2) a3 14 (a1 * 4 + a2) = a3 := by
        rw [up_n _ _ _ (by decide), up_n _ _ _ (by decide), up_s]
      refine inv_shop hI f (by rw [up_n _ _ _ (by decide), up_s]) (fun j hj => f81 j (by omega)) ⟨RS_c (f13 _ (Or.inl rfl)) (fun j j1 j2 => f81 j (by omega)) c1, ZS_c (fun j j1 j2 => f81 j (by omega)) d1⟩ ⟨fun k k1 k2 => ?_, fun k k1 k2 => ?_⟩ ⟨RP_c (f13 _ (Or.inr rfl)) (fun j j1 j2 => f81 j (by omega)) c3, ZP_c (fun j j1 j2 => f81 j (by omega)) d3⟩
      · by_cases hk : k = a1 * 4 + a2
        · rw [hk, show (8 : Int) + (a1 * 4 + a2) = 8 + 4 * a1 + a2 by omega, g81, show 11 + 3 = 14 from rfl, g14]
        · rw [f81 (8 + k) (by omega), show 11 + 3 = 14 from rfl, f14 k hk]; exact c2 k k1 k2
      · by_cases hk : k = a1 * 4 + a2
        · rw [hk, show (8 : Int) + (a1 * 4 + a2) = 8 + 4 * a1 + a2 by omega, g81]; exact ok.2.2
        · rw [f81 (8 + k) (by omega)]; exact d2 k k1 k2
  · refine ⟨-1, h, h, ?_, hS, ?_, hI⟩
    · show X (1, 0, [aR 0, aI a1, aI a2, aI a3, aN, aN], [], h) = _
      rw [s_cut r1 r2 r3, if_neg ok]
    · show X (44, 0, [aR 80, aI a1, aI a2, aI a3, aN], [], _) = _
      rw [m_cut r1 r2 r3, if_neg ok]
theorem s_price {h : Hp} {a1 a2 : Int} (r1 : Rg a1) (r2 : Rg a2) : X (2, 0, [aR 0, aI a1, aI a2, aN], [], h) = if (0 ≤ a1 ∧ a1 < 4) ∧ 0 ≤ a2 ∧ a2 ≤ 99 then some (some (h 15 a1), up (up h 15 a1 a2) 1 15 1) else some (some (-1), h) := by
  have e1 : wr a1 = a1 := wr_id r1.1 r1.2
  have e2 : wr a2 = a2 := wr_id r2.1 r2.2
  rw [e2_0, s_isBelow, bI_some, d_bi0]
  unfold ib
  rw [show wr 4 = 4 by decide, e1, e2]
  by_cases h1 : 0 ≤ a1 ∧ a1 < 4
  · rw [decide_eq_true h1, Bool.not_true, cond_f, inb_t (n := 4) (i := a1) h1.1 h1.2 (by omega), cond_t, cond_t]
    by_cases h3 : a2 < 0
    · rw [cd_t h3, if_neg (by omega)]
    · rw [cd_f h3]
      by_cases h4 : a2 ≤ 99
      · rw [cd_t h4, if_pos ⟨h1, by omega, h4⟩]
      · rw [cd_f h4, if_neg (by omega)]
  · rw [decide_eq_false h1, Bool.not_false, cond_t, if_neg (by omega)]
theorem m_price {h : Hp} {a1 a2 : Int} (r1 : Rg a1) (r2 : Rg a2) : X (45, 0, [aR 80, aI a1, aI a2, aN], [], h) = if (0 ≤ a1 ∧ a1 < 4) ∧ 0 ≤ a2 ∧ a2 ≤ 99 then some (some (h 81 (20 + a1)), up h 81 (20 + a1) a2) else some (some (-1), h) := by
  have e1 : wr a1 = a1 := wr_id r1.1 r1.2
  have e2 : wr a2 = a2 := wr_id r2.1 r2.2
  rw [e45_0, s_inw h (by omega) (by omega), bI_some, d_bi0, e1]
  unfold iin
  by_cases h1 : 0 ≤ a1 ∧ a1 ≤ 3
  · rw [decide_eq_true h1, Bool.not_true, cond_f, s_inw h (by omega) (by omega), bI_some, d_bi1, e2]
    unfold iin
    by_cases h3 : 0 ≤ a2 ∧ a2 ≤ 99
    · rw [decide_eq_true h3, cond_t, wr_id (x := 20 + a1) (by omega) (by omega), inb_t (n := 115) (i := 20 + a1) (by omega) (by omega) (by omega), cond_t, cond_t, if_pos ⟨⟨h1.1, by omega⟩, h3⟩]
    · rw [decide_eq_false h3, cond_f, if_neg (by omega)]
  · rw [decide_eq_false h1, Bool.not_false, cond_t, if_neg (by omega)]
theorem case_2 (L : Nat) (xs : Nat → Int32) : Cs_2 L xs := by
  intro h hI a1 a2 r1 r2
  have hS := hI.1
  by_cases ok : (0 ≤ a1 ∧ a1 < 4) ∧ 0 ≤ a2 ∧ a2 ≤ 99
  · refine ⟨h 15 a1, up (up h 15 a1 a2) 1 15 1, up (up (up h 15 a1 a2) 1 15 1) 81 (20 + a1) a2, ?_, ?_, ?_, ?_⟩
    · show X (2, 0, [aR 0, aI a1, aI a2, aN], [], h) = _
      rw [s_price r1 r2, if_pos ok]
    · intro p hp
      rw [up_n _ _ _ (by omega), up_n _ _ _ (by omega)]; exact hS p hp
    · show X (45, 0, [aR 80, aI a1, aI a2, aN], [], _) = _
      rw [m_price r1 r2, if_pos ok, up_n _ _ _ (by decide), up_n _ _ _ (by decide)]
      rw [show h 81 (20 + a1) = h 15 a1 from (hI.2.1.2.2.1 a1 ok.1.1 ok.1.2).symm]
    · obtain ⟨c1, c2, c3, c4, c5, c6⟩ := hI.2.1
      obtain ⟨d1, d2, d3, d4, d5, d6⟩ := hI.2.2.1
      have f : ∀ p, p ≠ 13 → p ≠ 14 → p ≠ 15 → p ≠ 1 → p ≠ 81 → up (up (up h 15 a1 a2) 1 15 1) 81 (20 + a1) a2 p = h p := fun p _ _ n1 n2 n3 => by
        rw [up_n _ _ _ n3, up_n _ _ _ n2, up_n _ _ _ n1]
      have f13 : ∀ p, p = 13 ∨ p = 14 → up (up (up h 15 a1 a2) 1 15 1) 81 (20 + a1) a2 p = h p := fun p hp => by
        rw [up_n _ _ _ (by omega), up_n _ _ _ (by omega), up_n _ _ _ (by omega)]
      have f81 : ∀ j, j ≠ 20 + a1 → up (up (up h 15 a1 a2) 1 15 1) 81 (20 + a1) a2 81 j = h 81 j := fun j hj => by
        rw [up_o _ _ _ hj, up_n _ _ _ (by decide), up_n _ _ _ (by decide)]
      have f15 : ∀ j, j ≠ a1 → up (up (up h 15 a1 a2) 1 15 1) 81 (20 + a1) a2 15 j = h 15 j := fun j hj => by
        rw [up_n _ _ _ (by decide), up_n _ _ _ (by decide), up_o _ _ _ hj]
      have g81 : up (up (up h 15 a1 a2) 1 15 1) 81 (20 + a1) a2 81 (20 + a1) = a2 := up_s _ _ _ _
      have g15 : up (up (up h 15 a1 a2) 1 15 1) 81 (20 + a1) a2 15 a1 = a2 := by
        rw [up_n _ _ _ (by decide), up_n _ _ _ (by decide), up_s]
      refine inv_shop hI f (by rw [up_n _ _ _ (by decide), up_s]) (fun j hj => f81 j (by omega)) ⟨RS_c (f13 _ (Or.inl rfl)) (fun j j1 j2 => f81 j (by omega)) c1, ZS_c (fun j j1 j2 => f81 j (by omega)) d1⟩ ⟨RN_c (f13 _ (Or.inr rfl)) (fun j j1 j2 => f81 j (by omega)) c2, ZN_c (fun j j1 j2 => f81 j (by omega)) d2⟩ ⟨fun k k1 k2 => ?_, fun k k1 k2 => ?_⟩
      · by_cases hk : k = a1
        · rw [hk, g81, show 11 + 4 = 15 from rfl, g15]
        · rw [f81 (20 + k) (by omega), show 11 + 4 = 15 from rfl, f15 k hk]; exact c3 k k1 k2
      · by_cases hk : k = a1
        · rw [hk, g81]; exact ok.2
        · rw [f81 (20 + k) (by omega)]; exact d3 k k1 k2
  · refine ⟨-1, h, h, ?_, hS, ?_, hI⟩
    · show X (2, 0, [aR 0, aI a1, aI a2, aN], [], h) = _
      rw [s_price r1 r2, if_neg ok]
    · show X (45, 0, [aR 80, aI a1, aI a2, aN], [], _) = _
      rw [m_price r1 r2, if_neg ok]
theorem m_isPerson {h : Hp} (a1 : Int) (hb : 0 ≤ h 81 24 ∧ h 81 24 ≤ 12) : X (49, 0, [aR 80, aI a1], [], h) = some (some (bi (decide (0 ≤ wr a1 ∧ wr a1 < h 81 24))), h) := by
  rw [e49_0, wr_id (x := h 81 24 - 1) (by omega) (by omega), s_inw h (by omega) (by omega), bI_some, bz_bi, cond_t]
  unfold iin
  congr 4
  exact decide_eq_decide.mpr ⟨fun z => ⟨z.1, by omega⟩, fun z => ⟨z.1, by omega⟩⟩
theorem s_below {h : Hp} (a1 n : Int) (hb : 0 ≤ n ∧ n ≤ 1000) : X (35, 0, [aI a1, aI n], [], h) = some (some (bi (decide (0 ≤ wr a1 ∧ wr a1 < n))), h) := by
  rw [s_isBelow]
  unfold ib
  rw [wr_id (x := n) (by omega) (by omega)]
theorem m_of {h : Hp} {a1 a2 : Int} (h1 : 0 ≤ a1) (h2 : a1 < 12) (h3 : 0 ≤ a2) (h4 : a2 < 4) : X (50, 0, [aR 80, aI a1, aI a2], [], h) = some (some (h 81 (67 + 4 * a1 + a2)), h) := by
  rw [e50_0, inb_t (by omega) (by omega) (by omega), cond_t, wr_id (by omega) (by omega)]
theorem case_4 (L : Nat) (xs : Nat → Int32) : Cs_4 L xs := by
  intro h hI a1 a2 r1 r2
  have hS := hI.1
  obtain ⟨c1, c2, c3, c4, c5, c6⟩ := hI.2.1
  obtain ⟨d1, d2, d3, d4, d5, d6⟩ := hI.2.2.1
  have e1 : wr a1 = a1 := wr_id r1.1 r1.2
  have e2 : wr a2 = a2 := wr_id r2.1 r2.2
  have hn : h 19 4 = h 81 24 := c4.1
  have hb := d4.1
  have key : ∃ r, X (4, 0, [aR 0, aI a1, aI a2], [], h) = some (some r, h) ∧ X (53, 0, [aR 80, aI a1, aI a2], [], h) = some (some r, h) := by
    rw [e4_0, e53_0, hn, s_below a1 _ (by omega), bI_some, d_bi1, m_isPerson a1 hb, bI_some, d_bi0, e1]
    by_cases h1 : 0 ≤ a1 ∧ a1 < h 81 24
    · rw [decide_eq_true h1, cond_t, Bool.not_true, cond_f, s_inw h (by omega) (by omega), bI_some, d_bi0, e2]
      unfold iin
      have i1 : inb 12 a1 = true := inb_t h1.1 (by omega) (by omega)
      obtain ⟨y0, y1, y2, y3⟩ := c4.2 a1 h1.1 h1.2
      rw [i1, cond_t, cond_t, cond_t, cond_t]
      by_cases h2 : 0 ≤ a2 ∧ a2 ≤ 3
      · rw [decide_eq_true h2, Bool.not_true, cond_f, m_of h1.1 (by omega) h2.1 (by omega), bI_some]
        refine ⟨h 81 (67 + 4 * a1 + a2), ?_, rfl⟩
        by_cases g0 : a2 = 0
        · rw [cd_t g0, g0, show (67 : Int) + 4 * a1 + 0 = 67 + 4 * a1 by omega, ← y0]
        rw [cd_f g0]
        by_cases g1 : a2 = 1
        · rw [cd_t g1, g1, show (67 : Int) + 4 * a1 + 1 = 68 + 4 * a1 by omega, ← y1]
        rw [cd_f g1]
        by_cases g2 : a2 = 2
        · rw [cd_t g2, g2, show (67 : Int) + 4 * a1 + 2 = 69 + 4 * a1 by omega, ← y2]
        rw [cd_f g2]
        have g3 : a2 = 3 := by omega
        rw [cd_t g3, g3, show (67 : Int) + 4 * a1 + 3 = 70 + 4 * a1 by omega, ← y3]
      · rw [decide_eq_false h2, Bool.not_false, cond_t, cd_f (by omega), cd_f (by omega), cd_f (by omega), cd_f (by omega)]
        exact ⟨-1, rfl, rfl⟩
    · rw [decide_eq_false h1, cond_f, Bool.not_false, cond_t]
      exact ⟨-1, rfl, rfl⟩
  obtain ⟨r, k1, k2⟩ := key
  exact ⟨r, h, h, k1, hS, k2, hI⟩
theorem case_11 (L : Nat) (xs : Nat → Int32) : Cs_11 L xs := by
  intro h hI a1 r1
  have hS := hI.1
  obtain ⟨c1, c2, c3, c4, c5, c6⟩ := hI.2.1
  have e1 : wr a1 = a1 := wr_id r1.1 r1.2
  have key : ∃ r, X (11, 0, [aR 0, aI a1], [], h) = some (some r, h) ∧ X (68, 0, [aR 80, aI a1], [], h) = some (some r, h) := by
    rw [e11_0, e68_0, e1]
    by_cases g0 : a1 = 0
    · rw [cd_t g0, cd_f (by omega)]; exact ⟨_, rfl, by rw [show h 19 4 = h 81 24 from c4.1]⟩
    rw [cd_f g0, cd_t g0]
    by_cases g1 : a1 = 1
    · rw [cd_t g1, cd_f (by omega)]; exact ⟨_, rfl, by rw [show h 16 2 = h 81 25 from c5.1]⟩
    rw [cd_f g1, cd_t g1]
    by_cases g2 : a1 = 2
    · rw [cd_t g2, cd_f (by omega)]; exact ⟨_, rfl, by rw [show h 24 2 = h 81 42 from c6.1]⟩
    rw [cd_f g2, cd_t g2]
    exact ⟨_, rfl, rfl⟩
  obtain ⟨r, k1, k2⟩ := key
  exact ⟨r, h, h, k1, hS, k2, hI⟩
/-- a change of WORDS alone -/
theorem inv_words {L : Nat} {xs : Nat → Int32} {h g : Hp} (hI : Inv L xs h) (f : ∀ p, p ≠ 24 → p ≠ 25 → p ≠ 26 → p ≠ 81 → g p = h p) (f81 : ∀ j, (j < 42 ∨ 67 ≤ j) → g 81 j = h 81 j) (hw : RW 11 81 g ∧ ZW 81 g) (hD : Dr 24 g) : Inv L xs g := by
  obtain ⟨q1, ⟨c1, c2, c3, c4, c5, c6⟩, ⟨d1, d2, d3, d4, d5, d6⟩, q4, q5, q6, q7, q8⟩ := hI
  have k : ∀ p, p < 24 ∨ 27 ≤ p → p ≠ 81 → g p = h p := fun p y1 y2 => f p (by omega) (by omega) (by omega) y2
  refine ⟨fun p hp => by rw [k p (by omega) (by omega)]; exact q1 p hp, ⟨RS_c (k _ (by decide) (by decide)) (fun j j1 j2 => f81 j (by omega)) c1, RN_c (k _ (by decide) (by decide)) (fun j j1 j2 => f81 j (by omega)) c2, RP_c (k _ (by decide) (by decide)) (fun j j1 j2 => f81 j (by omega)) c3, RG_c d4.1.2 (by rw [k _ (by decide) (by decide)]) (k _ (by decide) (by decide)) (k _ (by decide) (by decide)) (k _ (by decide) (by decide)) (k _ (by decide) (by decide)) (fun j hj => f81 j (by omega)) c4, RH_c d5.1.2 (by rw [k _ (by decide) (by decide)]) (k _ (by decide) (by decide)) (fun j j1 j2 => f81 j (by omega)) c5, hw.1⟩, ⟨ZS_c (fun j j1 j2 => f81 j (by omega)) d1, ZN_c (fun j j1 j2 => f81 j (by omega)) d2, ZP_c (fun j j1 j2 => f81 j (by omega)) d3, ZG_c (fun j hj => f81 j (by omega)) d4, ZH_c (fun j j1 j2 => f81 j (by omega)) d5, hw.2⟩, Kp_congr (by rw [k 0 (by decide) (by decide)]) (by rw [k 80 (by decide) (by decide)]) (fun p h1 h2 => k p (by omega) (by omega)) (k 94 (by decide) (by decide)) q4, Tp_congr (by rw [k 70 (by decide) (by decide)]) (by rw [k 80 (by decide) (by decide)]) (k 71 (by decide) (by decide)) (k 82 (by decide) (by decide)) q5, Sh_congr (fun p hp => k p (by omega) (by omega)) q6, ?_, hD⟩
  rw [k 1 (by decide) (by decide)]
  exact q7.imp (fun ⟨y1, y2⟩ => ⟨y1, Fd_congr (fun p hp => k p (by omega) (by omega)) (by rw [k 1 (by decide) (by decide)]) y2⟩) id
theorem case_24 (L : Nat) (xs : Nat → Int32) : Cs_24 L xs := by
  intro h hI
  have hS := hI.1
  refine ⟨h 24 2, up (up h 24 2 0) 24 3 0, up (up (up h 24 2 0) 24 3 0) 81 42 0, ?_, ?_, ?_, ?_⟩
  · show X (24, 0, [aR 0, aN], [], h) = _
    rw [e24_0, e122_0 (Or.inl rfl), bV_some]
  · intro p hp
    rw [up_n _ _ _ (by omega), up_n _ _ _ (by omega)]; exact hS p hp
  · show X (103, 0, [aR 80, aN], [], _) = _
    rw [e103_0, up_n _ _ _ (by decide), up_n _ _ _ (by decide), show h 24 2 = h 81 42 from hI.2.1.2.2.2.2.2.1]
  · have g42 : up (up (up h 24 2 0) 24 3 0) 81 42 0 81 42 = 0 := up_s _ _ _ _
    have g2 : up (up (up h 24 2 0) 24 3 0) 81 42 0 24 2 = 0 := by rw [up_n _ _ _ (by decide), up_o _ _ _ (by decide), up_s]
    have g3 : up (up (up h 24 2 0) 24 3 0) 81 42 0 24 3 = 0 := by rw [up_n _ _ _ (by decide), up_s]
    refine inv_words hI (fun p n1 n2 n3 n4 => by rw [up_n _ _ _ n4, up_n _ _ _ n1, up_n _ _ _ n1]) (fun j hj => by rw [up_o _ _ _ (by omega), up_n _ _ _ (by decide), up_n _ _ _ (by decide)]) ⟨⟨?_, fun w w1 w2 => ?_⟩, ⟨?_, fun w w1 w2 => ?_⟩⟩ (Or.inr (Or.inl ⟨g2, g3⟩))
    · show up (up (up h 24 2 0) 24 3 0) 81 42 0 24 2 = _
      rw [g2, g42]
    · rw [g42] at w2; omega
    · rw [g42]; omega
    · rw [g42] at w2; omega
