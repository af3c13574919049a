/-! word -/
theorem s_wadd {d : Nat} (hd : d = 24 ∨ d = 50 ∨ d = 66) {a1 a2 : Int} {h : Hp} (h0 : 0 ≤ h d 2) (h1 : h d 2 < 12) : X (121, 0, [aR d, aI a1, aI a2], [], h) = some (none, up (up (up (up h (d + 1) (h d 2) a1) (d + 2) (h d 2) a2) d 2 (h d 2 + 1)) d 3 (-1)) := by
  rw [e121_0 hd]
  have n1 : ∀ g x k, up g (d + 1) k x d = g d := fun g x k => up_n _ _ _ (by omega)
  have n2 : ∀ g x k, up g (d + 2) k x d = g d := fun g x k => up_n _ _ _ (by omega)
  have e : wr (h d 2) = h d 2 := wr_id (by omega) (by omega)
  have i : inb 12 (h d 2) = true := inb_t h0 h1 (by omega)
  simp only [n1, n2, e, i, cond_t]
  rw [cd_f (by omega)]
theorem case_23 (L : Nat) (xs : Nat → Int32) : Cs_23 L xs := by
  intro h hI a1 a2 r1 r2
  have hS := hI.1
  have e1 : wr a1 = a1 := wr_id r1.1 r1.2
  have e2 : wr a2 = a2 := wr_id r2.1 r2.2
  have hn : h 19 4 = h 81 24 := hI.2.1.2.2.2.1.1
  have hw : h 24 2 = h 81 42 := hI.2.1.2.2.2.2.2.1
  have hb := hI.2.2.1.2.2.2.1.1
  have hwb := hI.2.2.1.2.2.2.2.2.1
  have q1 : X (23, 0, [aR 0, aI a1, aI a2], [], h) = if (0 ≤ a1 ∧ a1 < h 81 24) ∧ (0 ≤ a2 ∧ a2 < h 81 24) ∧ a1 ≠ a2 then (if h 81 42 < 12 then some (some (h 81 42), up (up (up (up h 25 (h 81 42) a1) 26 (h 81 42) a2) 24 2 (h 81 42 + 1)) 24 3 (-1)) else some (some (-3), h)) else some (some (-1), h) := by
    rw [e23_0, hn, s_below a1 _ (by omega), bI_some, d_bi0, e1]
    by_cases p1 : 0 ≤ a1 ∧ a1 < h 81 24
    · rw [decide_eq_true p1, Bool.not_true, cond_f, hn, s_below a2 _ (by omega), bI_some, d_bi0, e2]
      by_cases p2 : 0 ≤ a2 ∧ a2 < h 81 24
      · rw [decide_eq_true p2, Bool.not_true, cond_f]
        by_cases p3 : a1 ≠ a2
        · rw [cd_t p3, if_pos ⟨p1, p2, p3⟩, wr_id (by omega) (by omega), hw]
          by_cases p4 : h 81 42 < 12
          · rw [cd_t p4, if_pos p4, s_wadd (Or.inl rfl) (by omega) (by omega), bV_some, hw]
            have z : up (up (up (up h (24 + 1) (h 81 42) a1) (24 + 2) (h 81 42) a2) 24 2 (h 81 42 + 1)) 24 3 (-1) 24 2 - 1 = h 81 42 := by
              rw [up_o _ _ _ (by decide), up_s]; omega
            rw [z]
          · rw [cd_f p4, if_neg p4]
        · rw [cd_f p3, if_neg (fun z => p3 z.2.2)]
      · rw [decide_eq_false p2, Bool.not_false, cond_t, if_neg (fun z => p2 z.2.1)]
    · rw [decide_eq_false p1, Bool.not_false, cond_t, if_neg (fun z => p1 z.1)]
  have q2 : ∀ g : Hp, g 81 = h 81 → X (102, 0, [aR 80, aI a1, aI a2], [], g) = if (0 ≤ a1 ∧ a1 < h 81 24) ∧ (0 ≤ a2 ∧ a2 < h 81 24) ∧ a1 ≠ a2 then (if h 81 42 < 12 then some (some (h 81 42), up (up (up g 81 (43 + 2 * h 81 42) a1) 81 (44 + 2 * h 81 42) a2) 81 42 (h 81 42 + 1)) else some (some (-3), g)) else some (some (-1), g) := by
    intro g hg
    rw [e102_0, m_isPerson a1 (by rw [hg]; exact hb), bI_some, d_bi0, e1, hg]
    by_cases p1 : 0 ≤ a1 ∧ a1 < h 81 24
    · rw [decide_eq_true p1, Bool.not_true, cond_f, m_isPerson a2 (by rw [hg]; exact hb), bI_some, d_bi0, e2, hg]
      by_cases p2 : 0 ≤ a2 ∧ a2 < h 81 24
      · rw [decide_eq_true p2, Bool.not_true, cond_f]
        by_cases p3 : a1 ≠ a2
        · rw [cd_t p3, if_pos ⟨p1, p2, p3⟩]
          by_cases p4 : h 81 42 < 12
          · have w1 : wr (43 + 2 * h 81 42) = 43 + 2 * h 81 42 := wr_id (by omega) (by omega)
            have o1 : up g 81 (43 + 2 * h 81 42) a1 81 42 = h 81 42 := by rw [up_o _ _ _ (by omega), hg]
            have w2 : wr (43 + 2 * h 81 42 + 1) = 44 + 2 * h 81 42 := by rw [wr_id (by omega) (by omega)]; omega
            have o2 : up (up g 81 (43 + 2 * h 81 42) a1) 81 (44 + 2 * h 81 42) a2 81 42 = h 81 42 := by rw [up_o _ _ _ (by omega), o1]
            rw [wr_id (x := h 81 42) (by omega) (by omega), cd_t (by omega), if_pos p4, w1, o1, w2, o2, inb_t (by omega) (by omega) (by omega), inb_t (by omega) (by omega) (by omega), cond_t, cond_t, up_s]
            rw [show h 81 42 + 1 - 1 = h 81 42 by omega]
          · rw [wr_id (x := h 81 42) (by omega) (by omega), cd_f (by omega), if_neg p4]
        · rw [cd_f p3, if_neg (fun z => p3 z.2.2)]
      · rw [decide_eq_false p2, Bool.not_false, cond_t, if_neg (fun z => p2 z.2.1)]
    · rw [decide_eq_false p1, Bool.not_false, cond_t, if_neg (fun z => p1 z.1)]
  by_cases p : (0 ≤ a1 ∧ a1 < h 81 24) ∧ (0 ≤ a2 ∧ a2 < h 81 24) ∧ a1 ≠ a2
  · by_cases p4 : h 81 42 < 12
    · have o1 : up (up (up (up h 25 (h 81 42) a1) 26 (h 81 42) a2) 24 2 (h 81 42 + 1)) 24 3 (-1) 81 = h 81 := by
        rw [up_n _ _ _ (by decide), up_n _ _ _ (by decide), up_n _ _ _ (by decide), up_n _ _ _ (by decide)]
      refine ⟨_, _, _, q1.trans (by rw [if_pos p, if_pos p4]), fun z hz => ?_, (q2 _ o1).trans (by rw [if_pos p, if_pos p4]), ?_⟩
      · rw [up_n _ _ _ (by omega), up_n _ _ _ (by omega), up_n _ _ _ (by omega), up_n _ _ _ (by omega)]; exact hS z hz
      · generalize hg : up (up (up (up (up (up (up h 25 (h 81 42) a1) 26 (h 81 42) a2) 24 2 (h 81 42 + 1)) 24 3 (-1)) 81 (43 + 2 * h 81 42) a1) 81 (44 + 2 * h 81 42) a2) 81 42 (h 81 42 + 1) = g
        have f : ∀ p, p ≠ 24 → p ≠ 25 → p ≠ 26 → p ≠ 81 → g p = h p := fun p n1 n2 n3 n4 => by
          rw [← hg, up_n _ _ _ n4, up_n _ _ _ n4, up_n _ _ _ n4, up_n _ _ _ n1, up_n _ _ _ n1, up_n _ _ _ n3, up_n _ _ _ n2]
        have g42 : g 81 42 = h 81 42 + 1 := by rw [← hg, up_s]
        have f81 : ∀ j, j ≠ 42 → j ≠ 43 + 2 * h 81 42 → j ≠ 44 + 2 * h 81 42 → g 81 j = h 81 j := fun j j1 j2 j3 => by
          rw [← hg, up_o _ _ _ j1, up_o _ _ _ j3, up_o _ _ _ j2, o1]
        have ga : g 81 (43 + 2 * h 81 42) = a1 := by rw [← hg, up_o _ _ _ (by omega), up_o _ _ _ (by omega), up_s]
        have gb : g 81 (44 + 2 * h 81 42) = a2 := by rw [← hg, up_o _ _ _ (by omega), up_s]
        have g2 : g 24 2 = h 81 42 + 1 := by
          rw [← hg, up_n _ _ _ (by decide), up_n _ _ _ (by decide), up_n _ _ _ (by decide), up_o _ _ _ (by decide), up_s]
        have g3 : g 24 3 = -1 := by
          rw [← hg, up_n _ _ _ (by decide), up_n _ _ _ (by decide), up_n _ _ _ (by decide), up_s]
        have h25 : ∀ j, g 25 j = if j = h 81 42 then a1 else h 25 j := fun j => by
          rw [← hg, up_n _ _ _ (by decide), up_n _ _ _ (by decide), up_n _ _ _ (by decide), up_n _ _ _ (by decide), up_n _ _ _ (by decide), up_n _ _ _ (by decide)]
          unfold up
          simp
        have h26 : ∀ j, g 26 j = if j = h 81 42 then a2 else h 26 j := fun j => by
          rw [← hg, up_n _ _ _ (by decide), up_n _ _ _ (by decide), up_n _ _ _ (by decide), up_n _ _ _ (by decide), up_n _ _ _ (by decide)]
          unfold up
          simp
        refine inv_words hI f (fun j hj => f81 j (by omega) (by omega) (by omega)) ⟨⟨?_, fun w w1 w2 => ?_⟩, ⟨?_, fun w w1 w2 => ?_⟩⟩ (Or.inl g3)
        · rw [g42]; exact g2
        · rw [g42] at w2
          show g 25 w = _ ∧ g 26 w = _
          rw [h25, h26]
          by_cases hw : w = h 81 42
          · rw [if_pos hw, if_pos hw, hw, ga, gb]; exact ⟨rfl, rfl⟩
          · rw [if_neg hw, if_neg hw, f81 _ (by omega) (by omega) (by omega), f81 _ (by omega) (by omega) (by omega)]
            exact hI.2.1.2.2.2.2.2.2 w w1 (by omega)
        · rw [g42]; omega
        · rw [g42] at w2
          rw [f81 24 (by omega) (by omega) (by omega)]
          by_cases hw : w = h 81 42
          · rw [hw, ga, gb]; exact ⟨p.1, p.2.1, p.2.2⟩
          · rw [f81 (43 + 2 * w) (by omega) (by omega) (by omega), f81 (44 + 2 * w) (by omega) (by omega) (by omega)]
            exact hI.2.2.1.2.2.2.2.2.2 w w1 (by omega)
    · exact ⟨-3, h, h, q1.trans (by rw [if_pos p, if_neg p4]), hS, (q2 h rfl).trans (by rw [if_pos p, if_neg p4]), hI⟩
  · exact ⟨-1, h, h, q1.trans (by rw [if_neg p]), hS, (q2 h rfl).trans (by rw [if_neg p]), hI⟩
