/-! who is next, the class -/
theorem zWF_4 {Z : Int → Int} {pl : Int} {fate : Int → Int} {p c m : Int} (h : zWF Z pl fate p c m = true) : fate p = 4 := by
  unfold zWF at h
  rw [Bool.and_eq_true, Bool.and_eq_true] at h
  exact of_decide_eq_true h.1.1
section LD
variable {d : Nat} {io : Int → Int} {n : Int} {Z : Int → Int} {pl ru th : Int} {h : Hp} {fate : Int → Int} {c m : Int}
theorem s_leaderL (hd : d = 1 ∨ d = 27) (hZ : ZD Z) (H : Dat d io n Z pl ru th h) (c0 : 0 ≤ c ∧ c < 3) (m0 : 0 ≤ m ∧ m < 240) (hfa : ∀ i, 0 ≤ i → i < n → h (d + 1) i = fate (io i) ∧ 0 ≤ fate (io i) ∧ fate (io i) ≤ 4) (hh : ∀ i, 0 ≤ i → i < n → h (d + 6) i = zSz Z (io i)) (hp : ∀ i, 0 ≤ i → i < n → fate (io i) = 4 → h (d + 7) i = zPl Z pl (io i) m) {r : Int} (hr : 0 ≤ r ∧ r ≤ 2) : ∀ (k : Nat) (l i : Int), 0 ≤ i → i + k = n →
    ((l = -1 ∧ ∀ o, 0 ≤ o → o < i → zWF Z pl fate (io o) c m = false) ∨ ((0 ≤ l ∧ l < i) ∧ zWF Z pl fate (io l) c m = true ∧ (∀ u, 0 ≤ u → u < i → zWF Z pl fate (io u) c m = true → (∀ o, 0 ≤ o → o < n → o ≠ u → zWF Z pl fate (io o) c m = true → zGB Z pl r (io o) (io u) c m = false) → l = u) ∧ (r ≠ 1 → ∀ o, 0 ≤ o → o < i → o ≠ l → zWF Z pl fate (io o) c m = true → zGB Z pl r (io l) (io o) c m = true))) →
    ∃ x, X (138, 6, [aR d, aI c, aI m, aI r, aI l, aI i], [], h) = some (some x, h) ∧ ((x = -1 ∧ ∀ o, 0 ≤ o → o < n → zWF Z pl fate (io o) c m = false) ∨ ((0 ≤ x ∧ x < n) ∧ zWF Z pl fate (io x) c m = true ∧ (∀ u, 0 ≤ u → u < n → zWF Z pl fate (io u) c m = true → (∀ o, 0 ≤ o → o < n → o ≠ u → zWF Z pl fate (io o) c m = true → zGB Z pl r (io o) (io u) c m = false) → x = u) ∧ (r ≠ 1 → ∀ o, 0 ≤ o → o < n → o ≠ x → zWF Z pl fate (io o) c m = true → zGB Z pl r (io x) (io o) c m = true)))
  | 0, l, i, i0, hk, hl => by
    have hn := H.1
    have h4 := H.2.1
    have hi : i = n := by omega
    refine ⟨l, ?_, ?_⟩
    · rw [e138_6 hd, h4, wr_id (x := n) (by omega) (by omega), wr_id (x := i) (by omega) (by omega), cd_t (by omega)]
    · rw [hi] at hl; exact hl
  | k + 1, l, i, i0, hk, hl => by
    have hn := H.1
    have h4 := H.2.1
    have ne : ∀ a b, 0 ≤ a → a < n → 0 ≤ b → b < n → a ≠ b → io a ≠ io b := fun a b a0 a1 b0 b1 hab q => hab ((io_lt H a0 a1 b0 b1).2.mp q)
    have fi := hfa i i0 (by omega)
    rw [e138_6 hd, h4, wr_id (x := n) (by omega) (by omega), wr_id (x := i) (by omega) (by omega), cd_f (by omega), s_waitsFor hd hZ H i0 (by omega) c0 m0 fi.1 fi.2, bI_some, d_bi0]
    cases hw : zWF Z pl fate (io i) c m
    · rw [Bool.not_false, cond_t]
      refine s_leaderL hd hZ H c0 m0 hfa hh hp hr k l (i + 1) (by omega) (by omega) ?_
      rcases hl with ⟨q1, q2⟩ | ⟨q1, q2, q3, q4⟩
      · refine Or.inl ⟨q1, fun o a b => ?_⟩
        by_cases ho : o = i
        · subst ho; exact hw
        · exact q2 o a (by omega)
      · refine Or.inr ⟨⟨q1.1, by omega⟩, q2, fun u a b e => ?_, fun hr1 o a b e g => ?_⟩
        · by_cases ho : u = i
          · subst ho; rw [hw] at e; exact absurd e (by decide)
          · exact q3 u a (by omega) e
        · by_cases ho : o = i
          · subst ho; rw [hw] at g; exact absurd g (by decide)
          · exact q4 hr1 o a (by omega) e g
    · rw [Bool.not_true, cond_f]
      rcases hl with ⟨q1, q2⟩ | ⟨q1, q2, q3, q4⟩
      · rw [q1, wr_m1, cd_t rfl]
        refine s_leaderL hd hZ H c0 m0 hfa hh hp hr k i (i + 1) (by omega) (by omega) (Or.inr ⟨⟨i0, by omega⟩, hw, fun u a b e => ?_, fun hr1 o a b e g => ?_⟩)
        · by_cases ho : u = i
          · exact fun _ => ho.symm
          · have := q2 u a (by omega); rw [this] at e; exact absurd e (by decide)
        · have := q2 o a (by omega); rw [this] at g; exact absurd g (by decide)
      · have gb := s_goesBefore (r := r) (m := m) hd hZ H i0 (by omega) q1.1 (by omega) c0 hr (hh i i0 (by omega)) (hh l q1.1 (by omega)) (hp i i0 (by omega) (zWF_4 hw)) (hp l q1.1 (by omega) (zWF_4 q2))
        rw [wr_id (x := l) (by omega) (by omega), cd_f (by omega), gb, bI_some, d_bi0]
        have nil : io i ≠ io l := ne i l i0 (by omega) q1.1 (by omega) (by omega)
        cases hg : zGB Z pl r (io i) (io l) c m
        · rw [Bool.not_false, cond_t]
          have hg2 : zGB Z pl r (io l) (io i) c m = true := by rw [zGB_anti (fun q => nil q.symm), hg]; rfl
          refine s_leaderL hd hZ H c0 m0 hfa hh hp hr k l (i + 1) (by omega) (by omega) (Or.inr ⟨⟨q1.1, by omega⟩, q2, fun u a b e f => ?_, fun hr1 o a b e g => ?_⟩)
          · by_cases ho : u = i
            · subst ho
              have := f l q1.1 (by omega) (by omega) q2
              rw [hg2] at this; exact absurd this (by decide)
            · exact q3 u a (by omega) e f
          · by_cases ho : o = i
            · subst ho; exact hg2
            · exact q4 hr1 o a (by omega) e g
        · rw [Bool.not_true, cond_f]
          refine s_leaderL hd hZ H c0 m0 hfa hh hp hr k i (i + 1) (by omega) (by omega) (Or.inr ⟨⟨i0, by omega⟩, hw, fun u a b e f => ?_, fun hr1 o a b e g => ?_⟩)
          · by_cases ho : u = i
            · exact ho.symm
            · have hu := q3 u a (by omega) e f
              subst hu
              have := f i i0 (by omega) (by omega) hw
              rw [hg] at this; exact absurd this (by decide)
          · by_cases ho : o = l
            · subst ho; exact hg
            · exact zGB_tr hr1 hg (q4 hr1 o a (by omega) ho g)
theorem s_leader (hd : d = 1 ∨ d = 27) (hZ : ZD Z) (H : Dat d io n Z pl ru th h) (c0 : 0 ≤ c ∧ c < 3) (m0 : 0 ≤ m ∧ m < 240) (hfa : ∀ i, 0 ≤ i → i < n → h (d + 1) i = fate (io i) ∧ 0 ≤ fate (io i) ∧ fate (io i) ≤ 4) (hh : ∀ i, 0 ≤ i → i < n → h (d + 6) i = zSz Z (io i)) (hp : ∀ i, 0 ≤ i → i < n → fate (io i) = 4 → h (d + 7) i = zPl Z pl (io i) m) {r : Int} (hr : 0 ≤ r ∧ r ≤ 2) :
    ∃ x, X (138, 0, [aR d, aI c, aI m, aI r, aN, aN], [], h) = some (some x, h) ∧ ((x = -1 ∧ ∀ o, 0 ≤ o → o < n → zWF Z pl fate (io o) c m = false) ∨ ((0 ≤ x ∧ x < n) ∧ zWF Z pl fate (io x) c m = true ∧ (∀ u, 0 ≤ u → u < n → zWF Z pl fate (io u) c m = true → (∀ o, 0 ≤ o → o < n → o ≠ u → zWF Z pl fate (io o) c m = true → zGB Z pl r (io o) (io u) c m = false) → x = u) ∧ (r ≠ 1 → ∀ o, 0 ≤ o → o < n → o ≠ x → zWF Z pl fate (io o) c m = true → zGB Z pl r (io x) (io o) c m = true))) := by
  have hn := H.1
  rw [e138_0 hd]
  exact s_leaderL hd hZ H c0 m0 hfa hh hp hr n.toNat (-1) 0 (by omega) (by omega) (Or.inl ⟨rfl, fun o a b => by omega⟩)
theorem s_beatenL (hd : d = 1 ∨ d = 27) (hZ : ZD Z) (H : Dat d io n Z pl ru th h) (c0 : 0 ≤ c ∧ c < 3) (m0 : 0 ≤ m ∧ m < 240) (hfa : ∀ i, 0 ≤ i → i < n → h (d + 1) i = fate (io i) ∧ 0 ≤ fate (io i) ∧ fate (io i) ≤ 4) (hh : ∀ i, 0 ≤ i → i < n → h (d + 6) i = zSz Z (io i)) (hp : ∀ i, 0 ≤ i → i < n → fate (io i) = 4 → h (d + 7) i = zPl Z pl (io i) m) {l : Int} (l0 : 0 ≤ l ∧ l < n) (hw : zWF Z pl fate (io l) c m = true) {r : Int} (hr : 0 ≤ r ∧ r ≤ 2) : ∀ (k : Nat) (i : Int), 0 ≤ i → i + k = n → ∃ b, X (139, 3, [aR d, aI l, aI c, aI m, aI r, aI i], [], h) = some (some (bi b), h) ∧ (b = true ↔ r = 1 ∧ ∃ o, i ≤ o ∧ o < n ∧ o ≠ l ∧ zWF Z pl fate (io o) c m = true ∧ zGB Z pl r (io o) (io l) c m = true)
  | 0, i, i0, hk => by
    have hn := H.1
    have h4 := H.2.1
    refine ⟨false, ?_, fun q => absurd q (by decide), fun ⟨_, o, a, b, _⟩ => by omega⟩
    rw [e139_3 hd, h4, wr_id (x := n) (by omega) (by omega), wr_id (x := i) (by omega) (by omega), cd_t (by omega)]
    rfl
  | k + 1, i, i0, hk => by
    have hn := H.1
    have h4 := H.2.1
    have fi := hfa i i0 (by omega)
    obtain ⟨b, b1, b2⟩ := s_beatenL hd hZ H c0 m0 hfa hh hp l0 hw hr k (i + 1) (by omega) (by omega)
    rw [e139_3 hd, h4, wr_id (x := n) (by omega) (by omega), wr_id (x := i) (by omega) (by omega), cd_f (by omega), wr_id (x := r) (by omega) (by omega)]
    by_cases hr1 : r = 1
    · rw [cd_f (by omega), wr_id (x := l) (by omega) (by omega)]
      by_cases hl : i = l
      · rw [cd_t hl]
        refine ⟨b, b1, b2.trans ⟨fun ⟨q, o, a, e⟩ => ⟨q, o, by omega, e⟩, fun ⟨q, o, a, e1, e2, e3⟩ => ⟨q, o, by omega, e1, e2, e3⟩⟩⟩
      · rw [cd_f hl, s_waitsFor hd hZ H i0 (by omega) c0 m0 fi.1 fi.2, bI_some, d_bi0]
        cases hwi : zWF Z pl fate (io i) c m
        · rw [Bool.not_false, cond_t]
          refine ⟨b, b1, b2.trans ⟨fun ⟨q, o, a, e⟩ => ⟨q, o, by omega, e⟩, fun ⟨q, o, a, e1, e2, e3, e4⟩ => ⟨q, o, ?_, e1, e2, e3, e4⟩⟩⟩
          by_cases ho : o = i
          · subst ho; rw [hwi] at e3; exact absurd e3 (by decide)
          · omega
        · rw [Bool.not_true, cond_f]
          have gb := s_goesBefore (r := r) (m := m) hd hZ H i0 (by omega) l0.1 l0.2 c0 hr (hh i i0 (by omega)) (hh l l0.1 l0.2) (hp i i0 (by omega) (zWF_4 hwi)) (hp l l0.1 l0.2 (zWF_4 hw))
          rw [gb, bI_some, d_bi0]
          cases hg : zGB Z pl r (io i) (io l) c m
          · rw [Bool.not_false, cond_t]
            refine ⟨b, b1, b2.trans ⟨fun ⟨q, o, a, e⟩ => ⟨q, o, by omega, e⟩, fun ⟨q, o, a, e1, e2, e3, e4⟩ => ⟨q, o, ?_, e1, e2, e3, e4⟩⟩⟩
            by_cases ho : o = i
            · subst ho; rw [hg] at e4; exact absurd e4 (by decide)
            · omega
          · rw [Bool.not_true, cond_f]
            exact ⟨true, rfl, fun _ => ⟨hr1, i, by omega, by omega, hl, hwi, hg⟩, fun _ => rfl⟩
    · rw [cd_t hr1]
      exact ⟨false, rfl, fun q => absurd q (by decide), fun q => absurd q.1 hr1⟩
theorem s_beaten (hd : d = 1 ∨ d = 27) (hZ : ZD Z) (H : Dat d io n Z pl ru th h) (c0 : 0 ≤ c ∧ c < 3) (m0 : 0 ≤ m ∧ m < 240) (hfa : ∀ i, 0 ≤ i → i < n → h (d + 1) i = fate (io i) ∧ 0 ≤ fate (io i) ∧ fate (io i) ≤ 4) (hh : ∀ i, 0 ≤ i → i < n → h (d + 6) i = zSz Z (io i)) (hp : ∀ i, 0 ≤ i → i < n → fate (io i) = 4 → h (d + 7) i = zPl Z pl (io i) m) {l : Int} (l0 : 0 ≤ l ∧ l < n) (hw : zWF Z pl fate (io l) c m = true) {r : Int} (hr : 0 ≤ r ∧ r ≤ 2) : ∃ b, X (139, 0, [aR d, aI l, aI c, aI m, aI r, aN], [], h) = some (some (bi b), h) ∧ (b = true ↔ r = 1 ∧ ∃ o, 0 ≤ o ∧ o < n ∧ o ≠ l ∧ zWF Z pl fate (io o) c m = true ∧ zGB Z pl r (io o) (io l) c m = true) := by
  have hn := H.1
  rw [e139_0 hd]
  exact s_beatenL hd hZ H c0 m0 hfa hh hp l0 hw hr n.toNat 0 (by omega) (by omega)
end LD
