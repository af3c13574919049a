/-! several more of PEOPLE at once -/
def lgr (f : Int → Int → Int) (j : Int) : Bool := lg (f j 1) (f j 2) (f j 3) (f j 4)
theorem inv_app {L : Nat} {xs : Nat → Int32} {h g : Hp} {n : Int} (f : Int → Int → Int) (hI : Inv L xs h) (hn : 0 ≤ n) (h12 : h 81 24 + n ≤ 12) (hl : ∀ j, 0 ≤ j → j < n → lgr f j = true)
    (o : ∀ p, ¬ (p = 1 ∨ (19 ≤ p ∧ p ≤ 23) ∨ (27 ≤ p ∧ p ≤ 52) ∨ p = 80 ∨ p = 81) → g p = h p) (h80 : g 80 2 = h 80 2 ∧ g 80 22 = h 80 22) (hst : g 1 15 = 1)
    (s4 : g 19 4 = h 19 4 + n) (sk : ∀ k : Nat, 1 ≤ k → k ≤ 4 → ∀ i, 0 ≤ i → i < h 19 4 + n → g (19 + k) i = if i < h 19 4 then h (19 + k) i else f (i - h 19 4) k)
    (m24 : g 81 24 = h 81 24 + n) (mo : ∀ j, j < 24 ∨ (25 ≤ j ∧ j < 67 + 4 * h 81 24) → g 81 j = h 81 j) (mk : ∀ k : Nat, 1 ≤ k → k ≤ 4 → ∀ j, 0 ≤ j → j < n → g 81 (66 + 4 * (h 81 24 + j) + k) = f j k) : Inv L xs g := by
  have hR := hI.2.1
  have hZ := hI.2.2.1
  have hc : h 19 4 = h 81 24 := hR.2.2.2.1.1
  have hb := hZ.2.2.2.1.1
  have row : ∀ i, 0 ≤ i → i < h 81 24 + n → ¬ i < h 81 24 → g 81 (67 + 4 * i) = f (i - h 81 24) 1 ∧ g 81 (68 + 4 * i) = f (i - h 81 24) 2 ∧ g 81 (69 + 4 * i) = f (i - h 81 24) 3 ∧ g 81 (70 + 4 * i) = f (i - h 81 24) 4 := by
    intro i i0 i1 i2
    have q := fun k a b => mk k a b (i - h 81 24) (by omega) (by omega)
    have q1 := q 1 (by omega) (by omega)
    have q2 := q 2 (by omega) (by omega)
    have q3 := q 3 (by omega) (by omega)
    have q4 := q 4 (by omega) (by omega)
    rw [show 66 + 4 * (h 81 24 + (i - h 81 24)) + ((1 : Nat) : Int) = 67 + 4 * i by omega] at q1
    rw [show 66 + 4 * (h 81 24 + (i - h 81 24)) + ((2 : Nat) : Int) = 68 + 4 * i by omega] at q2
    rw [show 66 + 4 * (h 81 24 + (i - h 81 24)) + ((3 : Nat) : Int) = 69 + 4 * i by omega] at q3
    rw [show 66 + 4 * (h 81 24 + (i - h 81 24)) + ((4 : Nat) : Int) = 70 + 4 * i by omega] at q4
    exact ⟨q1, q2, q3, q4⟩
  refine inv_folk hI (fun p hp => o p (by omega)) h80 hst (fun j hj => mo j (by omega)) ⟨⟨?_, fun i i0 i1 => ?_⟩, ⟨?_, fun i i0 i1 => ?_⟩⟩ ⟨RW_c hZ.2.2.2.2.2.1.2 (by rw [o _ (by decide)]) (o _ (by decide)) (o _ (by decide)) (fun j j1 j2 => mo j (by omega)) hR.2.2.2.2.2, ?_⟩ (Dr_congr (by rw [o 24 (by decide)]) (by rw [o 24 (by decide)]) (o _ (by decide)) (o _ (by decide)) hI.2.2.2.2.2.2.2)
  · rw [m24]
    show g 19 4 = _
    rw [s4, hc]
  · rw [m24] at i1
    have q := fun k a b => sk k a b i i0 (by omega)
    rw [show g (11 + 9) i = _ from q 1 (by omega) (by omega), show g (11 + 10) i = _ from q 2 (by omega) (by omega), show g (11 + 11) i = _ from q 3 (by omega) (by omega), show g (11 + 12) i = _ from q 4 (by omega) (by omega), hc]
    by_cases hi : i < h 81 24
    · rw [if_pos hi, if_pos hi, if_pos hi, if_pos hi, mo (67 + 4 * i) (by omega), mo (68 + 4 * i) (by omega), mo (69 + 4 * i) (by omega), mo (70 + 4 * i) (by omega)]
      exact hR.2.2.2.1.2 i i0 hi
    · obtain ⟨y1, y2, y3, y4⟩ := row i i0 i1 hi
      rw [if_neg hi, if_neg hi, if_neg hi, if_neg hi, y1, y2, y3, y4]
      exact ⟨rfl, rfl, rfl, rfl⟩
  · rw [m24]; omega
  · rw [m24] at i1
    by_cases hi : i < h 81 24
    · rw [mo (67 + 4 * i) (by omega), mo (68 + 4 * i) (by omega), mo (69 + 4 * i) (by omega), mo (70 + 4 * i) (by omega)]
      exact hZ.2.2.2.1.2 i i0 hi
    · obtain ⟨y1, y2, y3, y4⟩ := row i i0 i1 hi
      rw [y1, y2, y3, y4]
      exact hl (i - h 81 24) (by omega) (by omega)
  · obtain ⟨w1, w2⟩ := hZ.2.2.2.2.2
    refine ⟨by rw [mo 42 (by omega)]; exact w1, fun i i1 i2 => ?_⟩
    rw [mo 42 (by omega)] at i2
    rw [mo (43 + 2 * i) (by omega), mo (44 + 2 * i) (by omega), m24]
    obtain ⟨y1, y2, y3⟩ := w2 i i1 i2
    exact ⟨by omega, by omega, y3⟩
/-- what k rows more of the reference's come to -/
def mA (h : Hp) (f : Int → Int → Int) (n : Int) (g : Hp) : Prop := (∀ p, p ≠ 81 → g p = h p) ∧ g 81 24 = h 81 24 + n ∧ (∀ j, j < 24 ∨ (25 ≤ j ∧ j < 67 + 4 * h 81 24) → g 81 j = h 81 j) ∧ ∀ k : Nat, 1 ≤ k → k ≤ 4 → ∀ j, 0 ≤ j → j < n → g 81 (66 + 4 * (h 81 24 + j) + k) = f j k
theorem mA_0 (h : Hp) (f : Int → Int → Int) : mA h f 0 h := ⟨fun _ _ => rfl, by omega, fun _ _ => rfl, fun k a b j c d => by omega⟩
theorem mA_s {h g : Hp} {f : Int → Int → Int} {n : Int} (hn : 0 ≤ n) (hb : 0 ≤ h 81 24) (H : mA (uM h (f 0 1) (f 0 2) (f 0 3) (f 0 4)) (fun j k => f (j + 1) k) n g) : mA h f (n + 1) g := by
  obtain ⟨h1, h2, h3, h4⟩ := H
  rw [uM_n] at h2 h3 h4
  refine ⟨fun p hp => by rw [h1 p hp, uM_o _ _ _ _ _ hp], by omega, fun j hj => by rw [h3 j (by omega), uM_w _ _ _ _ _ hb hj], fun k k1 k4 j j0 j1 => ?_⟩
  by_cases hj : j = 0
  · subst hj
    rw [h3 _ (by omega)]
    obtain ⟨y1, y2, y3, y4⟩ := uM_4 h (f 0 1) (f 0 2) (f 0 3) (f 0 4) hb
    have : k = 1 ∨ k = 2 ∨ k = 3 ∨ k = 4 := by omega
    rcases this with rfl | rfl | rfl | rfl
    · rw [show 66 + 4 * (h 81 24 + 0) + ((1 : Nat) : Int) = 67 + 4 * h 81 24 by omega]; exact y1
    · rw [show 66 + 4 * (h 81 24 + 0) + ((2 : Nat) : Int) = 68 + 4 * h 81 24 by omega]; exact y2
    · rw [show 66 + 4 * (h 81 24 + 0) + ((3 : Nat) : Int) = 69 + 4 * h 81 24 by omega]; exact y3
    · rw [show 66 + 4 * (h 81 24 + 0) + ((4 : Nat) : Int) = 70 + 4 * h 81 24 by omega]; exact y4
  · have q := h4 k k1 k4 (j - 1) (by omega) (by omega)
    rw [show h 81 24 + 1 + (j - 1) = h 81 24 + j by omega] at q
    rw [q]
    show f (j - 1 + 1) k = f j k
    rw [show j - 1 + 1 = j by omega]
/-- the class's: rows at d, of q's or others -/
def sA (h : Hp) (d : Nat) (f : Int → Int → Int) (n : Int) (g : Hp) : Prop := (∀ p, (p < d ∨ d + 4 < p) → g p = h p) ∧ g d 4 = h d 4 + n ∧ ∀ k : Nat, 1 ≤ k → k ≤ 4 → ∀ i, g (d + k) i = if h d 4 ≤ i ∧ i < h d 4 + n then f (i - h d 4) k else h (d + k) i
theorem sA_0 (h : Hp) (d : Nat) (f : Int → Int → Int) : sA h d f 0 h := ⟨fun _ _ => rfl, by omega, fun k a b i => by rw [if_neg (by omega)]⟩
theorem sA_s {h g : Hp} {d : Nat} {f : Int → Int → Int} {n : Int} (hn : 0 ≤ n) (H : sA (uC d h (f 0 1) (f 0 2) (f 0 3) (f 0 4)) d (fun j k => f (j + 1) k) n g) : sA h d f (n + 1) g := by
  obtain ⟨h1, h2, h4⟩ := H
  rw [uC_n] at h2 h4
  refine ⟨fun p hp => by rw [h1 p hp, uC_o _ _ _ _ _ _ hp], by omega, fun k k1 k4 i => ?_⟩
  rw [h4 k k1 k4 i]
  by_cases c1 : i = h d 4
  · subst c1
    rw [if_neg (by omega), if_pos (by omega), show h d 4 - h d 4 = 0 by omega]
    obtain ⟨y1, y2, y3, y4⟩ := uC_4 d h (f 0 1) (f 0 2) (f 0 3) (f 0 4)
    have : k = 1 ∨ k = 2 ∨ k = 3 ∨ k = 4 := by omega
    rcases this with rfl | rfl | rfl | rfl
    · exact y1
    · exact y2
    · exact y3
    · exact y4
  · rw [uC_w _ _ _ _ _ _ c1 ⟨k1, k4⟩]
    by_cases c2 : h d 4 ≤ i ∧ i < h d 4 + (n + 1)
    · rw [if_pos (by omega), if_pos c2]
      show f (i - (h d 4 + 1) + 1) k = f (i - h d 4) k
      rw [show i - (h d 4 + 1) + 1 = i - h d 4 by omega]
    · rw [if_neg (by omega), if_neg c2]
theorem s_addAll {d q : Nat} (hd : d = 19 ∨ d = 45 ∨ d = 61) (hq : q = 19 ∨ q = 45 ∨ q = 61) (hdq : d ≠ q) {h : Hp} (q0 : 0 ≤ h q 4) (q12 : h q 4 ≤ 12) (d0 : 0 ≤ h d 4) (d12 : h d 4 + h q 4 ≤ 12) : ∃ g, X (156, 0, [aR d, aR q, aN], [], h) = some (none, g) ∧ sA h d (fun j k => h (q + k.toNat) j) (h q 4) g := by
  obtain ⟨g, g1, g2, g3, g4⟩ := s_addAllL hd hq hdq (h q 4).toNat 0 h (by omega) (by omega) q12 d0 (by omega)
  refine ⟨g, by rw [e156_0 hd hq]; exact g1, g2, by omega, fun k k1 k4 i => ?_⟩
  rw [g4 k k1 k4 i, show ((h q 4).toNat : Int) = h q 4 by omega, Int.add_zero]
  rfl
/-- what no later answer shows may change -/
theorem inv_quiet {L : Nat} {xs : Nat → Int32} {h g : Hp} (hI : Inv L xs h) (f : ∀ p, ¬ (p = 18 ∨ (27 ≤ p ∧ p ≤ 52) ∨ p = 69 ∨ (76 ≤ p ∧ p ≤ 80) ∨ (83 ≤ p ∧ p ≤ 93)) → g p = h p) (h80 : g 80 2 = h 80 2 ∧ g 80 22 = h 80 22) : Inv L xs g := by
  obtain ⟨q1, q2, q3, q4, q5, q6, q7, q8⟩ := hI
  refine ⟨fun p hp => by rw [f p (by omega)]; exact q1 p hp, RR_congr (fun p hp => f p (by omega)) (by rw [f _ (by decide)]) (by rw [f _ (by decide)]) (by rw [f _ (by decide)]) (f _ (by decide)) q2, Zz_congr (f _ (by decide)) q3, Kp_congr (by rw [f _ (by decide)]) h80.2 (fun p h1 h2 => f p (by omega)) (f _ (by decide)) q4, Tp_congr (by rw [f _ (by decide)]) h80.1 (f _ (by decide)) (f _ (by decide)) q5, Sh_congr (fun p hp => f p (by omega)) q6, ?_, Dr_congr (by rw [f _ (by decide)]) (by rw [f _ (by decide)]) (f _ (by decide)) (f _ (by decide)) q8⟩
  rw [f 1 (by decide)]
  exact q7.imp (fun ⟨y1, y2⟩ => ⟨y1, Fd_congr (fun p hp => f p (by omega)) (by rw [f 1 (by decide)]) y2⟩) id
/-! crowd -/
def itm (h : Hp) (to : Int) (j k : Int) : Int := h 97 (to + 4 * j + k - 1)
theorem s_read {h : Hp} {s i : Int} (hs : 0 ≤ s ∧ s < 4) (hi : 0 ≤ i ∧ i < 24) : X (174, 0, [aR 72, aI s, aI i], [], h) = some (some (h 75 (24 * s + i)), h) := by
  rw [e174_0, inb_t (by omega) (by omega) (by omega), cond_t, wr_id (by omega) (by omega), show s * 24 + i = 24 * s + i by omega]
theorem m_crowdA {s lane fr n e to : Int} (hn : 1 ≤ n ∧ n ≤ 6) (ht : 0 ≤ to ∧ to + 4 * n ≤ 96) : ∀ (m : Nat) (v : Int) (h : Hp), 0 ≤ v → v + m = n → 0 ≤ h 81 24 → h 81 24 + m ≤ 12 → ∃ g, X (119, 152, [aR 80, aI s, aI lane, aI fr, aI n, aI e, aI to, aI v], [], h) = some (some n, g) ∧ mA h (fun j k => itm h to (j + v) k) m g
  | 0, v, h, h0, hv, c0, c12 => by
    refine ⟨h, ?_, mA_0 h _⟩
    rw [e119_152, wr_id (by omega) (by omega), wr_id (by omega) (by omega), cd_t (by omega)]
  | m + 1, v, h, h0, hv, c0, c12 => by
    have w : ∀ k : Int, 0 ≤ k → k < 4 → wr (to + 4 * v + k) = to + 4 * v + k := fun k k0 k1 => wr_id (by omega) (by omega)
    have w0 := w 0 (by omega) (by omega)
    rw [Int.add_zero] at w0
    have key : X (119, 152, [aR 80, aI s, aI lane, aI fr, aI n, aI e, aI to, aI v], [], h) = X (119, 152, [aR 80, aI s, aI lane, aI fr, aI n, aI e, aI to, aI (v + 1)], [], uM h (h 97 (to + 4 * v)) (h 97 (to + 4 * v + 1)) (h 97 (to + 4 * v + 2)) (h 97 (to + 4 * v + 3))) := by
      rw [e119_152, wr_id (x := n) (by omega) (by omega), wr_id (x := v) (by omega) (by omega), cd_f (by omega), inb_t (by omega) (by omega) (by omega), inb_t (by omega) (by omega) (by omega), inb_t (by omega) (by omega) (by omega), inb_t (by omega) (by omega) (by omega), w0, w 1 (by omega) (by omega), w 2 (by omega) (by omega), w 3 (by omega) (by omega), m_add c0 (by omega)]
      simp only [cond_t, bV_some]
      rfl
    have e97 : uM h (h 97 (to + 4 * v)) (h 97 (to + 4 * v + 1)) (h 97 (to + 4 * v + 2)) (h 97 (to + 4 * v + 3)) 97 = h 97 := uM_o _ _ _ _ _ (by decide)
    have n1 := uM_n h (h 97 (to + 4 * v)) (h 97 (to + 4 * v + 1)) (h 97 (to + 4 * v + 2)) (h 97 (to + 4 * v + 3))
    obtain ⟨g, g1, g2⟩ := m_crowdA (s := s) (lane := lane) (fr := fr) (e := e) hn ht m (v + 1) (uM h (h 97 (to + 4 * v)) (h 97 (to + 4 * v + 1)) (h 97 (to + 4 * v + 2)) (h 97 (to + 4 * v + 3))) (by omega) (by omega) (by omega) (by omega)
    refine ⟨g, key.trans g1, ?_⟩
    have fe : ∀ k : Int, itm h to (0 + v) k = h 97 (to + 4 * v + k - 1) := fun k => by unfold itm; rw [Int.zero_add]
    have q := mA_s (h := h) (g := g) (f := fun j k => itm h to (j + v) k) (n := m) (by omega) c0 (by
      show mA (uM h (itm h to (0 + v) 1) (itm h to (0 + v) 2) (itm h to (0 + v) 3) (itm h to (0 + v) 4)) (fun j k => itm h to (j + 1 + v) k) m g
      rw [fe 1, fe 2, fe 3, fe 4, show to + 4 * v + 1 - 1 = to + 4 * v by omega, show to + 4 * v + 2 - 1 = to + 4 * v + 1 by omega, show to + 4 * v + 3 - 1 = to + 4 * v + 2 by omega, show to + 4 * v + 4 - 1 = to + 4 * v + 3 by omega]
      have ef : (fun j k => itm (uM h (h 97 (to + 4 * v)) (h 97 (to + 4 * v + 1)) (h 97 (to + 4 * v + 2)) (h 97 (to + 4 * v + 3))) to (j + (v + 1)) k) = fun j k => itm h to (j + 1 + v) k := by
        funext j k
        unfold itm
        rw [e97, show j + (v + 1) = j + 1 + v by omega]
      rw [ef] at g2
      exact g2)
    rw [show ((m + 1 : Nat) : Int) = (m : Int) + 1 by omega]
    exact q
/-- whether all of rows v to n may be -/
def allL (f : Int → Int → Int) : Nat → Int → Bool
  | 0, _ => true
  | m + 1, v => lgr f v && allL f m (v + 1)
theorem allL_t {f : Int → Int → Int} : ∀ (m : Nat) (v : Int), allL f m v = true → ∀ j, v ≤ j → j < v + m → lgr f j = true
  | 0, v, _, j, j0, j1 => by omega
  | m + 1, v, h, j, j0, j1 => by
    unfold allL at h
    rw [Bool.and_eq_true] at h
    by_cases hj : j = v
    · rw [hj]; exact h.1
    · exact allL_t m (v + 1) h.2 j (by omega) (by omega)
theorem m_crowdC {s lane fr n e to : Int} (hn : 1 ≤ n ∧ n ≤ 6) (ht : 0 ≤ to ∧ to + 4 * n ≤ 96) {h : Hp} (hc : 0 ≤ h 81 24 ∧ h 81 24 ≤ 12) (hr : ∀ i, to ≤ i → i < to + 4 * n → Rg (h 97 i)) : ∀ (m : Nat) (v : Int), 0 ≤ v → v + m = n → X (119, 55, [aR 80, aI s, aI lane, aI fr, aI n, aI e, aI to, aI v], [], h) = if allL (itm h to) m v = true then (if h 81 24 + n ≤ 12 then X (119, 152, [aR 80, aI s, aI lane, aI fr, aI n, aI e, aI to, aI 0], [], h) else some (some (-3), h)) else some (some (-2), h)
  | 0, v, h0, hv => by
    rw [e119_55, wr_id (x := n) (by omega) (by omega), wr_id (x := v) (by omega) (by omega), cd_t (by omega), if_pos (show allL (itm h to) 0 v = true from rfl), wr_id (x := h 81 24 + n) (by omega) (by omega)]
    by_cases p : h 81 24 + n ≤ 12
    · rw [cd_t p, if_pos p]
    · rw [cd_f p, if_neg p]
  | m + 1, v, h0, hv => by
    have w : ∀ k : Int, 0 ≤ k → k < 4 → wr (to + 4 * v + k) = to + 4 * v + k := fun k k0 k1 => wr_id (by omega) (by omega)
    have w0 := w 0 (by omega) (by omega)
    rw [Int.add_zero] at w0
    have wh : ∀ k : Int, 0 ≤ k → k < 4 → wr (h 97 (to + 4 * v + k)) = h 97 (to + 4 * v + k) := fun k k0 k1 => wr_id (hr _ (by omega) (by omega)).1 (hr _ (by omega) (by omega)).2
    have wh0 := wh 0 (by omega) (by omega)
    rw [Int.add_zero] at wh0
    rw [e119_55, wr_id (x := n) (by omega) (by omega), wr_id (x := v) (by omega) (by omega), cd_f (by omega), inb_t (by omega) (by omega) (by omega), inb_t (by omega) (by omega) (by omega), inb_t (by omega) (by omega) (by omega), inb_t (by omega) (by omega) (by omega), w0, w 1 (by omega) (by omega), w 2 (by omega) (by omega), w 3 (by omega) (by omega), cond_t, cond_t, cond_t, cond_t, s_mayBe, bI_some, d_bi1, wh0, wh 1 (by omega) (by omega), wh 2 (by omega) (by omega), wh 3 (by omega) (by omega)]
    have el : lgr (itm h to) v = lg (h 97 (to + 4 * v)) (h 97 (to + 4 * v + 1)) (h 97 (to + 4 * v + 2)) (h 97 (to + 4 * v + 3)) := by
      unfold lgr itm
      rw [show to + 4 * v + 1 - 1 = to + 4 * v by omega, show to + 4 * v + 2 - 1 = to + 4 * v + 1 by omega, show to + 4 * v + 3 - 1 = to + 4 * v + 2 by omega, show to + 4 * v + 4 - 1 = to + 4 * v + 3 by omega]
    have ea : allL (itm h to) (m + 1) v = (lgr (itm h to) v && allL (itm h to) m (v + 1)) := rfl
    rw [ea, el]
    cases lg (h 97 (to + 4 * v)) (h 97 (to + 4 * v + 1)) (h 97 (to + 4 * v + 2)) (h 97 (to + 4 * v + 3))
    · rw [cond_f, Bool.false_and, if_neg (by decide)]
    · rw [cond_t, Bool.true_and]
      exact m_crowdC hn ht hc hr m (v + 1) (by omega) (by omega)
theorem s_crowdL {L : Nat} {xs : Nat → Int32} {s lane fr n e : Int} (hs : 0 ≤ s ∧ s < 4) (hn : 1 ≤ n ∧ n ≤ 6) (hf : 0 ≤ fr ∧ fr + 4 * n ≤ 24) {f : Int → Int → Int} : ∀ (m : Nat) (v : Int) (w7 w8 w9 w10 w11 : AV) (h : Hp), 0 ≤ v → v + m = n → Sm L xs h → h 45 4 = v → (0 ≤ h 19 4 ∧ h 19 4 ≤ 12) → (∀ j, v ≤ j → j < n → ∀ k : Int, 1 ≤ k → k ≤ 4 → h 75 (24 * s + (fr + 4 * j + k - 1)) = f j k ∧ Rg (f j k)) → (∀ j, 0 ≤ j → j < v → ∀ k : Nat, 1 ≤ k → k ≤ 4 → h (45 + k) j = f j k) → ∃ r g, X (30, 61, [aR 0, aI s, aI lane, aI fr, aI n, aI e, aI v, w7, w8, w9, w10, w11], [], h) = some (some r, g) ∧ r = (if allL f m v = true then (if h 19 4 + n ≤ 12 then n else -3) else -2) ∧ (r < 0 → ∀ p, (p < 45 ∨ 49 < p) → g p = h p) ∧ (0 < r → (∀ p, ¬ (p = 1 ∨ (19 ≤ p ∧ p ≤ 23) ∨ (45 ≤ p ∧ p ≤ 49)) → g p = h p) ∧ g 1 15 = 1 ∧ g 19 4 = h 19 4 + n ∧ ∀ k : Nat, 1 ≤ k → k ≤ 4 → ∀ i, 0 ≤ i → i < h 19 4 + n → g (19 + k) i = if i < h 19 4 then h (19 + k) i else f (i - h 19 4) k)
  | 0, v, w7, w8, w9, w10, w11, h, h0, hv, hS, h45, hc, hrow, hdone => by
    by_cases p : h 19 4 + n ≤ 12
    · obtain ⟨g, g1, g2, g3, g4⟩ := s_addAll (d := 19) (q := 45) (h := h) (by decide) (by decide) (by decide) (by omega) (by omega) hc.1 (by omega)
      refine ⟨n, up g 1 15 1, ?_, by rw [if_pos (show allL f 0 v = true from rfl), if_pos p], fun q => by omega, fun _ => ⟨fun q hq => by rw [up_n _ _ _ (by omega), g2 q (by omega)], up_s _ _ _ _, by rw [up_n _ _ _ (by decide), g3]; omega, fun k k1 k4 i i0 i1 => ?_⟩⟩
      · rw [e30_61, wr_id (x := n) (by omega) (by omega), wr_id (x := v) (by omega) (by omega), cd_t (by omega), wr_id (x := h 19 4 + n) (by omega) (by omega), cd_t p, g1, bV_some]
      · rw [up_n _ _ _ (by omega), g4 k k1 k4 i]
        by_cases c : i < h 19 4
        · rw [if_neg (by omega), if_pos c]
        · rw [if_pos (by omega), if_neg c]
          exact hdone (i - h 19 4) (by omega) (by omega) k k1 k4
    · refine ⟨-3, h, ?_, by rw [if_pos (show allL f 0 v = true from rfl), if_neg p], fun _ q hq => rfl, fun q => by omega⟩
      rw [e30_61, wr_id (x := n) (by omega) (by omega), wr_id (x := v) (by omega) (by omega), cd_t (by omega), wr_id (x := h 19 4 + n) (by omega) (by omega), cd_f p]
  | m + 1, v, w7, w8, w9, w10, w11, h, h0, hv, hS, h45, hc, hrow, hdone => by
    have rw4 := fun k a b => hrow v (by omega) (by omega) k a b
    have q1 := rw4 1 (by omega) (by omega)
    have q2 := rw4 2 (by omega) (by omega)
    have q3 := rw4 3 (by omega) (by omega)
    have q4 := rw4 4 (by omega) (by omega)
    have a1 : h 75 (24 * s + (fr + v * 4)) = f v 1 := by rw [← q1.1]; congr 1; omega
    have a2 : h 75 (24 * s + (fr + v * 4 + 1)) = f v 2 := by rw [← q2.1]; congr 1; omega
    have a3 : h 75 (24 * s + (fr + v * 4 + 2)) = f v 3 := by rw [← q3.1]; congr 1; omega
    have a4 : h 75 (24 * s + (fr + v * 4 + 3)) = f v 4 := by rw [← q4.1]; congr 1; omega
    have el : lgr f v = lg (f v 1) (f v 2) (f v 3) (f v 4) := rfl
    have ea : allL f (m + 1) v = (lgr f v && allL f m (v + 1)) := rfl
    have key : X (30, 61, [aR 0, aI s, aI lane, aI fr, aI n, aI e, aI v, w7, w8, w9, w10, w11], [], h) = cond (lgr f v) (X (30, 61, [aR 0, aI s, aI lane, aI fr, aI n, aI e, aI (v + 1), aI (fr + v * 4), aI (f v 1), aI (f v 2), aI (f v 3), aI (f v 4)], [], uC 45 h (f v 1) (f v 2) (f v 3) (f v 4))) (some (some (-2), h)) := by
      rw [e30_61, wr_id (x := n) (by omega) (by omega), wr_id (x := v) (by omega) (by omega), cd_f (by omega), s_read hs (by omega), bI_some, s_read hs (by omega), bI_some, s_read hs (by omega), bI_some, s_read hs (by omega), bI_some, a1, a2, a3, a4, s_areLegal hS, bI_some, d_bi1, wr_id q1.2.1 q1.2.2, wr_id q2.2.1 q2.2.2, wr_id q3.2.1 q3.2.2, wr_id q4.2.1 q4.2.2, s_add (d := 45) (by decide) (by omega) (by omega), bV_some, el]
      rfl
    rw [key, ea]
    cases hl : lgr f v
    · exact ⟨-2, h, by rw [cond_f], by rw [Bool.false_and, if_neg (by decide)], fun _ q hq => rfl, fun q => by omega⟩
    · rw [cond_t, Bool.true_and]
      have o : ∀ p, (p < 45 ∨ 49 < p) → uC 45 h (f v 1) (f v 2) (f v 3) (f v 4) p = h p := fun p hp => uC_o _ _ _ _ _ _ hp
      have n1 := uC_n 45 h (f v 1) (f v 2) (f v 3) (f v 4)
      have c4 := uC_4 45 h (f v 1) (f v 2) (f v 3) (f v 4)
      have cw := fun (i : Int) (hi : i ≠ h 45 4) k hk => uC_w 45 h (f v 1) (f v 2) (f v 3) (f v 4) (i := i) hi (k := k) hk
      generalize uC 45 h (f v 1) (f v 2) (f v 3) (f v 4) = u at o n1 c4 cw ⊢
      obtain ⟨r, g, g1, g2, g3, g4⟩ := s_crowdL (L := L) (xs := xs) (lane := lane) (e := e) hs hn hf (f := f) m (v + 1) (aI (fr + v * 4)) (aI (f v 1)) (aI (f v 2)) (aI (f v 3)) (aI (f v 4)) u (by omega) (by omega) (fun p hp => by rw [o p (by omega)]; exact hS p hp) (by omega) (by rw [o 19 (by omega)]; exact hc) (fun j j0 j1 k k1 k4 => by rw [o 75 (by omega)]; exact hrow j (by omega) j1 k k1 k4) (fun j j0 j1 k k1 k4 => by
        by_cases hj : j = h 45 4
        · rw [hj]
          have hv' : f (h 45 4) k = f v k := by rw [h45]
          rw [hv']
          have : k = 1 ∨ k = 2 ∨ k = 3 ∨ k = 4 := by omega
          rcases this with rfl | rfl | rfl | rfl
          · exact c4.1
          · exact c4.2.1
          · exact c4.2.2.1
          · exact c4.2.2.2
        · rw [cw j hj k ⟨k1, k4⟩]; exact hdone j j0 (by omega) k k1 k4)
      rw [o 19 (by omega)] at g2 g4
      refine ⟨r, g, g1, g2, fun hr p hp => by rw [g3 hr p hp, o p hp], fun hr => ?_⟩
      obtain ⟨y1, y2, y3, y4⟩ := g4 hr
      refine ⟨fun p hp => by rw [y1 p hp, o p (by omega)], y2, y3, fun k k1 k4 i i0 i1 => ?_⟩
      rw [y4 k k1 k4 i i0 i1, o (19 + k) (by omega)]
theorem case_30 (L : Nat) (xs : Nat → Int32) : Cs_30 L xs := by
  intro h hI a1 a2 a3 a4 r1 r2 r3 r4
  have hS := hI.1
  have hH := hI.2.2.2.2.2.1
  have e1 : wr a1 = a1 := wr_id r1.1 r1.2
  have e2 : wr a2 = a2 := wr_id r2.1 r2.2
  have e4 : wr a4 = a4 := wr_id r4.1 r4.2
  have hcn : h 19 4 = h 81 24 := hI.2.1.2.2.2.1.1
  have hcb := hI.2.2.1.2.2.2.1.1
  cases hs : sl a1 a2
  · refine ⟨-1, h, h, ?_, hS, ?_, hI⟩
    · show X (30, 0, [aR 0, aI a1, aI a2, aI a3, aI a4, aN, aN, aN, aN, aN, aN, aN], [], h) = _
      rw [e30_0, s_asl, bI_some, d_bi0, e1, e2, hs, Bool.not_false, cond_t]
    · show X (119, 0, [aR 80, aI a1, aI a2, aI a3, aI a4, aN, aN, aN], [], h) = _
      rw [e119_0, m_isSheet, bI_some, d_bi0, e1, e2, hs, Bool.not_false, cond_t]
  have hs' : (0 ≤ a1 ∧ a1 < 4) ∧ (0 ≤ a2 ∧ a2 < 3) := of_decide_eq_true hs
  by_cases hn : 1 ≤ a4 ∧ a4 ≤ 6
  · have rr := rfu_r h a1 a2 a3 (4 * a4)
    have k1 : ∃ c, X (30, 0, [aR 0, aI a1, aI a2, aI a3, aI a4, aN, aN, aN, aN, aN, aN, aN], [], h) = cond (decide (rfu h a1 a2 a3 (4 * a4) = 0)) (X (30, 61, [aR 0, aI a1, aI a2, aI a3, aI a4, aI c, aI 0, aN, aN, aN, aN, aN], [], up h 45 4 0)) (some (some (rfu h a1 a2 a3 (4 * a4)), h)) := by
      refine ⟨rfu h a1 a2 a3 (4 * a4), ?_⟩
      rw [e30_0, s_asl, bI_some, d_bi0, e1, e2, hs, Bool.not_true, cond_f, e4, cd_f (by omega), cd_t hn.2, Int.mul_comm a4 4, s_refu hH hs r3 (by omega), bI_some, wr_id (x := rfu h a1 a2 a3 (4 * a4)) (by omega) (by omega)]
    have k2 : ∀ g : Hp, (∀ p, p = 95 ∨ p = 96 → g p = h p) → ∃ c, X (119, 0, [aR 80, aI a1, aI a2, aI a3, aI a4, aN, aN, aN], [], g) = cond (decide (rfu h a1 a2 a3 (4 * a4) = 0)) (X (119, 55, [aR 80, aI a1, aI a2, aI a3, aI a4, aI c, aI (24 * a1 + a3), aI 0], [], g)) (some (some (rfu h a1 a2 a3 (4 * a4)), g)) := by
      intro g hg
      refine ⟨rfu h a1 a2 a3 (4 * a4), ?_⟩
      have er : rfu g a1 a2 a3 (4 * a4) = rfu h a1 a2 a3 (4 * a4) := by unfold rfu; rw [hg 95 (Or.inl rfl), hg 96 (Or.inr rfl)]
      have hl : X (116, 0, [aR 80, aI a1, aI a2, aI a3, aI (4 * a4)], [], g) = some (some (rfu h a1 a2 a3 (4 * a4)), g) := by
        obtain ⟨p, q⟩ := hs'
        obtain ⟨y1, y2, y3⟩ := hH a1 p.1 p.2
        unfold Rg at r3
        rw [e116_0, inb_t p.1 p.2 (by omega), cond_t, hg 95 (Or.inl rfl), hg 96 (Or.inr rfl), e1, wr_id (x := h 95 a1) (by omega) (by omega), e2]
        unfold rfu
        by_cases p1 : h 95 a1 = a2
        · have y3 := y3 (by omega)
          rw [cd_t p1, cond_t, if_neg (by omega), if_pos p1, wr_id (x := h 96 a1 - 4 * a4) (by omega) (by omega), s_inw g (by omega) (by omega), bI_some, d_bi0, wr_id (x := a3) (by omega) (by omega)]
          unfold iin
          by_cases p3 : 0 ≤ a3 ∧ a3 ≤ h 96 a1 - 4 * a4
          · rw [decide_eq_true p3, Bool.not_true, cond_f, if_pos p3]
          · rw [decide_eq_false p3, Bool.not_false, cond_t, if_neg p3]
        · rw [cd_f p1, cond_t, if_neg p1]
          by_cases p0 : h 95 a1 < 0
          · rw [cd_f (by omega), if_pos p0]
          · rw [cd_t (by omega), if_neg p0]
      rw [e119_0, m_isSheet, bI_some, d_bi0, e1, e2, hs, Bool.not_true, cond_f, e4, s_in g (by omega) (by omega) (by omega), bI_some, d_bi1, show iin a4 1 6 = true from decide_eq_true hn, cond_t, hl, bI_some, wr_id (x := rfu h a1 a2 a3 (4 * a4)) (by omega) (by omega)]
      by_cases z : rfu h a1 a2 a3 (4 * a4) = 0
      · rw [cd_t z, cd_t (by omega)]
      · rw [cd_f z, cd_f (by omega)]
    obtain ⟨c1, k1⟩ := k1
    by_cases p : rfu h a1 a2 a3 (4 * a4) = 0
    · have hp : h 95 a1 = a2 ∧ 0 ≤ a3 ∧ a3 ≤ h 96 a1 - 4 * a4 := by
        unfold rfu at p
        by_cases z1 : h 95 a1 < 0
        · rw [if_pos z1] at p; omega
        · rw [if_neg z1] at p
          by_cases z2 : h 95 a1 = a2
          · rw [if_pos z2] at p
            by_cases z3 : 0 ≤ a3 ∧ a3 ≤ h 96 a1 - 4 * a4
            · exact ⟨z2, z3⟩
            · rw [if_neg z3] at p; omega
          · rw [if_neg z2] at p; omega
      obtain ⟨y1, y2, y3⟩ := hH a1 hs'.1.1 hs'.1.2
      have y3 := y3 (by omega)
      rw [cd_t p] at k1
      have u19 : up h 45 4 0 19 = h 19 := up_n _ _ _ (by decide)
      have u75 : up h 45 4 0 75 = h 75 := up_n _ _ _ (by decide)
      have hrg : ∀ j, 24 * a1 ≤ j → j < 24 * a1 + 24 → h 75 j = h 97 j ∧ Rg (h 97 j) := fun j j0 j1 => by
        have q := y3.2.2 (j - 24 * a1) (by omega) (by omega)
        rw [show 24 * a1 + (j - 24 * a1) = j by omega] at q
        exact q
      obtain ⟨r, g, g1, g2, g3, g4⟩ := s_crowdL (L := L) (xs := xs) (lane := a2) (e := c1) hs'.1 hn (fr := a3) (by omega) (f := itm h (24 * a1 + a3)) a4.toNat 0 aN aN aN aN aN (up h 45 4 0) (by omega) (by omega) (fun p hp => by rw [up_n _ _ _ (by omega)]; exact hS p hp) (up_s _ _ _ _) (by rw [u19]; omega) (fun j j0 j1 k k0 k4 => by
        rw [u75]
        unfold itm
        have q := hrg (24 * a1 + (a3 + 4 * j + k - 1)) (by omega) (by omega)
        rw [show 24 * a1 + a3 + 4 * j + k - 1 = 24 * a1 + (a3 + 4 * j + k - 1) by omega]
        exact q) (fun j j0 j1 => by omega)
      rw [u19] at g2 g4
      have q1 := k1.trans g1
      have o95 : ∀ (G : Hp), (∀ p, ¬ (p = 1 ∨ (19 ≤ p ∧ p ≤ 23) ∨ (45 ≤ p ∧ p ≤ 49)) → G p = h p) → ∃ r2 h2, X (119, 0, [aR 80, aI a1, aI a2, aI a3, aI a4, aN, aN, aN], [], G) = some (some r2, h2) ∧ r2 = (if allL (itm h (24 * a1 + a3)) a4.toNat 0 = true then (if h 81 24 + a4 ≤ 12 then a4 else -3) else -2) ∧ (r2 < 0 → h2 = G) ∧ (0 < r2 → mA G (itm h (24 * a1 + a3)) a4 h2) := by
        intro G hG
        obtain ⟨c2, k2⟩ := k2 G (fun p hp => hG p (by omega))
        rw [cd_t p] at k2
        have e81 : G 81 = h 81 := hG 81 (by omega)
        have e97 : G 97 = h 97 := hG 97 (by omega)
        have ei : itm G (24 * a1 + a3) = itm h (24 * a1 + a3) := by funext j k; unfold itm; rw [e97]
        have k3 := m_crowdC (s := a1) (lane := a2) (fr := a3) (e := c2) (to := 24 * a1 + a3) hn (by omega) (h := G) (by rw [e81]; omega) (fun i i0 i1 => by rw [e97]; exact (hrg i (by omega) (by omega)).2) a4.toNat 0 (by omega) (by omega)
        rw [ei, e81] at k3
        by_cases z1 : allL (itm h (24 * a1 + a3)) a4.toNat 0 = true
        · rw [if_pos z1] at k3 ⊢
          by_cases z2 : h 81 24 + a4 ≤ 12
          · rw [if_pos z2] at k3 ⊢
            obtain ⟨h2, k4, k5⟩ := m_crowdA (s := a1) (lane := a2) (fr := a3) (e := c2) (to := 24 * a1 + a3) hn (by omega) a4.toNat 0 G (by omega) (by omega) (by rw [e81]; omega) (by rw [e81]; omega)
            refine ⟨a4, h2, k2.trans (k3.trans k4), rfl, fun q => by omega, fun _ => ?_⟩
            rw [ei, show ((a4.toNat : Nat) : Int) = a4 by omega] at k5
            have ef : (fun j k => itm h (24 * a1 + a3) (j + 0) k) = itm h (24 * a1 + a3) := by funext j k; rw [Int.add_zero]
            rw [ef] at k5
            exact k5
          · rw [if_neg z2] at k3 ⊢
            exact ⟨-3, G, k2.trans k3, rfl, fun _ => rfl, fun q => by omega⟩
        · rw [if_neg z1] at k3 ⊢
          exact ⟨-2, G, k2.trans k3, rfl, fun _ => rfl, fun q => by omega⟩
      by_cases hr : 0 < r
      · obtain ⟨x1, x2, x3, x4⟩ := g4 hr
        have hG : ∀ p, ¬ (p = 1 ∨ (19 ≤ p ∧ p ≤ 23) ∨ (45 ≤ p ∧ p ≤ 49)) → g p = h p := fun p hp => by rw [x1 p hp, up_n _ _ _ (by omega)]
        obtain ⟨r2, h2, k3, k4, k5, k6⟩ := o95 g hG
        rw [hcn] at g2
        have err : r2 = r := by rw [k4, g2]
        rw [err] at k3 k4 k5 k6
        obtain ⟨m1, m2, m3, m4⟩ := k6 hr
        have z1 : allL (itm h (24 * a1 + a3)) a4.toNat 0 = true := by
          cases hz : allL (itm h (24 * a1 + a3)) a4.toNat 0
          · rw [hz, if_neg (by decide)] at k4; omega
          · rfl
        have z2 : h 81 24 + a4 ≤ 12 := by
          rw [if_pos z1] at k4
          by_cases z : h 81 24 + a4 ≤ 12
          · exact z
          · rw [if_neg z] at k4; omega
        have e81 : g 81 = h 81 := hG 81 (by omega)
        rw [e81] at m2 m3 m4
        refine ⟨r, g, h2, q1, fun p hp => by rw [hG p (by omega)]; exact hS p hp, k3, inv_app (n := a4) (itm h (24 * a1 + a3)) hI (by omega) z2 (fun j j0 j1 => allL_t _ 0 z1 j j0 (by omega)) (fun p hp => by rw [m1 p (by omega), hG p (by omega)]) ⟨by rw [m1 80 (by decide), hG 80 (by omega)], by rw [m1 80 (by decide), hG 80 (by omega)]⟩ (by rw [m1 1 (by decide)]; exact x2) (by rw [m1 19 (by decide)]; exact x3) (fun k a b i i0 i1 => by rw [m1 (19 + k) (by omega), x4 k a b i i0 i1, up_n _ _ _ (by omega)]) m2 m3 m4⟩
      · have hr' : r < 0 := by
          rw [g2] at hr ⊢
          split <;> (try split) <;> (try omega)
          rename_i z1 z2
          rw [if_pos z1, if_pos z2] at hr; omega
        have fr := g3 hr'
        have hG : ∀ p, (p < 45 ∨ 49 < p) → g p = h p := fun p hp => by rw [fr p hp, up_n _ _ _ (by omega)]
        obtain ⟨r2, h2, k3, k4, k5, k6⟩ := o95 g (fun p hp => hG p (by omega))
        rw [hcn] at g2
        have err : r2 = r := by rw [k4, g2]
        rw [err] at k3 k4 k5 k6
        have e2g := k5 hr'
        rw [e2g] at k3
        refine ⟨r, g, g, q1, fun p hp => by rw [hG p (by omega)]; exact hS p hp, k3, ?_⟩
        exact inv_quiet hI (fun p hp => hG p (by omega)) ⟨by rw [hG 80 (by omega)], by rw [hG 80 (by omega)]⟩
    · rw [cd_f p] at k1
      obtain ⟨c2, k2⟩ := k2 h (fun _ _ => rfl)
      rw [cd_f p] at k2
      exact ⟨_, h, h, k1, hS, k2, hI⟩
  · refine ⟨-1, h, h, ?_, hS, ?_, hI⟩
    · show X (30, 0, [aR 0, aI a1, aI a2, aI a3, aI a4, aN, aN, aN, aN, aN, aN, aN], [], h) = _
      rw [e30_0, s_asl, bI_some, d_bi0, e1, e2, hs, Bool.not_true, cond_f, e4]
      by_cases z : a4 < 1
      · rw [cd_t z]
      · rw [cd_f z, cd_f (by omega)]
    · show X (119, 0, [aR 80, aI a1, aI a2, aI a3, aI a4, aN, aN, aN], [], h) = _
      rw [e119_0, m_isSheet, bI_some, d_bi0, e1, e2, hs, Bool.not_true, cond_f, e4, s_in h (by unfold Rg at r4; omega) (by omega) (by omega), bI_some, d_bi1, show iin a4 1 6 = false from decide_eq_false hn, cond_f]
