/-! a day begins -/
theorem up_o' (h : Hp) (p : Nat) {q : Nat} {k j : Int} (x : Int) (hj : j ≠ k) : up h p k x q j = h q j := by unfold up; rw [if_neg (fun z => hj z.2)]
theorem s_insert {d : Nat} (hd : d = 1 ∨ d = 27) {n p : Int} (pb : 0 ≤ p ∧ p < n ∧ n ≤ 12) (l0 : Int → Int) : ∀ (k : Nat) (s : Int) (h : Hp), s = k → s ≤ p → (∀ j, 0 ≤ j → j < n → 0 ≤ h (d + 19) j ∧ h (d + 19) j < 240) → (∀ k, 0 ≤ k → k < p → 0 ≤ l0 k ∧ l0 k < p) → (∀ k l, 0 ≤ k → k < l → l < p → h (d + 19) (l0 k) < h (d + 19) (l0 l) ∨ (h (d + 19) (l0 k) = h (d + 19) (l0 l) ∧ l0 k < l0 l)) → (∀ i, 0 ≤ i → i < p → ∃ k, 0 ≤ k ∧ k < p ∧ l0 k = i) → (∀ k, 0 ≤ k → k < s → h (d + 8) k = l0 k) → (∀ k, s < k → k ≤ p → h (d + 8) k = l0 (k - 1)) → (∀ k, s ≤ k → k < p → h (d + 19) p < h (d + 19) (l0 k)) →
    ∃ g, X (132, 13, [aR d, aI p, aR (d + 19), aI s], [], h) = some (none, g) ∧ (∀ q, q ≠ d + 8 → g q = h q) ∧ LnOK d (p + 1) g := by
  -- what the end comes to
  have fin : ∀ (s : Int) (h : Hp), 0 ≤ s → s ≤ p → (∀ k, 0 ≤ k → k < p → 0 ≤ l0 k ∧ l0 k < p) → (∀ k l, 0 ≤ k → k < l → l < p → h (d + 19) (l0 k) < h (d + 19) (l0 l) ∨ (h (d + 19) (l0 k) = h (d + 19) (l0 l) ∧ l0 k < l0 l)) → (∀ i, 0 ≤ i → i < p → ∃ k, 0 ≤ k ∧ k < p ∧ l0 k = i) → (∀ k, 0 ≤ k → k < s → h (d + 8) k = l0 k) → (∀ k, s < k → k ≤ p → h (d + 8) k = l0 (k - 1)) → (∀ k, s ≤ k → k < p → h (d + 19) p < h (d + 19) (l0 k)) → (0 < s → h (d + 19) (l0 (s - 1)) ≤ h (d + 19) p) → LnOK d (p + 1) (up h (d + 8) s p) := by
    intro s h s0 s1 hr hs hu c1 c2 c3 c4
    have e19 : up h (d + 8) s p (d + 19) = h (d + 19) := up_n _ _ _ (by omega)
    have e8 : ∀ k, up h (d + 8) s p (d + 8) k = if k = s then p else h (d + 8) k := fun k => by unfold up; simp
    have le : ∀ k, 0 ≤ k → k < s → h (d + 19) (l0 k) ≤ h (d + 19) p := fun k k0 k1 => by
      by_cases a : k = s - 1
      · rw [a]; exact c4 (by omega)
      · have := hs k (s - 1) k0 (by omega) (by omega)
        have := c4 (by omega)
        omega
    unfold LnOK
    rw [e19]
    refine ⟨fun k k0 k1 => ?_, fun k l k0 kl l1 => ?_, fun i i0 i1 => ?_⟩
    · rw [e8]
      by_cases a : k = s
      · rw [if_pos a]; omega
      · rw [if_neg a]
        by_cases b : k < s
        · rw [c1 k k0 b]; have := hr k k0 (by omega); omega
        · rw [c2 k (by omega) (by omega)]; have := hr (k - 1) (by omega) (by omega); omega
    · rw [e8, e8]
      by_cases a : k = s
      · rw [if_pos a, if_neg (by omega), c2 l (by omega) (by omega)]
        exact Or.inl (c3 (l - 1) (by omega) (by omega))
      · rw [if_neg a]
        by_cases b : l = s
        · rw [if_pos b, c1 k k0 (by omega)]
          have h1 := le k k0 (by omega)
          have h2 := hr k k0 (by omega)
          omega
        · rw [if_neg b]
          by_cases e : l < s
          · rw [c1 k k0 (by omega), c1 l (by omega) e]; exact hs k l k0 kl (by omega)
          · rw [c2 l (by omega) (by omega)]
            by_cases f : k < s
            · rw [c1 k k0 f]
              by_cases g : k = l - 1
              · omega
              · exact hs k (l - 1) k0 (by omega) (by omega)
            · rw [c2 k (by omega) (by omega)]; exact hs (k - 1) (l - 1) (by omega) (by omega) (by omega)
    · by_cases a : i = p
      · exact ⟨s, s0, by omega, by rw [e8, if_pos rfl, a]⟩
      · obtain ⟨k, k0, k1, k2⟩ := hu i i0 (by omega)
        by_cases b : k < s
        · exact ⟨k, k0, by omega, by rw [e8, if_neg (by omega), c1 k k0 b, k2]⟩
        · exact ⟨k + 1, by omega, by omega, by rw [e8, if_neg (by omega), c2 (k + 1) (by omega) (by omega), show k + 1 - 1 = k by omega, k2]⟩
  intro k
  induction k with
  | zero =>
    intro s h hk s1 hm hr hs hu c1 c2 c3
    refine ⟨up h (d + 8) s p, ?_, fun q hq => up_n _ _ _ hq, fin s h (by omega) s1 hr hs hu c1 c2 c3 (fun a => by omega)⟩
    rw [e132_13 hd, wr_id (x := s) (by omega) (by omega), cd_t (by omega), inb_t (by omega) (by omega) (by omega), cond_t]
  | succ k ih =>
    intro s h hk s1 hm hr hs hu c1 c2 c3
    have a1 := c1 (s - 1) (by omega) (by omega)
    have a2 := hr (s - 1) (by omega) (by omega)
    have a3 := hm (l0 (s - 1)) a2.1 (by omega)
    have a4 := hm p pb.1 pb.2.1
    have e := e132_13 hd p s h
    rw [wr_id (x := s) (by omega) (by omega), cd_f (by omega), wr_id (x := s - 1) (by omega) (by omega), a1, wr_id (x := l0 (s - 1)) (by omega) (by omega), wr_id (x := p) (by omega) (by omega), wr_id (x := h (d + 19) (l0 (s - 1))) (by omega) (by omega), wr_id (x := h (d + 19) p) (by omega) (by omega), inb_t (i := s - 1) (by omega) (by omega) (by omega), inb_t (i := l0 (s - 1)) (by omega) (by omega) (by omega), inb_t (i := p) (by omega) (by omega) (by omega), inb_t (i := s) (by omega) (by omega) (by omega)] at e
    simp only [cond_t] at e
    by_cases c : h (d + 19) (l0 (s - 1)) ≤ h (d + 19) p
    · rw [cd_t c] at e
      exact ⟨up h (d + 8) s p, e, fun q hq => up_n _ _ _ hq, fin s h (by omega) s1 hr hs hu c1 c2 c3 (fun _ => c)⟩
    · rw [cd_f c, show s + (-1) = s - 1 by omega] at e
      have e19 : up h (d + 8) s (l0 (s - 1)) (d + 19) = h (d + 19) := up_n _ _ _ (by omega)
      obtain ⟨g, g1, g2, g3⟩ := ih (s - 1) (up h (d + 8) s (l0 (s - 1))) (by omega) (by omega) (by rw [e19]; exact hm) hr (by rw [e19]; exact hs) hu (fun j j0 j1 => by rw [up_o _ _ _ (by omega)]; exact c1 j j0 (by omega)) (fun j j0 j1 => by
        by_cases a : j = s
        · rw [a, up_s]
        · rw [up_o _ _ _ a]; exact c2 j (by omega) j1) (fun j j0 j1 => by
        rw [e19]
        by_cases a : j = s - 1
        · rw [a]; omega
        · exact c3 j (by omega) j1)
      exact ⟨g, e.trans g1, fun q hq => by rw [g2 q hq, up_n _ _ _ hq], g3⟩
theorem s_heads {d : Nat} {io : Int → Int} {n : Int} {Z : Int → Int} {pl ru th : Int} {h : Hp} (hd : d = 1 ∨ d = 27) (hZ : ZD Z) (D : Dat d io n Z pl ru th h) {i : Int} (i0 : 0 ≤ i) (i1 : i < n) : X (162, 0, [aR (d + 18), aI i], [], h) = some (some (zSz Z (io i)), h) := by
  obtain ⟨y0, y1, y2, y3, y4⟩ := D.2.2.1 i i0 i1
  have hn := D.1
  have ki := zK_r hZ (pl := pl) y0.1 y0.2
  have e := e162_0 (d := d + 18) (by omega) i h
  rw [inb_t i0 (by omega) (by omega), wr_id (x := i) (by omega) (by omega), show d + 18 + 2 = d + 20 by omega, show d + 18 + 4 = d + 22 by omega, y2, wr_id (x := zK Z pl (io i)) (by omega) (by omega)] at e
  rw [e]
  unfold zSz
  have hk : zK Z pl (io i) = 2 ↔ zkd Z (io i) = 2 := by unfold zK; split <;> omega
  by_cases c : zK Z pl (io i) = 2
  · rw [cond_t, cd_f (by omega), cond_t, if_pos (hk.mp c), y4 (by omega)]
  · rw [cond_t, cd_t c, if_neg (fun a => c (hk.mpr a))]
def Pre (d : Nat) (io : Int → Int) (Z : Int → Int) (pl i : Int) (h : Hp) : Prop := (∀ j, 0 ≤ j → j < i → h (d + 1) j = 0 ∧ h (d + 2) j = 0 ∧ h (d + 3) j = -4 ∧ h (d + 4) j = -4 ∧ h (d + 6) j = zSz Z (io j) ∧ h (d + 7) j = zPl Z pl (io j) (zmn Z (io j))) ∧ LnOK d i h
theorem s_prepL {d : Nat} {io : Int → Int} {n : Int} {Z : Int → Int} {pl ru th : Int} (hd : d = 1 ∨ d = 27) (hZ : ZD Z) : ∀ (k : Nat) (i : Int) (h : Hp), 0 ≤ i → i + k = n → Dat d io n Z pl ru th h → Pre d io Z pl i h → ∃ g, X (131, 42, [aR d, aI i], [], h) = some (none, g) ∧ (∀ p, (p < d + 1 ∨ d + 8 < p) → g p = h p) ∧ Pre d io Z pl n g
  | 0, i, h, i0, hk, D, P => by
    have hn := D.1
    have h4 := D.2.1
    have hi : i = n := by omega
    refine ⟨h, ?_, fun _ _ => rfl, by rw [← hi]; exact P⟩
    rw [e131_42 hd, h4, wr_id (x := n) (by omega) (by omega), wr_id (x := i) (by omega) (by omega), cd_t (by omega)]
  | k + 1, i, h, i0, hk, D, P => by
    have hn := D.1
    have h4 := D.2.1
    have i1 : i < n := by omega
    have ii : inb 12 i = true := inb_t i0 (by omega) (by omega)
    have wi : wr i = i := wr_id (by omega) (by omega)
    have y := D.2.2.1 i i0 i1
    have ki := zK_r hZ (pl := pl) y.1.1 y.1.2
    -- the rows written, place by place
    have two : ∀ (w : Int) (a b : Hp), a = up (up (up (up (up h (d + 1) i 0) (d + 2) i 0) (d + 3) i (-4)) (d + 4) i (-4)) (d + 5) i 0 → b = up (up a (d + 6) i (zSz Z (io i))) (d + 7) i w → w = zPl Z pl (io i) (zmn Z (io i)) → ∃ g, bV (X (132, 0, [aR d, aI i, aN, aN], [], b)) (fun h2 => X (131, 42, [aR d, aI (i + 1)], [], h2)) = some (none, g) ∧ (∀ p, (p < d + 1 ∨ d + 8 < p) → g p = h p) ∧ Pre d io Z pl n g := by
      intro w a b ha hb hw
      have bo : ∀ p, (p < d + 1 ∨ d + 7 < p) → b p = h p := fun p hp => by
        rw [hb, up_n _ _ _ (by omega), up_n _ _ _ (by omega), ha, up_n _ _ _ (by omega), up_n _ _ _ (by omega), up_n _ _ _ (by omega), up_n _ _ _ (by omega), up_n _ _ _ (by omega)]
      have bj : ∀ p j, j ≠ i → b p j = h p j := fun p j hj => by
        rw [hb, up_o' _ _ _ hj, up_o' _ _ _ hj, ha, up_o' _ _ _ hj, up_o' _ _ _ hj, up_o' _ _ _ hj, up_o' _ _ _ hj, up_o' _ _ _ hj]
      have b1 : b (d + 1) i = 0 := by rw [hb, up_n _ _ _ (by omega), up_n _ _ _ (by omega), ha, up_n _ _ _ (by omega), up_n _ _ _ (by omega), up_n _ _ _ (by omega), up_n _ _ _ (by omega), up_s]
      have b2 : b (d + 2) i = 0 := by rw [hb, up_n _ _ _ (by omega), up_n _ _ _ (by omega), ha, up_n _ _ _ (by omega), up_n _ _ _ (by omega), up_n _ _ _ (by omega), up_s]
      have b3 : b (d + 3) i = -4 := by rw [hb, up_n _ _ _ (by omega), up_n _ _ _ (by omega), ha, up_n _ _ _ (by omega), up_n _ _ _ (by omega), up_s]
      have b4 : b (d + 4) i = -4 := by rw [hb, up_n _ _ _ (by omega), up_n _ _ _ (by omega), ha, up_n _ _ _ (by omega), up_s]
      have b6 : b (d + 6) i = zSz Z (io i) := by rw [hb, up_n _ _ _ (by omega), up_s]
      have b7 : b (d + 7) i = zPl Z pl (io i) (zmn Z (io i)) := by rw [hb, up_s, hw]
      have DB : Dat d io n Z pl ru th b := Dat_c (fun p p1 p2 => bo p (by omega)) D
      have LB : LnOK d i b := by
        have := P.2
        unfold LnOK at this ⊢
        rw [bo (d + 8) (by omega), bo (d + 19) (by omega)]; exact this
      obtain ⟨g, g1, g2, g3⟩ := s_insert hd (n := n) (p := i) ⟨i0, i1, hn.2⟩ (b (d + 8)) i.toNat i b (by omega) (by omega) (fun j j0 j1 => by
        have z := DB.2.2.1 j j0 j1
        rw [z.2.1]
        exact (zd_row hZ z.1.1 z.1.2).1) LB.1 LB.2.1 LB.2.2 (fun _ _ _ => rfl) (fun k k0 k1 => by omega) (fun k k0 k1 => by omega)
      obtain ⟨f, f1, f2, f3⟩ := s_prepL hd hZ k (i + 1) g (by omega) (by omega) (Dat_c (fun p p1 p2 => g2 p (by omega)) DB) ⟨fun j j0 j1 => by
        rw [g2 (d + 1) (by omega), g2 (d + 2) (by omega), g2 (d + 3) (by omega), g2 (d + 4) (by omega), g2 (d + 6) (by omega), g2 (d + 7) (by omega)]
        by_cases c : j = i
        · rw [c]; exact ⟨b1, b2, b3, b4, b6, b7⟩
        · rw [bj _ j c, bj _ j c, bj _ j c, bj _ j c, bj _ j c, bj _ j c]; exact P.1 j j0 (by omega), g3⟩
      refine ⟨f, by rw [e132_0 hd, g1, bV_some, f1], fun p hp => by rw [f2 p hp, g2 p (by omega), bo p (by omega)], f3⟩
    generalize ha : up (up (up (up (up h (d + 1) i 0) (d + 2) i 0) (d + 3) i (-4)) (d + 4) i (-4)) (d + 5) i 0 = a
    have ao : ∀ p, (p < d + 1 ∨ d + 5 < p) → a p = h p := fun p hp => by
      rw [← ha, up_n _ _ _ (by omega), up_n _ _ _ (by omega), up_n _ _ _ (by omega), up_n _ _ _ (by omega), up_n _ _ _ (by omega)]
    have hh := s_heads (h := a) hd hZ (Dat_c (fun p p1 p2 => ao p (by omega)) D) i0 i1
    rw [e131_42 hd, h4, wr_id (x := n) (by omega) (by omega), wi, cd_f (by omega), ii]
    simp only [cond_t]
    rw [ha, hh, bI_some, up_n _ _ _ (by omega), ao (d + 20) (by omega), y.2.2.1, wr_id (x := zK Z pl (io i)) (by omega) (by omega), up_n _ _ _ (by omega), ao (d + 19) (by omega), up_n _ _ _ (by omega), ao (d + 22) (by omega)]
    by_cases c : zK Z pl (io i) = 4
    · rw [cd_f (by omega)]
      refine two (h (d + 22) i) a _ ha.symm rfl ?_
      unfold zPl
      rw [if_pos c]; exact y.2.2.2.2 (by omega)
    · rw [cd_t c]
      refine two (h (d + 19) i) a _ ha.symm rfl ?_
      rw [y.2.1]
      have hr := zd_row hZ y.1.1 y.1.2
      unfold zPl
      rw [if_neg c, if_neg (by omega)]
