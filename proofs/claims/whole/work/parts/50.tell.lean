/-! who comes is not forgotten; what begins or goes does so in its minute -/
def Nw (Z : Int → Int) (m : Int) (h g : Hp) : Prop := ∀ p, 0 ≤ p → p < Z 24 → (g 84 p = 2 → (h 84 p = 2 ∧ g 89 p = h 89 p) ∨ g 89 p = m) ∧ (g 84 p = 3 → (h 84 p = 3 ∧ g 86 p = h 86 p) ∨ g 86 p = m)
theorem Nw_0 (Z : Int → Int) (m : Int) (h : Hp) : Nw Z m h h := fun p _ _ => ⟨fun a => Or.inl ⟨a, rfl⟩, fun a => Or.inl ⟨a, rfl⟩⟩
theorem Nw_t {Z : Int → Int} {m : Int} {h g f : Hp} (A : Nw Z m h g) (B : Nw Z m g f) : Nw Z m h f := fun p p0 p1 => by
  obtain ⟨a1, a2⟩ := A p p0 p1
  obtain ⟨b1, b2⟩ := B p p0 p1
  refine ⟨fun z => ?_, fun z => ?_⟩
  · rcases b1 z with ⟨y, e⟩ | y
    · rcases a1 y with ⟨x, e2⟩ | x
      · exact Or.inl ⟨x, e.trans e2⟩
      · exact Or.inr (e.trans x)
    · exact Or.inr y
  · rcases b2 z with ⟨y, e⟩ | y
    · rcases a2 y with ⟨x, e2⟩ | x
      · exact Or.inl ⟨x, e.trans e2⟩
      · exact Or.inr (e.trans x)
    · exact Or.inr y
theorem m_comeC {N m : Int} (m0 : 0 ≤ m ∧ m < 240) : ∀ (k : Nat) (q : Int) (w : AV) (h : Hp), 0 ≤ q → q + k = N → ZD (h 81) → h 81 24 = N → (∀ p, 0 ≤ p → p < N → (0 ≤ h 84 p ∧ h 84 p ≤ 4) ∧ (h 84 p = 4 → zmn (h 81) p ≤ m)) → (0 ≤ h 80 9 ∧ h 80 9 ≤ 240) → ∃ g, X (80, 2, [aR 80, aI m, aI q, w], [], h) = some (none, g) ∧ (∀ p, 0 ≤ p → p < N → h 84 p ≠ 0 → g 84 p ≠ 0) ∧ (∀ p, q ≤ p → p < N → zmn (h 81) p = m → m < h 80 9 → g 84 p ≠ 0) ∧ Nw (h 81) m h g
  | 0, q, w, h, q0, hk, hZ, hN, hf, h9 => by
    have hn := zd_n hZ
    refine ⟨h, ?_, fun p _ _ z => z, fun p p0 p1 => by omega, Nw_0 _ _ _⟩
    rw [e80_2, hN, wr_id (x := N) (by omega) (by omega), wr_id (x := q) (by omega) (by omega), cd_t (by omega)]
  | k + 1, q, w, h, q0, hk, hZ, hN, hf, h9 => by
    have hn := zd_n hZ
    have hr := (zd_row hZ q0 (by omega : q < h 81 24)).1
    have mof : X (50, 0, [aR 80, aI q, aI 0], [], h) = some (some (zmn (h 81) q), h) := by
      rw [m_of q0 (by omega) (by decide) (by decide), Int.add_zero]; rfl
    have i1 : inb 12 q = true := inb_t q0 (by omega) (by omega)
    rw [e80_2, hN, wr_id (x := N) (by omega) (by omega), wr_id (x := q) (by omega) (by omega), cd_f (by omega), mof, bI_some, wr_id (x := zmn (h 81) q) (by omega) (by omega), wr_id (x := m) (by omega) (by omega)]
    have skip : (zmn (h 81) q = m → ¬ m < h 80 9) → ∃ g, X (80, 2, [aR 80, aI m, aI (q + 1), w], [], h) = some (none, g) ∧ (∀ p, 0 ≤ p → p < N → h 84 p ≠ 0 → g 84 p ≠ 0) ∧ (∀ p, q ≤ p → p < N → zmn (h 81) p = m → m < h 80 9 → g 84 p ≠ 0) ∧ Nw (h 81) m h g := fun no => by
      obtain ⟨g, g1, g2, g3, g4⟩ := m_comeC (N := N) m0 k (q + 1) w h (by omega) (by omega) hZ hN hf h9
      exact ⟨g, g1, g2, fun p p0 p1 p2 p3 => by
        by_cases e : p = q
        · subst e; exact absurd p3 (no p2)
        · exact g3 p (by omega) p1 p2 p3, g4⟩
    by_cases c : zmn (h 81) q ≠ m
    · rw [cd_t c]
      exact skip (fun e => absurd e c)
    · rw [cd_f c, wr_id (x := h 80 9) (by omega) (by omega)]
      by_cases c2 : h 80 9 ≤ m
      · rw [cd_t c2]
        exact skip (fun _ => by omega)
      · have mw := m_waiting hZ m0 (fun p p0 p1 => hf p p0 (by omega))
        have put : ∀ (f : Int) (w' : AV), (f = 1 ∨ f = 4) → ∃ g, X (80, 2, [aR 80, aI m, aI (q + 1), w'], [], up h 84 q f) = some (none, g) ∧ (∀ p, 0 ≤ p → p < N → h 84 p ≠ 0 → g 84 p ≠ 0) ∧ (∀ p, q ≤ p → p < N → zmn (h 81) p = m → m < h 80 9 → g 84 p ≠ 0) ∧ Nw (h 81) m h g := fun f w' hf' => by
          have u81 : up h 84 q f 81 = h 81 := up_n _ _ _ (by decide)
          have u80 : up h 84 q f 80 = h 80 := up_n _ _ _ (by decide)
          have uq : up h 84 q f 84 q = f := up_s _ _ _ _
          have uo : ∀ p, p ≠ q → up h 84 q f 84 p = h 84 p := fun p hp => up_o _ _ _ hp
          obtain ⟨g, g1, g2, g3, g4⟩ := m_comeC (N := N) m0 k (q + 1) w' (up h 84 q f) (by omega) (by omega) (by rw [u81]; exact hZ) (by rw [u81]; exact hN) (fun p p0 p1 => by
            rw [u81]
            by_cases e : p = q
            · subst e; rw [uq]; omega
            · rw [uo p e]; exact hf p p0 p1) (by rw [u80]; exact h9)
          rw [u81, u80] at g3
          rw [u81] at g4
          refine ⟨g, g1, fun p p0 p1 z => ?_, fun p p0 p1 p2 p3 => ?_, Nw_t (fun p p0 p1 => ?_) g4⟩
          · by_cases e : p = q
            · subst e; exact g2 p p0 p1 (by rw [uq]; omega)
            · exact g2 p p0 p1 (by rw [uo p e]; exact z)
          · by_cases e : p = q
            · subst e; exact g2 p (by omega) p1 (by rw [uq]; omega)
            · exact g3 p (by omega) p1 p2 p3
          · rw [up_n h q f (by decide : 89 ≠ 84), up_n h q f (by decide : 86 ≠ 84)]
            by_cases e : p = q
            · subst e; rw [uq]; exact ⟨fun z => by omega, fun z => by omega⟩
            · rw [uo p e]; exact ⟨fun z => Or.inl ⟨z, rfl⟩, fun z => Or.inl ⟨z, rfl⟩⟩
        rw [cd_f c2, mw.2, bI_some, m_sizeOf hZ q0 (by omega), bI_some, mw.1, i1]
        simp only [cond_t]
        by_cases c3 : wr (h 81 0) < wr (cnS (h 81) (h 84) + zSz (h 81) q)
        · rw [cd_t c3]; exact put 1 _ (Or.inl rfl)
        · rw [cd_f c3, bI_some]
          by_cases c4 : wr (jdiv (h 81 1 * cnt (h 81) (h 84)) 2) ≤ wr (h 81 2)
          · rw [cd_t c4]; exact put 4 _ (Or.inr rfl)
          · rw [cd_f c4]; exact put 1 _ (Or.inl rfl)
theorem m_tireC {N m : Int} (m0 : 0 ≤ m ∧ m < 240) : ∀ (k : Nat) (q : Int) (h : Hp), 0 ≤ q → q + k = N → ZD (h 81) → h 81 24 = N → (h 80 8 = 0 ∨ h 80 8 = 1) → ∃ g, X (81, 2, [aR 80, aI m, aI q], [], h) = some (none, g) ∧ Nw (h 81) m h g
  | 0, q, h, q0, hk, hZ, hN, h8 => by
    have hn := zd_n hZ
    refine ⟨h, ?_, Nw_0 _ _ _⟩
    rw [e81_2, hN, wr_id (x := N) (by omega) (by omega), wr_id (x := q) (by omega) (by omega), cd_t (by omega)]
  | k + 1, q, h, q0, hk, hZ, hN, h8 => by
    have hn := zd_n hZ
    have i1 : inb 12 q = true := inb_t q0 (by omega) (by omega)
    have ih := m_tireC (N := N) m0 k (q + 1) h (by omega) (by omega) hZ hN h8
    rw [e81_2, hN, wr_id (x := N) (by omega) (by omega), wr_id (x := q) (by omega) (by omega), cd_f (by omega), i1, m_kindOf hZ q0 (by omega) h8, bI_some, m_of q0 (by omega) (by omega) (by omega), bI_some, m_of q0 (by omega) (by omega) (by omega), bI_some]
    simp only [cond_t]
    by_cases c1 : wr (h 84 q) ≠ 4
    · rw [cd_t c1]; exact ih
    · rw [cd_f c1]
      by_cases c2 : wr (zK (h 81) (h 80 8) q) ≠ 5
      · rw [cd_t c2]; exact ih
      · rw [cd_f c2]
        by_cases c3 : wr (m - h 81 (67 + 4 * q + 0)) < wr (h 81 (67 + 4 * q + 3))
        · rw [cd_t c3]; exact ih
        · rw [cd_f c3]
          have u81 : up (up h 84 q 2) 89 q m 81 = h 81 := by rw [up_n _ _ _ (by decide), up_n _ _ _ (by decide)]
          have u80 : up (up h 84 q 2) 89 q m 80 = h 80 := by rw [up_n _ _ _ (by decide), up_n _ _ _ (by decide)]
          obtain ⟨g, g1, g2⟩ := m_tireC (N := N) m0 k (q + 1) (up (up h 84 q 2) 89 q m) (by omega) (by omega) (by rw [u81]; exact hZ) (by rw [u81]; exact hN) (by rw [u80]; exact h8)
          rw [u81] at g2
          refine ⟨g, g1, Nw_t (fun p p0 p1 => ?_) g2⟩
          rw [up_n (up h 84 q 2) q m (by decide : 84 ≠ 89), up_n (up h 84 q 2) q m (by decide : 86 ≠ 89), up_n h q 2 (by decide : 86 ≠ 84)]
          by_cases e : p = q
          · subst e; rw [up_s, up_s]; exact ⟨fun _ => Or.inr rfl, fun z => by omega⟩
          · rw [up_o _ _ _ e, up_o _ _ _ e, up_n h q 2 (by decide : 89 ≠ 84)]; exact ⟨fun z => Or.inl ⟨z, rfl⟩, fun z => Or.inl ⟨z, rfl⟩⟩
theorem m_beginC {N m : Int} (m0 : 0 ≤ m ∧ m < 240) : ∀ (k : Nat) (c : Int) (w3 w4 : AV) (h : Hp), 0 ≤ c → c + k = 3 → ZD (h 81) → h 81 24 = N → (h 80 8 = 0 ∨ h 80 8 = 1) → (0 ≤ h 80 6 ∧ h 80 6 ≤ 2) → (∀ p, 0 ≤ p → p < N → (0 ≤ h 84 p ∧ h 84 p ≤ 4) ∧ (h 84 p = 4 → zmn (h 81) p ≤ m)) → ∃ g, X (82, 2, [aR 80, aI m, aI c, w3, w4], [], h) = some (none, g) ∧ Nw (h 81) m h g
  | 0, c, w3, w4, h, q0, hk, hZ, hN, h8, h6, hf => by
    refine ⟨h, ?_, Nw_0 _ _ _⟩
    rw [e82_2, wr_id (x := c) (by omega) (by omega), cd_t (by omega)]
  | k + 1, c, w3, w4, h, q0, hk, hZ, hN, h8, h6, hf => by
    have hn := zd_n hZ
    have ih := fun w w' => m_beginC (N := N) m0 k (c + 1) w w' h (by omega) (by omega) hZ hN h8 h6 hf
    obtain ⟨r, q, n1, n2⟩ := m_nextFor hZ h8 h6 (c := c) ⟨q0, by omega⟩ m0 (fun p p0 p1 => (hf p p0 (by omega)).1)
    have mw := (m_waiting hZ m0 (fun p p0 p1 => hf p p0 (by omega))).1
    have i3 : inb 3 c = true := inb_t q0 (by omega) (by omega)
    have hq : Nw (h 81) m h (up h 80 18 (h 80 18 + q)) := fun p p0 p1 => by
      rw [up_n _ _ _ (by decide : 84 ≠ 80), up_n _ _ _ (by decide : 86 ≠ 80), up_n _ _ _ (by decide : 89 ≠ 80)]
      exact ⟨fun z => Or.inl ⟨z, rfl⟩, fun z => Or.inl ⟨z, rfl⟩⟩
    have v81 : up h 80 18 (h 80 18 + q) 81 = h 81 := up_n _ _ _ (by decide)
    have v84 : up h 80 18 (h 80 18 + q) 84 = h 84 := up_n _ _ _ (by decide)
    have vj : ∀ j, j ≠ 18 → up h 80 18 (h 80 18 + q) 80 j = h 80 j := fun j hj => up_o _ _ _ hj
    have step : ∃ g, cond (decide (wr r < 0)) (X (82, 2, [aR 80, aI m, aI (c + 1), aI 1, aI r], [], up h 80 18 (h 80 18 + q))) (cond (inb 12 r) (cond (inb 12 r) (cond (inb 12 r) (bI (X (74, 0, [aR 80, aI r, aI c], [], (up (up (up (up h 80 18 (h 80 18 + q)) 84 (wr r) 3) 86 (wr r) m) 87 (wr r) c))) (fun r2 h2 => cond (inb 12 r) (cond (inb 12 r) (cond (inb 3 c) (X (82, 2, [aR 80, aI m, aI (c + 1), aI 1, aI r], [], (up (up h2 88 (wr r) r2) 90 (wr c) ((m + ((up h2 88 (wr r) r2) 88 (wr r))) + ((up h2 88 (wr r) r2) 81 3))))) none) none) none)) none) none) none) = some (none, g) ∧ Nw (h 81) m h g := by
      by_cases cr : wr r < 0
      · rw [cd_t cr]
        obtain ⟨g, g1, g2⟩ := m_beginC (N := N) m0 k (c + 1) (aI 1) (aI r) (up h 80 18 (h 80 18 + q)) (by omega) (by omega) (by rw [v81]; exact hZ) (by rw [v81]; exact hN) (by rw [vj 8 (by decide)]; exact h8) (by rw [vj 6 (by decide)]; exact h6) (by rw [v81, v84]; exact hf)
        rw [v81] at g2
        exact ⟨g, g1, Nw_t hq g2⟩
      · have r0 : 0 ≤ r ∧ r < N := by
          rcases n2 with ⟨a, b, _⟩ | ⟨a, _⟩ | ⟨a, _⟩
          · exfalso; rw [a] at cr; exact cr (by decide)
          · omega
          · omega
        have i12 : inb 12 r = true := inb_t r0.1 (by omega) (by omega)
        rw [cd_f cr, i12, i3, wr_id (x := r) (by omega) (by omega), wr_id (x := c) (by omega) (by omega)]
        simp only [cond_t]
        generalize hA : up (up (up (up h 80 18 (h 80 18 + q)) 84 r 3) 86 r m) 87 r c = A
        have A81 : A 81 = h 81 := by rw [← hA, up_n _ _ _ (by decide), up_n _ _ _ (by decide), up_n _ _ _ (by decide), v81]
        have A80 : A 80 = up h 80 18 (h 80 18 + q) 80 := by rw [← hA, up_n _ _ _ (by decide), up_n _ _ _ (by decide), up_n _ _ _ (by decide)]
        have A84 : A 84 = up (up h 80 18 (h 80 18 + q)) 84 r 3 84 := by rw [← hA, up_n _ _ _ (by decide), up_n _ _ _ (by decide)]
        have A86 : A 86 = up (up (up h 80 18 (h 80 18 + q)) 84 r 3) 86 r m 86 := by rw [← hA, up_n _ _ _ (by decide)]
        have A89 : A 89 = h 89 := by rw [← hA, up_n _ _ _ (by decide), up_n _ _ _ (by decide), up_n _ _ _ (by decide), up_n _ _ _ (by decide)]
        have e8 : A 80 8 = h 80 8 := by rw [A80, vj 8 (by decide)]
        have e6 : A 80 6 = h 80 6 := by rw [A80, vj 6 (by decide)]
        rw [m_lengthOf (h := A) (by rw [A81]; exact hZ) r0.1 (by rw [A81]; omega) (by rw [e8]; exact h8) ⟨q0, by omega⟩, bI_some]
        generalize hB : up (up A 88 r (zLn (A 81) (A 80 8) r c)) 90 c (m + up A 88 r (zLn (A 81) (A 80 8) r c) 88 r + up A 88 r (zLn (A 81) (A 80 8) r c) 81 3) = B
        have Bo : ∀ p, p ≠ 88 → p ≠ 90 → B p = A p := fun p p1 p2 => by rw [← hB, up_n _ _ _ p2, up_n _ _ _ p1]
        obtain ⟨g, g1, g2⟩ := m_beginC (N := N) m0 k (c + 1) (aI 1) (aI r) B (by omega) (by omega) (by rw [Bo 81 (by decide) (by decide), A81]; exact hZ) (by rw [Bo 81 (by decide) (by decide), A81]; exact hN) (by rw [Bo 80 (by decide) (by decide), e8]; exact h8) (by rw [Bo 80 (by decide) (by decide), e6]; exact h6) (fun p p0 p1 => by
          rw [Bo 84 (by decide) (by decide), Bo 81 (by decide) (by decide), A81, A84]
          by_cases e : p = r
          · subst e; rw [up_s]; omega
          · rw [up_o _ _ _ e, v84]; exact hf p p0 p1)
        rw [Bo 81 (by decide) (by decide), A81] at g2
        refine ⟨g, g1, Nw_t (fun p p0 p1 => ?_) g2⟩
        rw [Bo 84 (by decide) (by decide), Bo 86 (by decide) (by decide), Bo 89 (by decide) (by decide), A84, A86, A89]
        by_cases e : p = r
        · subst e
          rw [up_s, up_s]
          exact ⟨fun z => by omega, fun _ => Or.inr rfl⟩
        · rw [up_o _ _ _ e, up_o _ _ _ e, v84, up_n _ _ _ (by decide : 86 ≠ 84), up_n _ _ _ (by decide : 86 ≠ 80)]
          exact ⟨fun z => Or.inl ⟨z, rfl⟩, fun z => Or.inl ⟨z, rfl⟩⟩
    rw [e82_2, wr_id (x := c) (by omega) (by omega), cd_f (by omega), i3, cond_t]
    by_cases c1 : c = wr (h 80 10)
    · rw [cd_t c1]; exact ih _ _
    · rw [cd_f c1]
      by_cases c2 : wr m < wr (h 90 c)
      · rw [cd_t c2]; exact ih _ _
      · rw [cd_f c2, n1]
        by_cases c3 : c < 2
        · rw [cd_t c3, bI_some]
          rw [wr_id (x := c) (by omega) (by omega), i3] at step
          exact step
        · rw [cd_f c3, mw, bI_some]
          by_cases c4 : wr (cnt (h 81) (h 84)) < wr (h 80 7)
          · rw [cd_t c4]; exact ih _ _
          · rw [cd_f c4, n1, bI_some]
            rw [wr_id (x := c) (by omega) (by omega), i3] at step
            exact step
def Cv (Z : Int → Int) (sh m : Int) (h : Hp) : Prop := ∀ p, 0 ≤ p → p < Z 24 → zmn Z p < sh → zmn Z p < m → h 84 p ≠ 0
def Bn (Z : Int → Int) (m : Int) (h : Hp) : Prop := ∀ p, 0 ≤ p → p < Z 24 → (h 84 p = 2 → h 89 p < m) ∧ (h 84 p = 3 → h 86 p < m)
theorem Bn_n {Z : Int → Int} {m : Int} {h g : Hp} (B : Bn Z m h) (N : Nw Z m h g) : Bn Z (m + 1) g := fun p p0 p1 => by
  obtain ⟨a, b⟩ := N p p0 p1
  obtain ⟨c, d⟩ := B p p0 p1
  refine ⟨fun z => ?_, fun z => ?_⟩
  · rcases a z with ⟨x, e⟩ | x
    · have := c x; omega
    · omega
  · rcases b z with ⟨x, e⟩ | x
    · have := d x; omega
    · omega
theorem Ltr_nz {Z : Int → Int} {m : Int} {h g : Hp} (H : Ltr Z m h g) {p : Int} (p0 : 0 ≤ p) (p1 : p < Z 24) (z : h 84 p ≠ 0) : g 84 p ≠ 0 := by
  obtain ⟨a, b, _⟩ := H p p0 p1
  by_cases c : h 84 p = 4
  · have := b c; omega
  · rw [(a ⟨z, c⟩).1]; exact z
theorem minutesC {d : Nat} {io : Int → Int} {n : Int} {Z : Int → Int} {pl ru th sh nv ms : Int} (hd : d = 1 ∨ d = 27) (S : Sta io n Z pl ru th sh nv ms) : ∀ (k : Nat) (m : Int) (hc hm : Hp), 0 ≤ m → m + k ≤ 240 → SV d io n Z pl ru th sh nv ms m hc hm → Cv Z sh m hm → Bn Z m hm → ∃ gm, (∀ last, m + k - 1 ≤ last → last < 240 → X (83, 64, [aR 80, aI last, aI m, aN], [], hm) = X (83, 64, [aR 80, aI last, aI (m + k), aN], [], gm)) ∧ MP gm Z pl ru th sh nv ∧ Mo io n Z gm ∧ Cv Z sh (m + k) gm ∧ Bn Z (m + k) gm
  | 0, m, hc, hm, m0, mk, V, C, B => by
    rw [show m + ((0 : Nat) : Int) = m by omega]
    exact ⟨hm, fun _ _ _ => rfl, V.1, V.2.2.2.2.1, C, B⟩
  | k + 1, m, hc, hm, m0, mk, V, C, B => by
    obtain ⟨c1, m1, a1, a2, a3, a4, a5, mx, my, a6, a7, a8, a9, b6, b7⟩ := minute hd S ⟨m0, by omega⟩ V
    have hZ := S.1
    have hn := zd_n hZ
    obtain ⟨M, D, h14, R, O, A, P, L, T⟩ := V
    obtain ⟨g, g1, g2, g3, g4⟩ := m_comeC (N := Z 24) (m := m) ⟨m0, by omega⟩ (Z 24).toNat 0 aN hm (by omega) (by omega) (by rw [M.1]; exact hZ) (by rw [M.1]) (fun p p0 p1 => ⟨(O.1 p p0 p1).1, fun z => by
      rw [M.1]
      rcases A p p0 p1 (by omega) with b | b <;> omega⟩) (by rw [M.2.2.2.2.1]; exact S.2.2.2.2.1)
    rw [e80_0] at a6
    have eg : g = mx := res_inv (a6.symm.trans g1)
    subst eg
    rw [M.1, M.2.2.2.2.1] at g3
    rw [M.1] at g4
    obtain ⟨gt, t1, t2⟩ := m_tireC (N := Z 24) (m := m) ⟨m0, by omega⟩ (Z 24).toNat 0 g (by omega) (by omega) (by rw [b6.1]; exact hZ) (by rw [b6.1]) (by rw [b6.2.1]; exact S.2.1)
    rw [e81_0] at a8
    have et : gt = my := res_inv (a8.symm.trans t1)
    subst et
    rw [b6.1] at t2
    obtain ⟨gb, u1, u2⟩ := m_beginC (N := Z 24) (m := m) ⟨m0, by omega⟩ 3 0 aN aN gt (by omega) (by omega) (by rw [b7.1.1]; exact hZ) (by rw [b7.1.1]) (by rw [b7.1.2.1]; exact S.2.1) (by rw [b7.1.2.2.1]; exact S.2.2.1) (fun p p0 p1 => ⟨(b7.2.1.1 p p0 p1).1, fun z => by
      rw [b7.1.1]
      rcases b7.2.2 p p0 p1 (by omega) with b | b <;> omega⟩)
    rw [e82_0] at a9
    have eb : gb = m1 := res_inv (a9.symm.trans u1)
    subst eb
    rw [b7.1.1] at u2
    have C1 : Cv Z sh (m + 1) gb := fun p p0 p1 p2 p3 => by
      refine Ltr_nz a7 p0 p1 ?_
      by_cases e : zmn Z p = m
      · exact g3 p p0 p1 e (by omega)
      · exact g2 p p0 p1 (C p p0 p1 p2 (by omega))
    have B1 : Bn Z (m + 1) gb := Bn_n B (Nw_t g4 (Nw_t t2 u2))
    obtain ⟨gm, b1, b2, b3, b4, b5⟩ := minutesC hd S k (m + 1) c1 gb (by omega) (by omega) a4 C1 B1
    rw [show m + 1 + (k : Int) = m + ((k + 1 : Nat) : Int) by omega] at b1 b4 b5
    exact ⟨gm, fun last l1 l2 => (a2 last (by omega) l2).trans (b1 last l1 l2), b2, b3, b4, b5⟩
theorem day_cov {d : Nat} {io : Int → Int} {n : Int} {Z : Int → Int} {pl ru th sh nv ms : Int} (hd : d = 1 ∨ d = 27) (S : Sta io n Z pl ru th sh nv ms) {hc hm gm : Hp} {t : Int} (t0 : 0 ≤ t ∧ t < 240) (M : MP hm Z pl ru th sh nv) (D : Dat d io n Z pl ru th hc) (e : X (83, 0, [aR 80, aI t, aN, aN], [], hm) = some (none, gm)) : Cv Z sh (t + 1) gm ∧ Bn Z (t + 1) gm := by
  obtain ⟨c0, m0, a1, a2, a3, a4⟩ := day_start hd S M D
  have z0 : ∀ p, 0 ≤ p → p < Z 24 → m0 84 p = 0 := fun p p0 p1 => by
    have A := a4.2.2.2.2.2.1
    apply Classical.byContradiction
    intro c
    have r := (zd_row S.1 p0 p1).1
    rcases A p p0 p1 c with b | b <;> omega
  obtain ⟨m1, b1, b2, b3, b4, b5⟩ := minutesC hd S (t + 1).toNat 0 c0 m0 (by omega) (by omega) a4 (fun p p0 p1 p2 p3 => by
    have := (zd_row S.1 p0 p1).1
    omega) (fun p p0 p1 => by
    have := z0 p p0 p1
    exact ⟨fun z => by omega, fun z => by omega⟩)
  rw [show (0 : Int) + (((t + 1).toNat : Nat) : Int) = t + 1 by omega] at b1 b4 b5
  obtain ⟨g, g1, g2, g3⟩ := m_close S.1 b2 b3 (last := t) t0
  rw [a2 t, b1 t (by omega) (by omega), g1] at e
  have eg : gm = g := res_inv e
  subst eg
  refine ⟨fun p p0 p1 p2 p3 => ?_, fun p p0 p1 => ?_⟩
  · rw [g2 84 (by decide)]; exact b4 p p0 p1 p2 p3
  · rw [g2 84 (by decide), g2 86 (by decide), g2 89 (by decide)]; exact b5 p p0 p1
/-! tell -/
theorem jabs_le {x t : Int} (hx : -1000 ≤ x ∧ x ≤ 1000) : wr (jabs (x)) ≤ 10 ↔ -10 ≤ x ∧ x ≤ 10 := by
  unfold jabs
  rw [wr_id (x := x) (by omega) (by omega)]
  split
  · rw [wr_id (by omega) (by omega)]; omega
  · rw [wr_id (by omega) (by omega)]; omega
def ly (gm : Hp) (t p : Int) : Int := if 2 ≤ gm 84 p ∧ ¬ (-10 ≤ gm 85 p - t ∧ gm 85 p - t ≤ 10) then 1 else 0
def LI (gm : Hp) (N : Nat) (t : Int) : Int := sm (ly gm t) N
theorem s_liedL {N t : Int} {g gm : Hp} (hn : 0 ≤ N ∧ N ≤ 12) (ht : 0 ≤ t ∧ t ≤ 60) (h4 : g 19 4 = N) (hr : ∀ i, 0 ≤ i → i < N → g 2 i = gm 84 i ∧ g 3 i = gm 85 i ∧ (1 ≤ gm 84 i ∧ gm 84 i ≤ 4) ∧ (0 ≤ gm 85 i ∧ gm 85 i ≤ 240)) : ∀ (k q : Nat) (w : AV), (q : Int) + k = N → X (149, 4, [aR 1, aI t, aI (sm (ly gm t) q), aI q, w], [], g) = some (some (sm (ly gm t) (q + k)), g)
  | 0, q, w, hk => by
    rw [e149_4 (Or.inl rfl), show g (1 + 18) 4 = N from h4, wr_id (x := N) (by omega) (by omega), wr_id (x := (q : Int)) (by omega) (by omega), cd_t (by omega)]; rfl
  | k + 1, q, w, hk => by
    have ih := fun w => s_liedL hn ht h4 hr k (q + 1) w (by omega)
    have es : sm (ly gm t) (q + 1) = sm (ly gm t) q + ly gm t q := rfl
    rw [show q + 1 + k = q + (k + 1) by omega, es, show ((q + 1 : Nat) : Int) = (q : Int) + 1 by omega] at ih
    obtain ⟨r1, r2, r3, r4⟩ := hr q (by omega) (by omega)
    rw [e149_4 (Or.inl rfl), show g (1 + 18) 4 = N from h4, wr_id (x := N) (by omega) (by omega), wr_id (x := (q : Int)) (by omega) (by omega), cd_f (by omega), inb_t (by omega) (by omega) (by omega), show g (1 + 2) (q : Int) = gm 85 q from r2, show g (1 + 1) (q : Int) = gm 84 q from r1, wr_id (x := gm 84 (q : Int)) (by omega) (by omega)]
    simp only [cond_t]
    have jl := jabs_le (x := gm 85 (q : Int) - t) (t := t) (by omega)
    unfold ly at ih
    by_cases c : wr (jabs (gm 85 (q : Int) - t)) ≤ 10
    · have c' := jl.mp c
      rw [if_neg (by omega)] at ih
      rw [cd_t c]
      by_cases e : gm 84 (q : Int) = 1
      · rw [cd_t e]; exact ih _
      · rw [cd_f e]; exact ih _
    · have c' := (not_congr jl).mp c
      rw [cd_f c]
      by_cases e : gm 84 (q : Int) = 1
      · rw [if_neg (by omega)] at ih
        rw [cd_t e]; exact ih _
      · rw [if_pos ⟨by omega, c'⟩] at ih
        rw [cd_f e]; exact ih _
def mN (gm : Hp) (p : Int) : Int := if 2 ≤ gm 84 p then 1 else 0
theorem m_liedL {N t v1 v3 v4 : Int} {h : Hp} (hn : 0 ≤ N ∧ N ≤ 12) (ht : 0 ≤ t ∧ t ≤ 60) (h4 : h 81 24 = N) (hr : ∀ i, 0 ≤ i → i < N → (0 ≤ h 84 i ∧ h 84 i ≤ 4) ∧ (0 ≤ h 85 i ∧ h 85 i ≤ 240)) : ∀ (k q : Nat), (q : Int) + k = N → X (93, 49, [aR 80, aI v1, aI (sm (mN h) q), aI v3, aI v4, aI t, aI (sm (ly h t) q), aI q], [], h) = X (93, 49, [aR 80, aI v1, aI (sm (mN h) (q + k)), aI v3, aI v4, aI t, aI (sm (ly h t) (q + k)), aI N], [], h)
  | 0, q, hk => by
    have e : (q : Int) = N := by omega
    rw [e]; rfl
  | k + 1, q, hk => by
    have ih := m_liedL (v1 := v1) (v3 := v3) (v4 := v4) hn ht h4 hr k (q + 1) (by omega)
    have es : sm (ly h t) (q + 1) = sm (ly h t) q + ly h t q := rfl
    have es2 : sm (mN h) (q + 1) = sm (mN h) q + mN h q := rfl
    rw [show q + 1 + k = q + (k + 1) by omega, es, es2, show ((q + 1 : Nat) : Int) = (q : Int) + 1 by omega] at ih
    rw [← ih]
    obtain ⟨r3, r4⟩ := hr q (by omega) (by omega)
    rw [e93_49 v1 _ v3 v4 t _ (q : Int), h4, wr_id (x := N) (by omega) (by omega), wr_id (x := (q : Int)) (by omega) (by omega), cd_f (by omega), inb_t (by omega) (by omega) (by omega), wr_id (x := h 84 (q : Int)) (by omega) (by omega)]
    simp only [cond_t]
    unfold ly mN
    by_cases c : h 84 (q : Int) < 2
    · rw [cd_t c, cd_t c, if_neg (by omega), if_neg (by omega)]
    · rw [cd_f c, cd_f c, if_pos (by omega), wr_id (x := h 85 (q : Int) - t) (by omega) (by omega), s_in h (by omega) (by omega) (by omega), bI_some]
      unfold iin
      by_cases e : -10 ≤ h 85 (q : Int) - t ∧ h 85 (q : Int) - t ≤ 10
      · rw [if_neg (fun z => z.2 e), decide_eq_true e, cd_t (by decide)]
      · rw [if_pos ⟨by omega, e⟩, decide_eq_false e, cd_f (by decide)]
/-- the best time so far, and how many feel lied to by it -/
def tl (gm : Hp) (N : Nat) : Nat → Int × Int
  | 0 => (0, LI gm N 0)
  | k + 1 => if (tl gm N k).2 ≤ LI gm N (5 * (k + 1 : Nat)) then tl gm N k else (5 * (k + 1 : Nat), LI gm N (5 * (k + 1 : Nat)))
theorem LI_r (gm : Hp) (N : Nat) (t : Int) : 0 ≤ LI gm N t ∧ LI gm N t ≤ N := by
  have := sm_r (f := ly gm t) (B := 1) N (fun p _ _ => by unfold ly; split <;> omega)
  unfold LI
  omega
theorem tl_r (gm : Hp) (N : Nat) : ∀ k, 0 ≤ (tl gm N k).2 ∧ (tl gm N k).2 ≤ N
  | 0 => LI_r gm N 0
  | k + 1 => by
    have h1 := tl_r gm N k
    have h2 := LI_r gm N (5 * (k + 1 : Nat))
    show 0 ≤ (if (tl gm N k).2 ≤ LI gm N (5 * (k + 1 : Nat)) then tl gm N k else (5 * ((k + 1 : Nat) : Int), LI gm N (5 * (k + 1 : Nat)))).2 ∧ _
    split
    · rename_i c
      show 0 ≤ _ ∧ (if (tl gm N k).2 ≤ LI gm N (5 * (k + 1 : Nat)) then tl gm N k else (5 * ((k + 1 : Nat) : Int), LI gm N (5 * (k + 1 : Nat)))).2 ≤ _
      rw [if_pos c]; exact h1
    · rename_i c
      show 0 ≤ _ ∧ (if (tl gm N k).2 ≤ LI gm N (5 * (k + 1 : Nat)) then tl gm N k else (5 * ((k + 1 : Nat) : Int), LI gm N (5 * (k + 1 : Nat)))).2 ≤ _
      rw [if_neg c]; exact h2
theorem s_tellL {N : Nat} {v1 : Int} {g gm : Hp} (hn : N ≤ 12) (hl : ∀ t, 0 ≤ t → t ≤ 60 → X (149, 0, [aR 1, aI t, aN, aN, aN], [], g) = some (some (LI gm N t), g)) : ∀ (k j : Nat) (w : AV), j + k = 12 → X (16, 52, [aR 0, aI v1, aI (tl gm N j).1, aI (tl gm N j).2, aI (5 * (j + 1 : Nat)), w], [], g) = some (some (if wr v1 ≠ 0 then (tl gm N 12).2 else (tl gm N 12).1), g)
  | 0, j, w, hk => by
    have e : j = 12 := by omega
    subst e
    rw [e16_52, cd_t (by decide)]
    by_cases c : wr v1 ≠ 0
    · rw [cd_t c, if_pos c]
    · rw [cd_f c, if_neg c]
  | k + 1, j, w, hk => by
    have ih := fun w => s_tellL (v1 := v1) hn hl k (j + 1) w (by omega)
    have b1 := tl_r gm N j
    have b2 := LI_r gm N (5 * (j + 1 : Nat))
    rw [e16_52, wr_id (x := 5 * ((j + 1 : Nat) : Int)) (by omega) (by omega), cd_f (by omega), hl _ (by omega) (by omega), bI_some, wr_id (x := (tl gm N j).2) (by omega) (by omega), wr_id (x := LI gm N (5 * (j + 1 : Nat))) (by omega) (by omega), show 5 * ((j + 1 : Nat) : Int) + 5 = 5 * ((j + 1 + 1 : Nat) : Int) by omega]
    by_cases c : (tl gm N j).2 ≤ LI gm N (5 * (j + 1 : Nat))
    · have e : tl gm N (j + 1) = tl gm N j := if_pos c
      rw [e] at ih
      rw [cd_t c]; exact ih _
    · have e : tl gm N (j + 1) = (5 * ((j + 1 : Nat) : Int), LI gm N (5 * (j + 1 : Nat))) := if_neg c
      rw [e] at ih
      rw [cd_f c]; exact ih _
theorem m_tellL {N : Nat} {v1 : Int} {h : Hp} (hn : N ≤ 12) (h4 : h 81 24 = N) (hr : ∀ i, 0 ≤ i → i < (N : Int) → (0 ≤ h 84 i ∧ h 84 i ≤ 4) ∧ (0 ≤ h 85 i ∧ h 85 i ≤ 240)) : ∀ (k j : Nat) (v2 : Int) (w6 w7 : AV), j + k = 12 → X (93, 34, [aR 80, aI v1, aI (sm (mN h) N), aI (tl h N j).1, aI (tl h N j).2, aI (5 * (j + 1 : Nat)), w6, w7], [], h) = some (some (if wr (sm (mN h) N) ≠ 0 then (if wr v1 ≠ 0 then (tl h N 12).2 else (tl h N 12).1) else -4), h)
  | 0, j, v2, w6, w7, hk => by
    have e : j = 12 := by omega
    subst e
    rw [e93_34, cd_t (by decide)]
    by_cases c0 : wr (sm (mN h) N) ≠ 0
    · rw [cd_t c0, if_pos c0]
      by_cases c : wr v1 ≠ 0
      · rw [cd_t c, if_pos c]
      · rw [cd_f c, if_neg c]
    · rw [cd_f c0, if_neg c0]
  | k + 1, j, v2, w6, w7, hk => by
    have ih := fun w w' => m_tellL (v1 := v1) hn h4 hr k (j + 1) v2 w w' (by omega)
    have b1 := tl_r h N j
    have b2 := LI_r h N (5 * (j + 1 : Nat))
    have q := m_liedL (v1 := v1) (v3 := (tl h N j).1) (v4 := (tl h N j).2) (N := N) (t := 5 * ((j + 1 : Nat) : Int)) (by omega) (by omega) h4 hr N 0 (by omega)
    rw [Nat.zero_add] at q
    have q : X (93, 49, [aR 80, aI v1, aI 0, aI (tl h N j).1, aI (tl h N j).2, aI (5 * ((j + 1 : Nat) : Int)), aI 0, aI 0], [], h) = _ := q
    have eL : sm (ly h (5 * ((j + 1 : Nat) : Int))) N = LI h N (5 * ((j + 1 : Nat) : Int)) := rfl
    rw [e93_34, wr_id (x := 5 * ((j + 1 : Nat) : Int)) (by omega) (by omega), cd_f (by omega), q, e93_49, h4, cd_t (by omega), eL, wr_id (x := (tl h N j).2) (by omega) (by omega), wr_id (x := LI h N (5 * (j + 1 : Nat))) (by omega) (by omega), show 5 * ((j + 1 : Nat) : Int) + 5 = 5 * ((j + 1 + 1 : Nat) : Int) by omega]
    by_cases c : (tl h N j).2 ≤ LI h N (5 * (j + 1 : Nat))
    · have e : tl h N (j + 1) = tl h N j := if_pos c
      rw [e] at ih
      rw [cd_t c, cd_t c]; exact ih _ _
    · have e : tl h N (j + 1) = (5 * ((j + 1 : Nat) : Int), LI h N (5 * (j + 1 : Nat))) := if_neg c
      rw [e] at ih
      rw [cd_f c, cd_f c]; exact ih _ _
theorem sm_split {f g e : Int → Int} : ∀ (k : Nat), (∀ p : Int, 0 ≤ p → p < k → f p + g p = e p) → sm f k + sm g k = sm e k
  | 0, _ => rfl
  | k + 1, h => by
    show sm f k + f k + (sm g k + g k) = sm e k + e k
    have := sm_split k (fun p a b => h p a (by omega))
    have := h k (by omega) (by omega)
    omega
theorem sm_one : ∀ k : Nat, sm (fun _ => 1) k = k
  | 0 => rfl
  | k + 1 => by
    show sm (fun _ => 1) k + 1 = ((k + 1 : Nat) : Int)
    rw [sm_one k]; omega
theorem case_16 (L : Nat) (xs : Nat → Int32) : Cs_16 L xs := by
  intro h hI a1 r1
  have hS := hI.1
  have e1 : wr a1 = a1 := wr_id r1.1 r1.2
  have qs := e16_0 a1 h
  rw [s_below a1 2 (by omega), bI_some, d_bi1, e1] at qs
  by_cases p1 : 0 ≤ a1 ∧ a1 < 2
  · obtain ⟨g, t1, t2, t3, t4⟩ := today hI
    have g81 : g 81 = h 81 := t2 81 (by omega)
    rw [← g81] at t4
    have hZ : ZD (g 81) := zd_of t3.2.2.1
    have hn := zd_n hZ
    have D := Dat_of (d := 1) t3.2.1 t3.2.2.1
    obtain ⟨gm, m1, m2, m3, m4⟩ := t4 g rfl
    have gm81 : gm 81 = g 81 := by rw [m2.1 81 (by omega), tol_o g (by decide)]
    have cov := (day_cov (Or.inl rfl) (sta_told hZ) (t := 239) (by omega) (tol_MP g) D m1).1
    obtain ⟨N, hN⟩ : ∃ N : Nat, g 81 24 = N := ⟨(g 81 24).toNat, by omega⟩
    have fr : ∀ i, 0 ≤ i → i < (N : Int) → (1 ≤ gm 84 i ∧ gm 84 i ≤ 4) ∧ (0 ≤ gm 85 i ∧ gm 85 i ≤ 240) := fun i i0 i1 => by
      have y := (m3.2.2.1.1 i i0 (by omega)).1
      have c := cov i i0 (by omega) (zd_row hZ i0 (by omega)).1.2 (zd_row hZ i0 (by omega)).1.2
      refine ⟨by omega, ?_⟩
      rw [m3.2.2.2.1 i i0 (by omega)]
      exact wfin_r hZ m3.2.2.1 i0 (by omega)
    obtain ⟨w, l, c, t, F, s1, s2, s3, s4, s5, s6, s7, s8, s9, b1, b2, b3, b4, eF⟩ := sums (Or.inl rfl) hZ D gm81 m3
    have s9 := (s9 1 (by omega) (by omega)).1
    have g19 : g 19 4 = N := by rw [← hN]; exact D.2.1
    have hF : F 1 + sm (mN gm) N = N := by
      rw [eF, gm81, hN]
      show sm (fun i => if gm 84 i = 1 then 1 else 0) N + sm (mN gm) N = N
      rw [sm_split N (e := fun _ => 1) (fun p p0 p1 => ?_), sm_one]
      have := (fr p p0 p1).1
      show (if gm 84 p = 1 then (1 : Int) else 0) + (if 2 ≤ gm 84 p then 1 else 0) = 1
      split <;> split <;> omega
    have rM := sm_r (f := mN gm) (B := 1) N (fun p _ _ => by unfold mN; split <;> omega)
    have hl : ∀ t, 0 ≤ t → t ≤ 60 → X (149, 0, [aR 1, aI t, aN, aN, aN], [], g) = some (some (LI gm N t), g) := fun t t0 t1 => by
      rw [e149_0 (Or.inl rfl)]
      have q := s_liedL (N := N) (t := t) (g := g) (gm := gm) (by omega) ⟨t0, t1⟩ g19 (fun i i0 i1 => ⟨(m3.1 i i0 (by omega)).1, (m3.1 i i0 (by omega)).2.1, (fr i i0 i1).1, (fr i i0 i1).2⟩) N 0 aN (by omega)
      rw [Nat.zero_add] at q
      exact q
    have qm := e93_0 a1 g
    rw [s_inw g (by omega) (by omega), bI_some, d_bi1, e1, show iin a1 0 1 = true from decide_eq_true (by omega), cond_t, m_asTold, bV_some, m1, bV_some] at qm
    have fr2 : ∀ i, 0 ≤ i → i < (N : Int) → (0 ≤ gm 84 i ∧ gm 84 i ≤ 4) ∧ (0 ≤ gm 85 i ∧ gm 85 i ≤ 240) := fun i i0 i1 => by
      have := fr i i0 i1; omega
    have q0 := m_liedL (v1 := a1) (v3 := 0) (v4 := 13) (N := N) (t := 0) (by omega) (by omega) (by rw [gm81, hN]) fr2 N 0 (by omega)
    rw [Nat.zero_add] at q0
    have q0 : X (93, 49, [aR 80, aI a1, aI 0, aI 0, aI 13, aI 0, aI 0, aI 0], [], gm) = _ := q0
    have eL : sm (ly gm 0) N = LI gm N 0 := rfl
    have rL := LI_r gm N 0
    rw [e93_34, cd_f (by decide), q0, e93_49, gm81, hN, cd_t (Int.le_refl _), eL, wr_id (x := LI gm N 0) (by omega) (by omega), cd_f (show ¬ wr 13 ≤ LI gm N 0 by rw [wr_id (by omega) (by omega)]; omega), cd_f (show ¬ wr 13 ≤ LI gm N 0 by rw [wr_id (by omega) (by omega)]; omega)] at qm
    have q1 := m_tellL (v1 := a1) (by omega) (by rw [gm81, hN]) fr2 12 0 0 (aI (LI gm N 0)) (aI N) (by omega)
    have q1 : X (93, 34, [aR 80, aI a1, aI (sm (mN gm) N), aI 0, aI (LI gm N 0), aI (0 + 5), aI (LI gm N 0), aI N], [], gm) = _ := q1
    rw [q1, wr_id (x := sm (mN gm) N) (by omega) (by omega)] at qm
    rw [decide_eq_true p1, cond_t, t1, bV_some, s9, bI_some, g19, wr_id (x := F 1) (by omega) (by omega), wr_id (x := (N : Int)) (by omega) (by omega)] at qs
    have sG : Sm L xs g := fun p hp => by rw [t2 p (by omega)]; exact hS p hp
    by_cases z : F 1 ≠ N
    · rw [cd_t z, hl 0 (by omega) (by omega), bI_some] at qs
      have q2 := s_tellL (v1 := a1) (by omega : N ≤ 12) hl 12 0 aN (by omega)
      have q2 : X (16, 52, [aR 0, aI a1, aI 0, aI (LI gm N 0), aI 5, aN], [], g) = _ := q2
      rw [q2] at qs
      rw [if_pos (by omega)] at qm
      exact ⟨_, g, gm, qs, sG, qm, inv_told t3 m2⟩
    · rw [cd_f z] at qs
      rw [if_neg (by omega)] at qm
      exact ⟨-4, g, gm, qs, sG, qm, inv_told t3 m2⟩
  · rw [decide_eq_false p1, cond_f] at qs
    have qm := e93_0 a1 h
    rw [s_inw h (by omega) (by omega), bI_some, d_bi1, e1, show iin a1 0 1 = false from decide_eq_false (by omega), cond_f] at qm
    exact ⟨-1, h, h, qs, hS, qm, hI⟩
