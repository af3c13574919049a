/-! choosers -/
theorem s_plainL {n : Int} (hn : 0 ≤ n ∧ n ≤ 12) : ∀ (k : Nat) (q : Int) (h : Hp), 0 ≤ q → q + k = n → h 45 4 = n → (∀ i, 0 ≤ i → i < n → 0 ≤ h 47 i ∧ h 47 i < 6) → ∃ g, X (159, 2, [aR 45, aI q], [], h) = some (none, g) ∧ (∀ p, p ≠ 47 → p ≠ 49 → g p = h p) ∧ ∀ i, 0 ≤ i → i < n → (i < q → g 47 i = h 47 i ∧ g 49 i = h 49 i) ∧ (q ≤ i → g 47 i = (if h 47 i = 1 then 0 else h 47 i) ∧ (h 47 i ≠ 1 → g 49 i = h 49 i))
  | 0, q, h, q0, hk, h4, hr => by
    refine ⟨h, ?_, fun p _ _ => rfl, fun i i0 i1 => ⟨fun _ => ⟨rfl, rfl⟩, fun z => by omega⟩⟩
    rw [e159_2 (by decide), h4, wr_id (x := n) (by omega) (by omega), wr_id (x := q) (by omega) (by omega), cd_t (by omega)]
  | k + 1, q, h, q0, hk, h4, hr => by
    have r := hr q q0 (by omega)
    have i1 : inb 12 q = true := inb_t q0 (by omega) (by omega)
    rw [e159_2 (by decide), h4, wr_id (x := n) (by omega) (by omega), wr_id (x := q) (by omega) (by omega), cd_f (by omega), i1]
    simp only [cond_t]
    rw [show 45 + 2 = 47 from rfl, show 45 + 4 = 49 from rfl, wr_id (x := h 47 q) (by omega) (by omega)]
    by_cases c : h 47 q = 1
    · rw [cd_f (by omega)]
      have o47 : ∀ j, j ≠ q → up (up h 47 q 0) 49 q 0 47 j = h 47 j := fun j hj => by rw [up_n _ _ _ (by decide), up_o _ _ _ hj]
      have o49 : ∀ j, j ≠ q → up (up h 47 q 0) 49 q 0 49 j = h 49 j := fun j hj => by rw [up_o _ _ _ hj, up_n _ _ _ (by decide)]
      have s47 : up (up h 47 q 0) 49 q 0 47 q = 0 := by rw [up_n _ _ _ (by decide), up_s]
      obtain ⟨g, g1, g2, g3⟩ := s_plainL hn k (q + 1) (up (up h 47 q 0) 49 q 0) (by omega) (by omega) (by rw [up_n _ _ _ (by decide), up_n _ _ _ (by decide), h4]) (fun i i0 i1 => by
        by_cases e : i = q
        · rw [e, s47]; omega
        · rw [o47 i e]; exact hr i i0 i1)
      refine ⟨g, g1, fun p p1 p2 => by rw [g2 p p1 p2, up_n _ _ _ p2, up_n _ _ _ p1], fun i i0 i1 => ?_⟩
      have y := g3 i i0 i1
      by_cases e : i = q
      · subst e
        have := y.1 (by omega)
        exact ⟨fun z => by omega, fun _ => ⟨by rw [this.1, s47, if_pos c], fun z => absurd c z⟩⟩
      · refine ⟨fun z => ?_, fun z => ?_⟩
        · have := y.1 (by omega)
          rw [o47 i e, o49 i e] at this
          exact this
        · have := y.2 (by omega)
          rw [o47 i e, o49 i e] at this
          exact this
    · rw [cd_t c]
      obtain ⟨g, g1, g2, g3⟩ := s_plainL hn k (q + 1) h (by omega) (by omega) h4 hr
      refine ⟨g, g1, g2, fun i i0 i1 => ?_⟩
      have y := g3 i i0 i1
      refine ⟨fun z => y.1 (by omega), fun z => ?_⟩
      by_cases e : i = q
      · subst e
        have := y.1 (by omega)
        exact ⟨by rw [this.1, if_neg c], fun _ => this.2⟩
      · exact y.2 (by omega)
theorem Dat_plain {Z : Int → Int} {ru th : Int} {h g : Hp} (hZ : ZD Z) (D : Dat 27 (fun i => i) (Z 24) Z 0 ru th h) (f : ∀ p, p ≠ 47 → p ≠ 49 → g p = h p) (H : ∀ i, 0 ≤ i → i < Z 24 → g 47 i = (if h 47 i = 1 then 0 else h 47 i) ∧ (h 47 i ≠ 1 → g 49 i = h 49 i)) : Dat 27 (fun i => i) (Z 24) Z 1 ru th g := by
  obtain ⟨a1, a2, a3, a4, a5, a6, a7, a8⟩ := D
  have fe : ∀ p, p ≠ 47 → p ≠ 49 → g p = h p := f
  refine ⟨a1, by rw [f (27 + 18) (by decide) (by decide)]; exact a2, fun i i0 i1 => ?_, a4, ?_, ?_, ?_, ?_⟩
  · obtain ⟨b1, b2, b3, b4, b5⟩ := a3 i i0 i1
    have y := H i i0 i1
    have k0 : zK Z 0 i = zkd Z i := by unfold zK; rw [if_neg (by omega)]
    have b3 : h 47 i = zkd Z i := by rw [← k0]; exact b3
    refine ⟨b1, by rw [f (27 + 19) (by decide) (by decide)]; exact b2, ?_, by rw [f (27 + 21) (by decide) (by decide)]; exact b4, fun z => ?_⟩
    · show g 47 i = zK Z 1 i
      rw [y.1, b3]
      unfold zK
      by_cases c : zkd Z i = 1
      · rw [if_pos c, if_pos ⟨by omega, c⟩]
      · rw [if_neg c, if_neg (fun q => c q.2)]
    · have z : zK Z 1 i ≠ 0 := z
      have c : zkd Z i ≠ 1 := fun c => z (by unfold zK; rw [if_pos ⟨by omega, c⟩])
      have e : zK Z 1 i = zkd Z i := by unfold zK; rw [if_neg (fun q => c q.2)]
      show g 49 i = znu Z i
      rw [y.2 (by rw [b3]; exact c)]
      exact b5 (by show zK Z 0 i ≠ 0; rw [k0, ← e]; exact z)
  · rw [f (27 + 12) (by decide) (by decide)]; exact a5
  · rw [f (27 + 13) (by decide) (by decide)]; exact a6
  · rw [f (27 + 14) (by decide) (by decide)]; exact a7
  · rw [f (27 + 16) (by decide) (by decide)]; exact a8
theorem m_othL {N : Int} {h : Hp} (hn : 0 ≤ N ∧ N ≤ 12) (h4 : h 81 24 = N) (hr : ∀ i : Int, 0 ≤ i → i < N → 0 ≤ zkd (h 81) i ∧ zkd (h 81) i < 6) : ∀ (k q : Nat), (q : Int) + k = N → X (94, 4, [aR 80, aI (sm (fun i => if zkd (h 81) i = 1 then 0 else h 85 i) q), aI q], [], h) = some (some (sm (fun i => if zkd (h 81) i = 1 then 0 else h 85 i) (q + k)), h)
  | 0, q, hk => by
    rw [e94_4, h4, wr_id (x := N) (by omega) (by omega), wr_id (x := (q : Int)) (by omega) (by omega), cd_t (by omega)]; rfl
  | k + 1, q, hk => by
    have ih := m_othL hn h4 hr k (q + 1) (by omega)
    have es : sm (fun i => if zkd (h 81) i = 1 then 0 else h 85 i) (q + 1) = sm (fun i => if zkd (h 81) i = 1 then 0 else h 85 i) q + (if zkd (h 81) q = 1 then 0 else h 85 q) := rfl
    rw [show q + 1 + k = q + (k + 1) by omega, es, show ((q + 1 : Nat) : Int) = (q : Int) + 1 by omega] at ih
    have r := hr q (by omega) (by omega)
    have ek : h 81 (67 + 4 * (q : Int) + 1) = zkd (h 81) q := by unfold zkd; rw [show 67 + 4 * (q : Int) + 1 = 68 + 4 * (q : Int) by omega]
    rw [e94_4, h4, wr_id (x := N) (by omega) (by omega), wr_id (x := (q : Int)) (by omega) (by omega), cd_f (by omega), m_of (by omega) (by omega) (by omega) (by omega), bI_some, ek, wr_id (x := zkd (h 81) q) (by omega) (by omega)]
    by_cases c : zkd (h 81) (q : Int) = 1
    · rw [if_pos c] at ih
      rw [cd_f (by omega)]; exact ih
    · rw [if_neg c] at ih
      rw [cd_t c, inb_t (by omega) (by omega) (by omega), cond_t]; exact ih
theorem m_oth {h : Hp} (hZ : ZD (h 81)) : X (94, 0, [aR 80, aN, aN], [], h) = some (some (sm (fun i => if zkd (h 81) i = 1 then 0 else h 85 i) (h 81 24).toNat), h) := by
  have hn := zd_n hZ
  rw [e94_0]
  have q := m_othL hn rfl (fun i i0 i1 => (zd_row hZ i0 i1).2.1) (h 81 24).toNat 0 (by omega)
  rw [Nat.zero_add] at q
  exact q
theorem s_costL {N : Int} {Z : Int → Int} {h : Hp} (hn : 0 ≤ N ∧ N ≤ 12) (h4 : h 19 4 = N) (hr : ∀ i : Int, 0 ≤ i → i < N → h 21 i = zkd Z i ∧ 0 ≤ zkd Z i ∧ zkd Z i < 6) : ∀ (k q : Nat), (q : Int) + k = N → X (17, 37, [aR 0, aI (sm (fun i => if zkd Z i = 1 then 0 else h 3 i - h 29 i) q), aI q], [], h) = some (some (sm (fun i => if zkd Z i = 1 then 0 else h 3 i - h 29 i) (q + k)), h)
  | 0, q, hk => by
    rw [e17_37, h4, wr_id (x := N) (by omega) (by omega), wr_id (x := (q : Int)) (by omega) (by omega), cd_t (by omega)]; rfl
  | k + 1, q, hk => by
    have ih := s_costL hn h4 hr k (q + 1) (by omega)
    have es : sm (fun i => if zkd Z i = 1 then 0 else h 3 i - h 29 i) (q + 1) = sm (fun i => if zkd Z i = 1 then 0 else h 3 i - h 29 i) q + (if zkd Z q = 1 then 0 else h 3 q - h 29 q) := rfl
    rw [show q + 1 + k = q + (k + 1) by omega, es, show ((q + 1 : Nat) : Int) = (q : Int) + 1 by omega] at ih
    have r := hr q (by omega) (by omega)
    rw [e17_37, h4, wr_id (x := N) (by omega) (by omega), wr_id (x := (q : Int)) (by omega) (by omega), cd_f (by omega), inb_t (by omega) (by omega) (by omega), r.1, wr_id (x := zkd Z q) (by omega) (by omega)]
    simp only [cond_t]
    by_cases c : zkd Z (q : Int) = 1
    · rw [if_pos c, Int.add_zero] at ih
      rw [cd_t c]; exact ih
    · rw [if_neg c] at ih
      rw [cd_f c]; exact ih
theorem sm_sub {f g e : Int → Int} : ∀ (k : Nat), (∀ p : Int, 0 ≤ p → p < k → e p = f p - g p) → sm e k = sm f k - sm g k
  | 0, _ => rfl
  | k + 1, h => by
    show sm e k + e k = sm f k + f k - (sm g k + g k)
    rw [sm_sub k (fun p a b => h p a (by omega)), h k (by omega) (by omega)]
    omega
theorem sta_plain {Z : Int → Int} (hZ : ZD Z) : Sta (fun i => i) (Z 24) Z 1 (Z 7) (Z 5) 240 (-4) (-1) := by
  obtain ⟨a1, a2, a3⟩ := sta_told hZ
  exact ⟨a1, Or.inr rfl, a3⟩
theorem MP_plain {h : Hp} {Z : Int → Int} {pl ru th sh nv : Int} (M : MP h Z pl ru th sh nv) (t : Int) : MP (up h 80 8 t) Z t ru th sh nv := by
  obtain ⟨a1, a2, a3, a4, a5, a6⟩ := M
  exact ⟨by rw [up_n _ _ _ (by decide)]; exact a1, up_s _ _ _ _, by rw [up_o _ _ _ (by decide)]; exact a3, by rw [up_o _ _ _ (by decide)]; exact a4, by rw [up_o _ _ _ (by decide)]; exact a5, by rw [up_o _ _ _ (by decide)]; exact a6⟩
theorem FrN_tol (h : Hp) : FrN h (tol h) := ⟨fun p hp => tol_o h (by omega), tol_j h (by decide), tol_j h (by decide)⟩
theorem FrN_up (h : Hp) {j : Int} (x : Int) (hj : j ≠ 2 ∧ j ≠ 22) : FrN h (up h 80 j x) := ⟨fun p hp => up_n _ _ _ (by omega), up_o _ _ _ (fun e => hj.1 e.symm), up_o _ _ _ (fun e => hj.2 e.symm)⟩
theorem case_17 (L : Nat) (xs : Nat → Int32) : Cs_17 L xs := by
  intro h hI
  have hS := hI.1
  have qs := e17_0 h
  obtain ⟨g, t1, t2, t3, t4⟩ := today hI
  have g81 : g 81 = h 81 := t2 81 (by omega)
  rw [← g81] at t4
  have hZ : ZD (g 81) := zd_of t3.2.2.1
  have hn := zd_n hZ
  obtain ⟨g1, c1, c2, c3, c4⟩ := copy_trial t3
  have z81 : g1 81 = g 81 := c2 81 (by omega)
  have k0 : ∀ i, zK (g 81) 0 i = zkd (g 81) i := fun i => by unfold zK; rw [if_neg (by omega)]
  obtain ⟨g2, d1, d2, d3⟩ := s_plainL (n := g 81 24) hn (g 81 24).toNat 0 g1 (by omega) (by omega) c4.2.1 (fun i i0 i1 => by
    have := (c4.2.2.1 i i0 i1).2.2.1
    have r := (zd_row hZ i0 i1).2.1
    rw [k0] at this
    rw [show g1 47 i = zkd (g 81) i from this]
    exact r)
  have D2 := Dat_plain hZ c4 d2 (fun i i0 i1 => (d3 i i0 i1).2 i0)
  obtain ⟨g4, w, l, c, t, F, a1, a2, a3⟩ := play27 (sta_plain hZ) D2
  have f : ∀ p, (p < 27 ∨ 52 < p) → g4 p = g p := fun p hp => by rw [a2 p (by omega), d2 p (by omega) (by omega), c2 p (by omega)]
  have y81 : g4 81 = g 81 := f 81 (by omega)
  have D1 := Dat_of (d := 1) t3.2.1 t3.2.2.1
  obtain ⟨gm, m1, m2, m3, m4⟩ := t4 g4 y81
  have M1 := MP_fr m2 (tol_MP g4)
  rw [y81] at M1
  obtain ⟨gm2, b2, b4, b5, -⟩ := a3 _ (MP_plain M1 1)
  have m81 : gm 81 = g 81 := M1.1
  have n81 : gm2 81 = g 81 := by rw [b4.1 81 (by omega), up_n _ _ _ (by decide), m81]
  have e17 := s_costL (N := g 81 24) (Z := g 81) (h := g4) hn (by rw [f 19 (by omega)]; exact D1.2.1) (fun i i0 i1 => ⟨by rw [f 21 (by omega), ← k0]; exact (D1.2.2.1 i i0 i1).2.2.1, (zd_row hZ i0 i1).2.1⟩) (g 81 24).toNat 0 (by omega)
  rw [Nat.zero_add] at e17
  have e17 : X (17, 37, [aR 0, aI 0, aI 0], [], g4) = _ := e17
  rw [t1, bV_some, c1, bV_some, e159_0 (by decide), d1, bV_some, a1, bV_some, e17] at qs
  have qm := e95_0 g4
  have o1 := m_oth (h := gm) (by rw [m81]; exact hZ)
  have o2 := m_oth (h := gm2) (by rw [n81]; exact hZ)
  rw [m81] at o1
  rw [n81] at o2
  rw [m_asTold, bV_some, m1, bV_some, o1, bI_some, b2, bV_some, o2, bI_some] at qm
  have es : sm (fun i => if zkd (g 81) i = 1 then 0 else g4 3 i - g4 29 i) (g 81 24).toNat = sm (fun i => if zkd (g 81) i = 1 then 0 else gm 85 i) (g 81 24).toNat - sm (fun i => if zkd (g 81) i = 1 then 0 else gm2 85 i) (g 81 24).toNat := sm_sub _ (fun p p0 p1 => by
    show (if zkd (g 81) p = 1 then 0 else g4 3 p - g4 29 p) = (if zkd (g 81) p = 1 then 0 else gm 85 p) - (if zkd (g 81) p = 1 then 0 else gm2 85 p)
    have x1 : g 3 p = gm 85 p := (m3.1 p p0 (by omega)).2.1
    have x2 : g4 29 p = gm2 85 p := (b5.1 p p0 (by omega)).2.1
    rw [f 3 (by omega), x1, x2]
    split <;> omega)
  have FN : FrN g4 gm2 := FrN_t (FrN_t (FrN_tol g4) (FrN_m m2)) (FrN_t (FrN_up gm 1 (by decide)) (FrN_m b4))
  rw [es] at qs
  exact ⟨_, g4, gm2, qs, fun p hp => by rw [f p (by omega), t2 p (by omega)]; exact hS p hp, qm, inv_quiet t3 (fun p hp => by rw [FN.1 p (by omega), f p (by omega)]) ⟨by rw [FN.2.1, f 80 (by omega)], by rw [FN.2.2, f 80 (by omega)]⟩⟩
