/-! the third's minutes; all sums at once -/
theorem s_thirdL {d : Nat} {N : Int} {g : Hp} (hd : d = 1 ∨ d = 27) (hn : 0 ≤ N ∧ N ≤ 12) (h4 : g (d + 18) 4 = N) (hr : ∀ i : Int, 0 ≤ i → i < N → -4 ≤ g (d + 4) i ∧ g (d + 4) i ≤ 2) : ∀ (k q : Nat), (q : Int) + k = N → X (148, 4, [aR d, aI (sm (fun i => if g (d + 4) i = 2 then jmin (g (d + 5) i) (240 - g (d + 3) i) else 0) q), aI q], [], g) = some (some (sm (fun i => if g (d + 4) i = 2 then jmin (g (d + 5) i) (240 - g (d + 3) i) else 0) (q + k)), g)
  | 0, q, hk => by
    rw [e148_4 hd, h4, wr_id (x := N) (by omega) (by omega), wr_id (x := (q : Int)) (by omega) (by omega), cd_t (by omega)]; rfl
  | k + 1, q, hk => by
    have ih := s_thirdL hd hn h4 hr k (q + 1) (by omega)
    have es : sm (fun i => if g (d + 4) i = 2 then jmin (g (d + 5) i) (240 - g (d + 3) i) else 0) (q + 1) = sm (fun i => if g (d + 4) i = 2 then jmin (g (d + 5) i) (240 - g (d + 3) i) else 0) q + (if g (d + 4) q = 2 then jmin (g (d + 5) q) (240 - g (d + 3) q) else 0) := rfl
    rw [show q + 1 + k = q + (k + 1) by omega, es, show ((q + 1 : Nat) : Int) = (q : Int) + 1 by omega] at ih
    have r := hr q (by omega) (by omega)
    rw [e148_4 hd, h4, wr_id (x := N) (by omega) (by omega), wr_id (x := (q : Int)) (by omega) (by omega), cd_f (by omega), inb_t (by omega) (by omega) (by omega), cond_t, cond_t, cond_t, wr_id (x := g (d + 4) (q : Int)) (by omega) (by omega)]
    by_cases c : g (d + 4) (q : Int) = 2
    · rw [if_pos c] at ih
      rw [cd_f (by omega)]; exact ih
    · rw [if_neg c, Int.add_zero] at ih
      rw [cd_t c]; exact ih
theorem m_thirdL {N : Int} {h : Hp} (hn : 0 ≤ N ∧ N ≤ 12) (h4 : h 81 24 = N) (hr : ∀ i : Int, 0 ≤ i → i < N → (-4 ≤ h 87 i ∧ h 87 i ≤ 2) ∧ (h 87 i = 2 → (0 ≤ h 86 i ∧ h 86 i < 240) ∧ (1 ≤ h 88 i ∧ h 88 i ≤ 260))) : ∀ (k q : Nat), (q : Int) + k = N → X (88, 4, [aR 80, aI (sm (fun i => if h 87 i = 2 then (if h 86 i + h 88 i ≤ 240 then h 88 i else 240 - h 86 i) else 0) q), aI q], [], h) = some (some (sm (fun i => if h 87 i = 2 then (if h 86 i + h 88 i ≤ 240 then h 88 i else 240 - h 86 i) else 0) (q + k)), h)
  | 0, q, hk => by
    rw [e88_4, h4, wr_id (x := N) (by omega) (by omega), wr_id (x := (q : Int)) (by omega) (by omega), cd_t (by omega)]; rfl
  | k + 1, q, hk => by
    have ih := m_thirdL hn h4 hr k (q + 1) (by omega)
    have es : sm (fun i => if h 87 i = 2 then (if h 86 i + h 88 i ≤ 240 then h 88 i else 240 - h 86 i) else 0) (q + 1) = sm (fun i => if h 87 i = 2 then (if h 86 i + h 88 i ≤ 240 then h 88 i else 240 - h 86 i) else 0) q + (if h 87 q = 2 then (if h 86 q + h 88 q ≤ 240 then h 88 q else 240 - h 86 q) else 0) := rfl
    rw [show q + 1 + k = q + (k + 1) by omega, es, show ((q + 1 : Nat) : Int) = (q : Int) + 1 by omega] at ih
    have r := hr q (by omega) (by omega)
    rw [e88_4, h4, wr_id (x := N) (by omega) (by omega), wr_id (x := (q : Int)) (by omega) (by omega), cd_f (by omega), inb_t (by omega) (by omega) (by omega), cond_t, cond_t, cond_t, cond_t, cond_t, wr_id (x := h 87 (q : Int)) (by omega) (by omega)]
    by_cases c : h 87 (q : Int) = 2
    · have r2 := r.2 c
      rw [if_pos c] at ih
      rw [cd_f (by omega), wr_id (x := h 86 (q : Int) + h 88 (q : Int)) (by omega) (by omega)]
      by_cases e : h 86 (q : Int) + h 88 (q : Int) ≤ 240
      · rw [if_pos e] at ih
        rw [cd_t e]; exact ih
      · rw [if_neg e] at ih
        rw [cd_f e]; exact ih
    · rw [if_neg c, Int.add_zero] at ih
      rw [cd_t c]; exact ih
/-- the sums of a played day: together, longest, coin, the third's, by fate -/
def Su (d : Nat) (g gm : Hp) (w l c t : Int) (F : Int → Int) : Prop :=
  X (145, 0, [aR d, aN, aN], [], g) = some (some w, g) ∧ X (84, 0, [aR 80, aN, aN], [], gm) = some (some w, gm) ∧ X (146, 0, [aR d, aN, aN], [], g) = some (some l, g) ∧ X (85, 0, [aR 80, aN, aN], [], gm) = some (some l, gm) ∧ X (144, 0, [aR d, aN, aN], [], g) = some (some c, g) ∧ X (86, 0, [aR 80, aN, aN], [], gm) = some (some c, gm) ∧ X (148, 0, [aR d, aN, aN], [], g) = some (some t, g) ∧ X (88, 0, [aR 80, aN, aN], [], gm) = some (some t, gm) ∧ (∀ f, 0 ≤ f → f ≤ 4 → X (147, 0, [aR d, aI f, aN, aN], [], g) = some (some (F f), g) ∧ ∀ f', wr f' = f → X (87, 0, [aR 80, aI f', aN, aN], [], gm) = some (some (F f), gm)) ∧ (0 ≤ w ∧ w ≤ 2880) ∧ (0 ≤ l ∧ l ≤ 240) ∧ (0 ≤ c ∧ c ≤ 4752) ∧ (0 ≤ t ∧ t ≤ 3120) ∧ F = fun f => sm (fun i => if gm 84 i = f then 1 else 0) (gm 81 24).toNat
theorem wfin_r {io : Int → Int} {n : Int} {Z : Int → Int} {gm : Hp} (hZ : ZD Z) (O : Mo io n Z gm) {p : Int} (p0 : 0 ≤ p) (p1 : p < Z 24) : 0 ≤ wfin Z gm p ∧ wfin Z gm p ≤ 240 := by
  have y := O.1 p p0 p1
  have r := (zd_row hZ p0 p1).1
  unfold wfin
  by_cases c3 : gm 84 p = 3
  · rw [if_pos c3]; have := y.2.1 c3; omega
  · rw [if_neg c3]
    by_cases c2 : gm 84 p = 2
    · rw [if_pos c2]; have := y.2.2.1 c2; omega
    · rw [if_neg c2]; split <;> omega
theorem mul396 {a b : Int} (h1 : 0 ≤ a) (h2 : a ≤ 99) (h3 : 1 ≤ b) (h4 : b ≤ 4) : 0 ≤ a * b ∧ a * b ≤ 396 := by
  have : b = 1 ∨ b = 2 ∨ b = 3 ∨ b = 4 := by omega
  rcases this with rfl | rfl | rfl | rfl <;> omega
theorem sums {d : Nat} {Z : Int → Int} {pl ru th : Int} {g gm : Hp} (hd : d = 1 ∨ d = 27) (hZ : ZD Z) (D : Dat d (fun i => i) (Z 24) Z pl ru th g) (h81 : gm 81 = Z) (E : End d (fun i => i) (Z 24) Z g gm) : ∃ w l c t F, Su d g gm w l c t F := by
  have hn := zd_n hZ
  obtain ⟨E1, E2, E3, E4, E5⟩ := E
  have h4 := D.2.1
  have hm4 : gm 81 24 = Z 24 := by rw [h81]
  have wr0 : ∀ p : Int, 0 ≤ p → p < Z 24 → 0 ≤ gm 85 p ∧ gm 85 p ≤ 240 := fun p p0 p1 => by rw [E4 p p0 p1]; exact wfin_r hZ E3 p0 p1
  have fr : ∀ p : Int, 0 ≤ p → p < Z 24 → 0 ≤ gm 84 p ∧ gm 84 p ≤ 4 := fun p p0 p1 => (E3.1 p p0 p1).1
  have t87 : ∀ i : Int, 0 ≤ i → i < Z 24 → (-4 ≤ gm 87 i ∧ gm 87 i ≤ 2) ∧ (gm 87 i = 2 → gm 84 i = 3 ∧ (0 ≤ gm 86 i ∧ gm 86 i < 240) ∧ (1 ≤ gm 88 i ∧ gm 88 i ≤ 260)) := fun i i0 i1 => by
    have y := E3.1 i i0 i1
    have r := (zd_row hZ i0 i1).1
    by_cases c : gm 84 i = 3
    · have := y.2.1 c
      exact ⟨by omega, fun _ => ⟨c, by omega, this.2.2.1⟩⟩
    · have := y.2.2.2.1 c
      exact ⟨by omega, fun a => by omega⟩
  have ew : sm (fun i => g (d + 2) i) (Z 24).toNat = sm (fun i => gm 85 i) (Z 24).toNat := sm_c _ (fun p p0 p1 => (E1 p p0 (by omega)).2.1)
  have el : mx (fun i => g (d + 2) i) (Z 24).toNat = mx (fun i => gm 85 i) (Z 24).toNat := mx_c _ (fun p p0 p1 => (E1 p p0 (by omega)).2.1)
  have ec : sm (fun i => if g (d + 1) i = 3 then g (d + 14) (g (d + 21) i) * g (d + 6) i else 0) (Z 24).toNat = sm (fun i => if gm 84 i = 3 then gm 81 (20 + zso (gm 81) i) * zSz (gm 81) i else 0) (Z 24).toNat := sm_c _ (fun p p0 p1 => by
    have y := D.2.2.1 p p0 (by omega)
    have r := zd_row hZ (p := p) p0 (by omega)
    show (if g (d + 1) p = 3 then g (d + 14) (g (d + 21) p) * g (d + 6) p else 0) = (if gm 84 p = 3 then gm 81 (20 + zso (gm 81) p) * zSz (gm 81) p else 0)
    rw [(E1 p p0 (by omega)).1, (E1 p p0 (by omega)).2.2.2.2.1, y.2.2.2.1, h81, D.2.2.2.2.2.2.1 (zso Z p) r.2.2.1.1 r.2.2.1.2])
  have et : sm (fun i => if g (d + 4) i = 2 then jmin (g (d + 5) i) (240 - g (d + 3) i) else 0) (Z 24).toNat = sm (fun i => if gm 87 i = 2 then (if gm 86 i + gm 88 i ≤ 240 then gm 88 i else 240 - gm 86 i) else 0) (Z 24).toNat := sm_c _ (fun p p0 p1 => by
    obtain ⟨x1, x2, x3, x4, x5, x6⟩ := E1 p p0 (by omega)
    have q := t87 p p0 (by omega)
    show (if g (d + 4) p = 2 then jmin (g (d + 5) p) (240 - g (d + 3) p) else 0) = (if gm 87 p = 2 then (if gm 86 p + gm 88 p ≤ 240 then gm 88 p else 240 - gm 86 p) else 0)
    rw [x4]
    by_cases c : gm 87 p = 2
    · have q2 := q.2 c
      rw [if_pos c, if_pos c, x3, x6 q2.1]
      unfold jmin
      rw [wr_id (x := 240 - gm 86 p) (by omega) (by omega), wr_id (x := gm 88 p) (by omega) (by omega)]
      by_cases e : gm 86 p + gm 88 p ≤ 240
      · rw [if_neg (by omega), if_pos e]
      · rw [if_pos (by omega), if_neg e]
    · rw [if_neg c, if_neg c])
  have ef : ∀ f, sm (fun i => if g (d + 1) i = f then 1 else 0) (Z 24).toNat = sm (fun i => if gm 84 i = f then 1 else 0) (Z 24).toNat := fun f => sm_c _ (fun p p0 p1 => by
    show (if g (d + 1) p = f then (1 : Int) else 0) = (if gm 84 p = f then 1 else 0)
    rw [(E1 p p0 (by omega)).1])
  have n0 : ((0 : Nat) : Int) + (Z 24).toNat = Z 24 := by omega
  have z0 : 0 + (Z 24).toNat = (Z 24).toNat := Nat.zero_add _
  have b1 := sm_r (f := fun i => gm 85 i) (B := 240) (Z 24).toNat (fun p p0 p1 => wr0 p p0 (by omega))
  have b2 := mx_r (f := fun i => gm 85 i) (B := 240) (by omega) (Z 24).toNat (fun p p0 p1 => wr0 p p0 (by omega))
  have b3 := sm_r (f := fun i => if gm 84 i = 3 then gm 81 (20 + zso (gm 81) i) * zSz (gm 81) i else 0) (B := 396) (Z 24).toNat (fun p p0 p1 => by
    show 0 ≤ (if gm 84 p = 3 then gm 81 (20 + zso (gm 81) p) * zSz (gm 81) p else 0) ∧ _
    rw [h81]
    have r := zd_row hZ (p := p) p0 (by omega)
    have a := hZ.2.2.1 (zso Z p) r.2.2.1.1 r.2.2.1.2
    have a : 0 ≤ Z (20 + zso Z p) ∧ Z (20 + zso Z p) ≤ 99 := a
    have b := zSz_r hZ (p := p) p0 (by omega)
    have m := mul396 a.1 a.2 b.1 b.2
    split
    · exact m
    · omega)
  have b4 := sm_r (f := fun i => if gm 87 i = 2 then (if gm 86 i + gm 88 i ≤ 240 then gm 88 i else 240 - gm 86 i) else 0) (B := 260) (Z 24).toNat (fun p p0 p1 => by
    have q := t87 p p0 (by omega)
    show 0 ≤ (if gm 87 p = 2 then (if gm 86 p + gm 88 p ≤ 240 then gm 88 p else 240 - gm 86 p) else 0) ∧ (if gm 87 p = 2 then (if gm 86 p + gm 88 p ≤ 240 then gm 88 p else 240 - gm 86 p) else 0) ≤ 260
    by_cases c : gm 87 p = 2
    · have := q.2 c
      rw [if_pos c]; split <;> omega
    · rw [if_neg c]; omega)
  refine ⟨sm (fun i => gm 85 i) (Z 24).toNat, mx (fun i => gm 85 i) (Z 24).toNat, sm (fun i => if gm 84 i = 3 then gm 81 (20 + zso (gm 81) i) * zSz (gm 81) i else 0) (Z 24).toNat, sm (fun i => if gm 87 i = 2 then (if gm 86 i + gm 88 i ≤ 240 then gm 88 i else 240 - gm 86 i) else 0) (Z 24).toNat, fun f => sm (fun i => if gm 84 i = f then 1 else 0) (Z 24).toNat, ?_, ?_, ?_, ?_, ?_, ?_, ?_, ?_, fun f f0 f4 => ⟨?_, fun f' ff => ?_⟩, by omega, by omega, by omega, by omega, by rw [hm4]⟩
  · rw [e145_0 hd, ← ew]; have q := s_waitsL hd hn h4 (Z 24).toNat 0 n0; rw [z0] at q; exact q
  · rw [e84_0]; have q := m_waitsL hn hm4 (Z 24).toNat 0 n0; rw [z0] at q; exact q
  · rw [e146_0 hd, ← el]; have q := s_mostL hd hn h4 (fun i i0 i1 => by rw [(E1 i i0 i1).2.1]; exact wr0 i i0 i1) (Z 24).toNat 0 n0; rw [z0] at q; exact q
  · rw [e85_0]; have q := m_mostL hn hm4 wr0 (Z 24).toNat 0 n0; rw [z0] at q; exact q
  · rw [e144_0 hd, ← ec]; have q := s_coinL hd hn h4 (fun i i0 i1 => ⟨by rw [(E1 i i0 i1).1]; exact fr i i0 i1, by rw [(D.2.2.1 i i0 i1).2.2.2.1]; exact (zd_row hZ i0 i1).2.2.1⟩) (Z 24).toNat 0 n0; rw [z0] at q; exact q
  · rw [e86_0]; have q := m_coinL (h := gm) (by rw [h81]; exact hZ) (fun i i0 i1 => fr i i0 (by rw [h81] at i1; exact i1)) (Z 24).toNat 0 (by rw [hm4]; exact n0); rw [z0] at q; exact q
  · rw [e148_0 hd, ← et]; have q := s_thirdL hd hn h4 (fun i i0 i1 => by rw [(E1 i i0 i1).2.2.2.1]; exact (t87 i i0 i1).1) (Z 24).toNat 0 n0; rw [z0] at q; exact q
  · rw [e88_0]; have q := m_thirdL hn hm4 (fun i i0 i1 => ⟨(t87 i i0 i1).1, fun a => ((t87 i i0 i1).2 a).2⟩) (Z 24).toNat 0 n0; rw [z0] at q; exact q
  · rw [e147_0 hd]; have q := s_fatesL hd hn h4 (f := f) ⟨f0, f4⟩ (fun i i0 i1 => by rw [(E1 i i0 i1).1]; exact fr i i0 i1) (Z 24).toNat 0 n0; rw [z0, ef f] at q
    have s0 : sm (fun i => if g (d + 1) i = f then 1 else 0) 0 = 0 := rfl
    rw [s0] at q; exact q
  · rw [e87_0]; have q := m_fatesL hn hm4 ff fr (Z 24).toNat 0 n0; rw [z0] at q
    exact q
