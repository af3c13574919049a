/-! play and goTo come to the same -/
def End (d : Nat) (io : Int → Int) (n : Int) (Z : Int → Int) (gc gm : Hp) : Prop := (∀ i, 0 ≤ i → i < n → gc (d + 1) i = gm 84 (io i) ∧ gc (d + 2) i = gm 85 (io i) ∧ gc (d + 3) i = gm 86 (io i) ∧ gc (d + 4) i = gm 87 (io i) ∧ gc (d + 6) i = zSz Z (io i) ∧ (gm 84 (io i) = 3 → gc (d + 5) i = gm 88 (io i))) ∧ gc d 13 = gm 80 18 ∧ Mo io n Z gm ∧ (∀ p, 0 ≤ p → p < Z 24 → gm 85 p = wfin Z gm p) ∧ Arr Z gm 240 0
def FrP (d : Nat) (hc gc : Hp) : Prop := (∀ p, (p < d ∨ d + 9 < p) → gc p = hc p) ∧ (∀ j, (j < 10 ∨ 14 < j) → gc d j = hc d j)
def FrM (hm gm : Hp) : Prop := (∀ p, ¬ (p = 80 ∨ (84 ≤ p ∧ p ≤ 90)) → gm p = hm p) ∧ (∀ j, j ≠ 18 → gm 80 j = hm 80 j)
theorem mo_of {io : Int → Int} {n : Int} {Z : Int → Int} {h g : Hp} (e : ∀ p, p ≠ 85 → g p = h p) (M : Mo io n Z h) : Mo io n Z g := by
  unfold Mo at M ⊢
  rw [e 84 (by decide), e 86 (by decide), e 87 (by decide), e 88 (by decide), e 89 (by decide), e 90 (by decide)]
  exact M
theorem arr_of {Z : Int → Int} {m q : Int} {h g : Hp} (e : ∀ p, p ≠ 85 → g p = h p) (M : Arr Z h m q) : Arr Z g m q := by
  unfold Arr at M ⊢
  rw [e 84 (by decide)]
  exact M
theorem wfin_of {Z : Int → Int} {h g : Hp} (e : ∀ p, p ≠ 85 → g p = h p) (p : Int) : wfin Z g p = wfin Z h p := by
  unfold wfin
  rw [e 84 (by decide), e 86 (by decide), e 89 (by decide)]
theorem ltr_of {Z : Int → Int} {m : Int} {a b h g : Hp} (e : ∀ p, p ≠ 85 → g p = h p) (e2 : ∀ p, p ≠ 85 → b p = a p) (M : Ltr Z m a h) : Ltr Z m b g := by
  unfold Ltr at M ⊢
  rw [e 84 (by decide), e 86 (by decide), e 87 (by decide), e 88 (by decide), e 89 (by decide), e2 84 (by decide), e2 86 (by decide), e2 87 (by decide), e2 88 (by decide), e2 89 (by decide)]
  exact M
theorem m_close {io : Int → Int} {n : Int} {Z : Int → Int} {pl ru th sh nv : Int} {hm : Hp} (hZ : ZD Z) (M : MP hm Z pl ru th sh nv) (O : Mo io n Z hm) {last : Int} (l0 : 0 ≤ last ∧ last < 240) : ∃ g, X (83, 64, [aR 80, aI last, aI (last + 1), aN], [], hm) = some (none, g) ∧ (∀ p, p ≠ 85 → g p = hm p) ∧ ∀ p, 0 ≤ p → p < Z 24 → g 85 p = wfin Z hm p := by
  have hn := zd_n hZ
  obtain ⟨g, g1, g2, g3⟩ := m_fin hZ (last := last) (Z 24).toNat 0 aN hm (by omega) (by omega) M.1 (fun q a b => (O.1 q a b).1)
  refine ⟨g, ?_, g2, fun p a b => by rw [g3 p a b, if_pos a]⟩
  rw [e83_64, wr_id (x := last) (by omega) (by omega), wr_id (x := last + 1) (by omega) (by omega), cd_t (by omega), g1]
theorem day_both {d : Nat} {io : Int → Int} {n : Int} {Z : Int → Int} {pl ru th sh nv ms : Int} (hd : d = 1 ∨ d = 27) (S : Sta io n Z pl ru th sh nv ms) {hc hm : Hp} (M : MP hm Z pl ru th sh nv) (D : Dat d io n Z pl ru th hc) : ∃ gc gm, X (130, 0, [aR d, aI ms, aN], [], hc) = some (none, gc) ∧ X (83, 0, [aR 80, aI 239, aN, aN], [], hm) = some (none, gm) ∧ FrP d hc gc ∧ FrM hm gm ∧ End d io n Z gc gm ∧ gc d 14 = ms ∧ ∀ t, 0 ≤ t → t < 240 → ∃ gt, X (83, 0, [aR 80, aI t, aN, aN], [], hm) = some (none, gt) ∧ FrM hm gt ∧ Mo io n Z gt ∧ Arr Z gt (t + 1) 0 ∧ Ltr Z (t + 1) gt gm := by
  have S' := S
  obtain ⟨hZ, hpl, hru, hth, hsh, hnv, hms, hmn, im1, im2⟩ := S'
  have hn := zd_n hZ
  have hnn := D.1
  obtain ⟨c0, m0, a1, a2, a3, a4⟩ := day_start hd S M D
  obtain ⟨c1, m1, b1, b2, b3, b4, b5⟩ := minutes hd S 240 0 c0 m0 (by omega) (by omega) a4
  rw [show (0 : Int) + ((240 : Nat) : Int) = 239 + 1 by decide] at b1 b2 b4
  have b2 := b2 239 (by decide) (by decide)
  obtain ⟨V1, V2, V3, V4, V5, V6, V7, V8, V9⟩ := b4
  obtain ⟨gm, g1, g2, g3⟩ := m_close hZ V1 V5 (last := 239) (by omega)
  obtain ⟨gc, k1, k2, k3⟩ := s_fin hd (v1 := ms) hnn n.toNat 0 c1 (by omega) (by omega) V2.2.1 (fun q q0 q1 => by rw [(V4.1 q q0 q1).1]; exact (V5.1 _ (V2.2.2.1 q q0 q1).1.1 (V2.2.2.1 q q0 q1).1.2).1)
  have e83 : X (83, 0, [aR 80, aI 239, aN, aN], [], hm) = some (none, gm) := by rw [a2 239, b2, g1]
  have F := Fr_t a3 b3
  refine ⟨gc, gm, ?_, e83, ⟨fun p hp => ?_, fun j hj => ?_⟩, ⟨fun p hp => ?_, fun j hj => ?_⟩, ⟨fun i i0 i1 => ?_, ?_, mo_of g2 V5, fun p p0 p1 => by rw [g3 p p0 p1, wfin_of g2], arr_of g2 V6⟩, ?_, fun t t0 t1 => ?_⟩
  · rw [e130_0 hd, a1, bV_some, b1, e130_11 hd, show wr (239 + 1) = 240 by decide, cd_t (by omega), k1]
  · rw [k2 p (by omega), F.1 p hp, up_n _ _ _ (by omega)]
  · rw [k2 d (by omega), F.2.1 j (by omega), up_o _ _ _ (by omega)]
  · rw [g2 p (by omega), F.2.2.1 p hp]
  · rw [g2 80 (by decide), F.2.2.2 j hj]
  · obtain ⟨y1, y2, y3, y4, y5, y6⟩ := V4.1 i i0 i1
    have io1 := (V2.2.2.1 i i0 i1)
    rw [k2 (d + 1) (by omega), k2 (d + 3) (by omega), k2 (d + 4) (by omega), k2 (d + 6) (by omega), k2 (d + 5) (by omega), g2 84 (by decide), g2 86 (by decide), g2 87 (by decide), g2 88 (by decide), k3 i i0 i1, g3 (io i) io1.1.1 io1.1.2, y1, y5, io1.2.1]
    refine ⟨rfl, ?_, y2, y3, y4, y6⟩
    unfold wt wfin
    by_cases c3 : m1 84 (io i) = 3
    · rw [if_neg (by omega), if_pos c3, if_pos c3]
    · by_cases c2 : m1 84 (io i) = 2
      · rw [if_neg (by omega), if_neg c3, if_pos c2, if_neg c3, if_pos c2]
      · rw [if_neg c3, if_neg c2, if_neg c3, if_neg c2]
        by_cases c4 : m1 84 (io i) = 4
        · rw [if_pos ⟨i0, c4⟩, if_pos c4]
        · rw [if_neg (fun a => c4 a.2), if_neg c4]
  · rw [k2 d (by omega), g2 80 (by decide)]; exact V4.2.2.1
  · rw [k2 d (by omega)]; exact V3
  · obtain ⟨c2, m2, d1, d2, d3, d4, d5⟩ := minutes hd S (t + 1).toNat 0 c0 m0 (by omega) (by omega) a4
    rw [show (0 : Int) + (((t + 1).toNat : Nat) : Int) = t + 1 by omega] at d1 d2 d4
    obtain ⟨c3, m3, f1, f2, f3, f4, f5⟩ := minutes hd S (239 - t).toNat (t + 1) c2 m2 (by omega) (by omega) d4
    rw [show t + 1 + (((239 - t).toNat : Nat) : Int) = 239 + 1 by omega] at f1 f2 f4
    obtain ⟨gt, h1, h2, h3⟩ := m_close hZ d4.1 d4.2.2.2.2.1 (last := t) ⟨t0, t1⟩
    obtain ⟨ge, j1, j2, j3⟩ := m_close hZ f4.1 f4.2.2.2.2.1 (last := 239) (by omega)
    have e2 : X (83, 0, [aR 80, aI 239, aN, aN], [], hm) = some (none, ge) := by rw [a2 239, d2 239 (by omega) (by decide), f2 239 (by omega) (by decide), j1]
    have eg : ge = gm := by
      rw [e83] at e2
      injection e2 with e2
      injection e2 with _ e2
      exact e2.symm
    have F2 := Fr_t a3 d3
    refine ⟨gt, by rw [a2 t, d2 t (by omega) t1, h1], ⟨fun p hp => by rw [h2 p (by omega), F2.2.2.1 p hp], fun j hj => by rw [h2 80 (by decide), F2.2.2.2 j hj]⟩, mo_of h2 d4.2.2.2.2.1, arr_of h2 d4.2.2.2.2.2.1, ?_⟩
    rw [← eg]
    exact ltr_of j2 h2 f5
