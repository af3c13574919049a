/-! a day from its beginning to its end, in both -/
theorem m_i7 : ∀ (k : Nat) (c : Int) (h : Hp), 0 ≤ c → c + k = 3 → ∃ g, (∀ last, X (83, 7, [aR 80, aI last, aI c, aN], [], h) = X (83, 27, [aR 80, aI last, aI 0, aN], [], g)) ∧ (∀ q, q ≠ 90 → g q = h q) ∧ (∀ j, c ≤ j → j < 3 → g 90 j = 0) ∧ ∀ j, j < c → g 90 j = h 90 j
  | 0, c, h, c0, hk => ⟨h, fun last => by rw [e83_7, wr_id (x := c) (by omega) (by omega), cd_t (by omega)], fun _ _ => rfl, fun j a b => by omega, fun _ _ => rfl⟩
  | k + 1, c, h, c0, hk => by
    obtain ⟨g, g1, g2, g3, g4⟩ := m_i7 k (c + 1) (up h 90 c 0) (by omega) (by omega)
    refine ⟨g, fun last => ?_, fun q hq => by rw [g2 q hq, up_n _ _ _ hq], fun j a b => ?_, fun j a => by rw [g4 j (by omega), up_o _ _ _ (by omega)]⟩
    · rw [e83_7, wr_id (x := c) (by omega) (by omega), cd_f (by omega), inb_t c0 (by omega) (by omega), cond_t, g1 last]
    · by_cases e : j = c
      · rw [g4 j (by omega), e, up_s]
      · exact g3 j (by omega) b
theorem m_i27 : ∀ (k : Nat) (c : Int) (h : Hp), 0 ≤ c → c + k = 12 → ∃ g, (∀ last, X (83, 27, [aR 80, aI last, aI c, aN], [], h) = X (83, 64, [aR 80, aI last, aI 0, aN], [], g)) ∧ (∀ q, q ≠ 84 → q ≠ 86 → q ≠ 87 → g q = h q) ∧ (∀ j, c ≤ j → j < 12 → g 84 j = 0 ∧ g 86 j = -4 ∧ g 87 j = -4) ∧ ∀ j, j < c → g 84 j = h 84 j ∧ g 86 j = h 86 j ∧ g 87 j = h 87 j
  | 0, c, h, c0, hk => ⟨h, fun last => by rw [e83_27, wr_id (x := c) (by omega) (by omega), cd_t (by omega)], fun _ _ _ _ => rfl, fun j a b => by omega, fun _ _ => ⟨rfl, rfl, rfl⟩⟩
  | k + 1, c, h, c0, hk => by
    obtain ⟨g, g1, g2, g3, g4⟩ := m_i27 k (c + 1) (up (up (up h 84 c 0) 86 c (-4)) 87 c (-4)) (by omega) (by omega)
    refine ⟨g, fun last => ?_, fun q h1 h2 h3 => by rw [g2 q h1 h2 h3, up_n _ _ _ h3, up_n _ _ _ h2, up_n _ _ _ h1], fun j a b => ?_, fun j a => ?_⟩
    · rw [e83_27, wr_id (x := c) (by omega) (by omega), cd_f (by omega), inb_t c0 (by omega) (by omega), cond_t, cond_t, cond_t, g1 last]
    · by_cases e : j = c
      · obtain ⟨x1, x2, x3⟩ := g4 j (by omega)
        rw [x1, x2, x3, e]
        exact ⟨by rw [up_n _ _ _ (by decide), up_n _ _ _ (by decide), up_s], by rw [up_n _ _ _ (by decide), up_s], up_s _ _ _ _⟩
      · exact g3 j (by omega) b
    · obtain ⟨x1, x2, x3⟩ := g4 j (by omega)
      rw [x1, x2, x3, up_o' _ _ _ (by omega), up_o' _ _ _ (by omega), up_o' _ _ _ (by omega), up_o' _ _ _ (by omega), up_o' _ _ _ (by omega), up_o' _ _ _ (by omega), up_o' _ _ _ (by omega), up_o' _ _ _ (by omega), up_o' _ _ _ (by omega)]
      exact ⟨rfl, rfl, rfl⟩
theorem s_pre22 {d : Nat} (hd : d = 1 ∨ d = 27) : ∀ (k : Nat) (c : Int) (h : Hp), 0 ≤ c → c + k = 3 → ∃ g, X (131, 22, [aR d, aI c], [], h) = X (131, 42, [aR d, aI 0], [], g) ∧ (∀ q, q ≠ d + 9 → g q = h q) ∧ (∀ j, c ≤ j → j < 3 → g (d + 9) j = 0) ∧ ∀ j, j < c → g (d + 9) j = h (d + 9) j
  | 0, c, h, c0, hk => ⟨h, by rw [e131_22 hd, wr_id (x := c) (by omega) (by omega), cd_t (by omega)], fun _ _ => rfl, fun j a b => by omega, fun _ _ => rfl⟩
  | k + 1, c, h, c0, hk => by
    obtain ⟨g, g1, g2, g3, g4⟩ := s_pre22 hd k (c + 1) (up h (d + 9) c 0) (by omega) (by omega)
    refine ⟨g, ?_, fun q hq => by rw [g2 q hq, up_n _ _ _ hq], fun j a b => ?_, fun j a => by rw [g4 j (by omega), up_o _ _ _ (by omega)]⟩
    · rw [e131_22 hd, wr_id (x := c) (by omega) (by omega), cd_f (by omega), inb_t c0 (by omega) (by omega), cond_t, g1]
    · by_cases e : j = c
      · rw [g4 j (by omega), e, up_s]
      · exact g3 j (by omega) b
theorem sm_0 {f : Int → Int} : ∀ (k : Nat), (∀ p : Int, 0 ≤ p → p < k → f p = 0) → sm f k = 0
  | 0, _ => rfl
  | k + 1, h => by
    show sm f k + f k = 0
    rw [sm_0 k (fun p a b => h p a (by omega)), h k (by omega) (by omega)]; rfl
theorem day_start {d : Nat} {io : Int → Int} {n : Int} {Z : Int → Int} {pl ru th sh nv ms : Int} (hd : d = 1 ∨ d = 27) (S : Sta io n Z pl ru th sh nv ms) {hc hm : Hp} (M : MP hm Z pl ru th sh nv) (D : Dat d io n Z pl ru th hc) : ∃ gc gm, X (131, 0, [aR d, aN], [], up hc d 14 ms) = some (none, gc) ∧ (∀ last, X (83, 0, [aR 80, aI last, aN, aN], [], hm) = X (83, 64, [aR 80, aI last, aI 0, aN], [], gm)) ∧ Fr d (up hc d 14 ms) hm gc gm ∧ SV d io n Z pl ru th sh nv ms 0 gc gm := by
  have S' := S
  obtain ⟨hZ, hpl, hru, hth, hsh, hnv, hms, hmn, im1, im2⟩ := S'
  have hn := zd_n hZ
  have hnn := D.1
  obtain ⟨a, a1, a2, a3, a4⟩ := m_i7 3 0 (up hm 80 18 0) (by omega) (by omega)
  obtain ⟨b, b1, b2, b3, b4⟩ := m_i27 12 0 a (by omega) (by omega)
  generalize hc0 : up (up (up (up (up hc d 14 ms) d 10 0) d 11 0) d 12 0) d 13 0 = c0
  have co : ∀ p, p ≠ d → c0 p = up hc d 14 ms p := fun p hp => by
    rw [← hc0, up_n _ _ _ hp, up_n _ _ _ hp, up_n _ _ _ hp, up_n _ _ _ hp]
  have cd : ∀ j, (j < 10 ∨ 13 < j) → c0 d j = up hc d 14 ms d j := fun j hj => by
    rw [← hc0, up_o _ _ _ (by omega), up_o _ _ _ (by omega), up_o _ _ _ (by omega), up_o _ _ _ (by omega)]
  have c10 : c0 d 10 = 0 := by rw [← hc0, up_o _ _ _ (by decide), up_o _ _ _ (by decide), up_o _ _ _ (by decide), up_s]
  have c11 : c0 d 11 = 0 := by rw [← hc0, up_o _ _ _ (by decide), up_o _ _ _ (by decide), up_s]
  have c12 : c0 d 12 = 0 := by rw [← hc0, up_o _ _ _ (by decide), up_s]
  have c13 : c0 d 13 = 0 := by rw [← hc0, up_s]
  obtain ⟨e, e1, e2, e3, e4⟩ := s_pre22 hd 3 0 c0 (by omega) (by omega)
  have D0 : Dat d io n Z pl ru th e := Dat_c (fun p p1 p2 => by rw [e2 p (by omega), co p (by omega), up_n _ _ _ (by omega)]) D
  obtain ⟨g, g1, g2, g3⟩ := s_prepL hd hZ n.toNat 0 e (by omega) (by omega) D0 ⟨fun j a b => by omega, fun k a b => by omega, fun k l a b c => by omega, fun i a b => by omega⟩
  have gd : ∀ j, g d j = c0 d j := fun j => by rw [g2 d (by omega), e2 d (by omega)]
  have bm : ∀ p, p ≠ 80 → p ≠ 84 → p ≠ 86 → p ≠ 87 → p ≠ 90 → b p = hm p := fun p h1 h2 h3 h4 h5 => by rw [b2 p h2 h3 h4, a2 p h5, up_n _ _ _ h1]
  have b80 : ∀ j, j ≠ 18 → b 80 j = hm 80 j := fun j hj => by rw [b2 80 (by decide) (by decide) (by decide), a2 80 (by decide), up_o _ _ _ hj]
  have b18 : b 80 18 = 0 := by rw [b2 80 (by decide) (by decide) (by decide), a2 80 (by decide), up_s]
  have b90 : ∀ c, 0 ≤ c → c < 3 → b 90 c = 0 := fun c h0 h1 => by rw [b2 90 (by decide) (by decide) (by decide)]; exact a3 c h0 h1
  have F : Fr d (up hc d 14 ms) hm g b := ⟨fun p hp => by rw [g2 p (by omega), e2 p (by omega), co p (by omega)], fun j hj => by rw [gd, cd j hj], fun p hp => bm p (by omega) (by omega) (by omega) (by omega) (by omega), fun j hj => b80 j hj⟩
  have DG : Dat d io n Z pl ru th g := Dat_c (fun p p1 p2 => by rw [F.1 p (by omega), up_n _ _ _ (by omega)]) D
  refine ⟨g, b, by rw [e131_0 hd, hc0, e1, g1], fun last => by rw [e83_0, a1 last, b1 last], F, Fr_MP F M, DG, by rw [gd, cd 14 (by omega), up_s], ?_, ?_, fun p p0 p1 hp => ?_, fun i i0 i1 => ⟨fun a => ?_, fun _ => (g3.1 i i0 i1).2.2.2.2.2⟩, g3.2, ⟨by rw [gd, c10]; omega, fun k k0 k1 => ?_⟩⟩
  · refine ⟨fun i i0 i1 => ?_, fun c h0 h1 => ?_, by rw [gd, c13, b18], ?_, ?_⟩
    · have io1 := (D.2.2.1 i i0 i1).1
      obtain ⟨x1, x2, x3⟩ := b3 (io i) (by omega) (by omega)
      obtain ⟨y1, y2, y3, y4, y5, y6⟩ := g3.1 i i0 i1
      unfold wt
      rw [x1, x2, x3, y1, y2, y3, y4, y5]
      exact ⟨rfl, rfl, rfl, rfl, rfl, fun q => absurd q (by decide)⟩
    · rw [b90 c h0 h1, g2 (d + 9) (by omega), e3 c h0 h1]; exact ⟨rfl, by decide, by decide⟩
    · rw [gd, c11]
      exact (sm_0 _ (fun p p0 p1 => by show (if b 84 p = 4 then (1 : Int) else 0) = 0; rw [(b3 p p0 (by omega)).1]; rfl)).symm
    · rw [gd, c12]
      exact (sm_0 _ (fun p p0 p1 => by show (if b 84 p = 4 then zSz Z p else 0) = 0; rw [(b3 p p0 (by omega)).1]; rfl)).symm
  · refine ⟨fun p p0 p1 => ?_, fun p q p0 p1 q0 q1 hpq hp => ?_⟩
    · obtain ⟨x1, x2, x3⟩ := b3 p p0 (by omega)
      rw [x1, x2, x3]
      exact ⟨by decide, fun a => absurd a (by decide), fun a => absurd a (by decide), fun _ => ⟨rfl, rfl⟩, fun a => absurd rfl a⟩
    · rw [(b3 p p0 (by omega)).1] at hp; exact absurd hp (by decide)
  · exact absurd (b3 p p0 (by omega)).1 hp
  · have io1 := (D.2.2.1 i i0 i1).1
    rw [(b3 (io i) (by omega) (by omega)).1] at a; exact absurd a (by decide)
  · rw [gd, c10]
    have l := g3.2.1 k k0 k1
    have z := DG.2.2.1 _ l.1 l.2
    have r := (zd_row hZ z.1.1 z.1.2).1
    omega
def wfin (Z : Int → Int) (h : Hp) (p : Int) : Int := if h 84 p = 3 then h 86 p - zmn Z p else if h 84 p = 2 then h 89 p - zmn Z p else if h 84 p = 4 then 240 - zmn Z p else 0
theorem m_fin {Z : Int → Int} (hZ : ZD Z) {last : Int} : ∀ (k : Nat) (p : Int) (w : AV) (h : Hp), 0 ≤ p → p + k = Z 24 → h 81 = Z → (∀ q, 0 ≤ q → q < Z 24 → 0 ≤ h 84 q ∧ h 84 q ≤ 4) → ∃ g, X (83, 92, [aR 80, aI last, aI p, w], [], h) = some (none, g) ∧ (∀ q, q ≠ 85 → g q = h q) ∧ ∀ j, 0 ≤ j → j < Z 24 → g 85 j = if p ≤ j then wfin Z h j else h 85 j
  | 0, p, w, h, p0, hk, h81, hf => by
    have hn := zd_n hZ
    refine ⟨h, ?_, fun _ _ => rfl, fun j a b => by rw [if_neg (by omega)]⟩
    rw [e83_92, h81, wr_id (x := Z 24) (by omega) (by omega), wr_id (x := p) (by omega) (by omega), cd_t (by omega)]
  | k + 1, p, w, h, p0, hk, h81, hf => by
    have hn := zd_n hZ
    have f := hf p p0 (by omega)
    have mo0 : X (50, 0, [aR 80, aI p, aI 0], [], h) = some (some (zmn Z p), h) := by
      rw [m_of p0 (by omega) (by decide) (by decide), Int.add_zero, h81]; rfl
    have key : ∃ w2, X (83, 92, [aR 80, aI last, aI p, w], [], h) = X (83, 92, [aR 80, aI last, aI (p + 1), w2], [], up h 85 p (wfin Z h p)) := by
      rw [e83_92, h81, wr_id (x := Z 24) (by omega) (by omega), wr_id (x := p) (by omega) (by omega), cd_f (by omega), inb_t p0 (by omega) (by omega), wr_id (x := h 84 p) (by omega) (by omega), mo0]
      simp only [cond_t, bI_some]
      unfold wfin
      by_cases c3 : h 84 p = 3
      · exact ⟨aI (h 86 p), by rw [cd_f (show ¬ h 84 p ≠ 3 by omega), cd_f (show ¬ h 84 p < 2 by omega), if_pos c3]⟩
      · by_cases c2 : h 84 p = 2
        · exact ⟨aI (h 89 p), by rw [cd_t c3, cd_f (show ¬ h 84 p ≠ 2 by omega), cd_f (show ¬ h 84 p < 2 by omega), if_neg c3, if_pos c2]⟩
        · refine ⟨aI 240, ?_⟩
          rw [cd_t c3, cd_t c2, if_neg c3, if_neg c2]
          by_cases c4 : h 84 p = 4
          · rw [cd_f (show ¬ h 84 p < 2 by omega), if_pos c4]
          · rw [cd_t (show h 84 p < 2 by omega), if_neg c4]
    obtain ⟨w2, key⟩ := key
    have uo : ∀ q, q ≠ 85 → up h 85 p (wfin Z h p) q = h q := fun q hq => up_n _ _ _ hq
    obtain ⟨g, g1, g2, g3⟩ := m_fin hZ (last := last) k (p + 1) w2 (up h 85 p (wfin Z h p)) (by omega) (by omega) (by rw [uo 81 (by decide)]; exact h81) (by rw [uo 84 (by decide)]; exact hf)
    refine ⟨g, key.trans g1, fun q hq => by rw [g2 q hq, uo q hq], fun j a b => ?_⟩
    rw [g3 j a b]
    have ew : wfin Z (up h 85 p (wfin Z h p)) j = wfin Z h j := by
      unfold wfin
      rw [up_n (q := 84) _ _ _ (by decide), up_n (q := 86) _ _ _ (by decide), up_n (q := 89) _ _ _ (by decide)]
    rw [ew]
    by_cases c : j = p
    · rw [if_neg (by omega), if_pos (by omega), c, up_s]
    · rw [up_o _ _ _ c]
      by_cases e : p ≤ j
      · rw [if_pos (by omega), if_pos e]
      · rw [if_neg (by omega), if_neg e]
theorem s_fin {d : Nat} (hd : d = 1 ∨ d = 27) {n v1 : Int} (hn : 0 ≤ n ∧ n ≤ 12) : ∀ (k : Nat) (p : Int) (h : Hp), 0 ≤ p → p + k = n → h (d + 18) 4 = n → (∀ q, 0 ≤ q → q < n → 0 ≤ h (d + 1) q ∧ h (d + 1) q ≤ 4) → ∃ g, X (130, 48, [aR d, aI v1, aI p], [], h) = some (none, g) ∧ (∀ q, q ≠ d + 2 → g q = h q) ∧ ∀ j, 0 ≤ j → j < n → g (d + 2) j = if p ≤ j ∧ h (d + 1) j = 4 then 240 - h (d + 19) j else h (d + 2) j
  | 0, p, h, p0, hk, h4, hf => by
    refine ⟨h, ?_, fun _ _ => rfl, fun j a b => by rw [if_neg (by omega)]⟩
    rw [e130_48 hd, h4, wr_id (x := n) (by omega) (by omega), wr_id (x := p) (by omega) (by omega), cd_t (by omega)]
  | k + 1, p, h, p0, hk, h4, hf => by
    have f := hf p p0 (by omega)
    have key : X (130, 48, [aR d, aI v1, aI p], [], h) = X (130, 48, [aR d, aI v1, aI (p + 1)], [], if h (d + 1) p = 4 then up h (d + 2) p (240 - h (d + 19) p) else h) := by
      rw [e130_48 hd, h4, wr_id (x := n) (by omega) (by omega), wr_id (x := p) (by omega) (by omega), cd_f (by omega), inb_t p0 (by omega) (by omega), wr_id (x := h (d + 1) p) (by omega) (by omega)]
      simp only [cond_t]
      by_cases c : h (d + 1) p = 4
      · rw [cd_f (by omega), if_pos c]
      · rw [cd_t c, if_neg c]
    generalize hu : (if h (d + 1) p = 4 then up h (d + 2) p (240 - h (d + 19) p) else h) = u at key
    have uo : ∀ q, q ≠ d + 2 → u q = h q := fun q hq => by
      rw [← hu]; split
      · rw [up_n _ _ _ hq]
      · rfl
    have u2 : ∀ j, u (d + 2) j = if j = p ∧ h (d + 1) j = 4 then 240 - h (d + 19) j else h (d + 2) j := fun j => by
      rw [← hu]
      by_cases c : h (d + 1) p = 4
      · rw [if_pos c]
        by_cases e : j = p
        · rw [if_pos ⟨e, by rw [e]; exact c⟩, e, up_s]
        · rw [if_neg (fun a => e a.1), up_o _ _ _ e]
      · rw [if_neg c, if_neg (fun a => c (by rw [← a.1]; exact a.2))]
    obtain ⟨g, g1, g2, g3⟩ := s_fin hd (v1 := v1) hn k (p + 1) u (by omega) (by omega) (by rw [uo _ (by omega)]; exact h4) (by rw [uo _ (by omega)]; exact hf)
    refine ⟨g, key.trans g1, fun q hq => by rw [g2 q hq, uo q hq], fun j a b => ?_⟩
    rw [g3 j a b, uo (d + 1) (by omega), uo (d + 19) (by omega), u2]
    by_cases c : h (d + 1) j = 4
    · by_cases e : p ≤ j
      · by_cases e2 : p + 1 ≤ j
        · rw [if_pos ⟨e2, c⟩, if_pos ⟨e, c⟩]
        · rw [if_neg (fun a => e2 a.1), if_pos ⟨by omega, c⟩, if_pos ⟨e, c⟩]
      · rw [if_neg (fun a => by omega), if_neg (fun a => by omega), if_neg (fun a => by omega)]
    · rw [if_neg (fun a => c a.2), if_neg (fun a => c a.2), if_neg (fun a => c a.2)]
