/-! film -/
theorem s_filmL {s lane fr n e : Int} (hs : 0 ≤ s ∧ s < 4) (hl : 0 ≤ lane ∧ lane < 3) (hn : 0 ≤ n ∧ n ≤ 12) (hf : 0 ≤ fr ∧ fr + n ≤ 24) : ∀ (k : Nat) (p : Int) (h : Hp), 0 ≤ p → p + k = n → h 73 s = lane → ∃ g, X (34, 51, [aR 0, aI s, aI lane, aI fr, aI n, aI e, aI p], [], h) = some (some n, g) ∧ (∀ q, q ≠ 75 → g q = h q) ∧ ∀ j, g 75 j = if 24 * s + fr + p ≤ j ∧ j < 24 * s + fr + n then ct lane (h 3 (j - (24 * s + fr))) else h 75 j
  | 0, p, h, p0, hk, h7 => by
    refine ⟨h, ?_, fun _ _ => rfl, fun j => by rw [if_neg (by omega)]⟩
    rw [e34_51, wr_id (x := n) (by omega) (by omega), wr_id (x := p) (by omega) (by omega), cd_t (by omega)]
  | k + 1, p, h, p0, hk, h7 => by
    have key : X (34, 51, [aR 0, aI s, aI lane, aI fr, aI n, aI e, aI p], [], h) = X (34, 51, [aR 0, aI s, aI lane, aI fr, aI n, aI e, aI (p + 1)], [], up h 75 (24 * s + (fr + p)) (ct lane (h 3 p))) := by
      rw [e34_51, wr_id (x := n) (by omega) (by omega), wr_id (x := p) (by omega) (by omega), cd_f (by omega), inb_t p0 (by omega) (by omega), cond_t, s_write hs (by omega) (by omega), bV_some, h7]
    have u : ∀ q, q ≠ 75 → up h 75 (24 * s + (fr + p)) (ct lane (h 3 p)) q = h q := fun q hq => up_n _ _ _ hq
    have u5 : ∀ j, up h 75 (24 * s + (fr + p)) (ct lane (h 3 p)) 75 j = if j = 24 * s + (fr + p) then ct lane (h 3 p) else h 75 j := fun j => by unfold up; simp
    generalize up h 75 (24 * s + (fr + p)) (ct lane (h 3 p)) = v at key u u5
    obtain ⟨g, g1, g2, g3⟩ := s_filmL hs hl hn hf (e := e) k (p + 1) v (by omega) (by omega) (by rw [u 73 (by decide)]; exact h7)
    refine ⟨g, key.trans g1, fun q hq => by rw [g2 q hq, u q hq], fun j => ?_⟩
    rw [g3 j, u 3 (by decide), u5]
    by_cases c : j = 24 * s + (fr + p)
    · rw [if_neg (by omega), if_pos c, if_pos (by omega), c, show 24 * s + (fr + p) - (24 * s + fr) = p by omega]
    · rw [if_neg c]
      by_cases c2 : 24 * s + fr + p ≤ j ∧ j < 24 * s + fr + n
      · rw [if_pos (by omega), if_pos c2]
      · rw [if_neg (by omega), if_neg c2]
theorem m_filmL {s lane fr n e : Int} (hs : 0 ≤ s ∧ s < 4) (hl : 0 ≤ lane ∧ lane < 3) (hn : 0 ≤ n ∧ n ≤ 12) (hf : 0 ≤ fr ∧ fr + n ≤ 24) : ∀ (k : Nat) (p : Int) (h : Hp), 0 ≤ p → p + k = n → h 81 24 = n → ∃ g, X (120, 48, [aR 80, aI s, aI lane, aI fr, aI e, aI p], [], h) = some (some n, g) ∧ (∀ q, q ≠ 97 → g q = h q) ∧ ∀ j, g 97 j = if 24 * s + fr + p ≤ j ∧ j < 24 * s + fr + n then ct lane (h 85 (j - (24 * s + fr))) else h 97 j
  | 0, p, h, p0, hk, h7 => by
    refine ⟨h, ?_, fun _ _ => rfl, fun j => by rw [if_neg (by omega)]⟩
    rw [e120_48, h7, wr_id (x := n) (by omega) (by omega), wr_id (x := p) (by omega) (by omega), cd_t (by omega)]
  | k + 1, p, h, p0, hk, h7 => by
    have key : X (120, 48, [aR 80, aI s, aI lane, aI fr, aI e, aI p], [], h) = X (120, 48, [aR 80, aI s, aI lane, aI fr, aI e, aI (p + 1)], [], up h 97 (24 * s + fr + p) (ct lane (h 85 p))) := by
      rw [e120_48, h7, wr_id (x := n) (by omega) (by omega), wr_id (x := p) (by omega) (by omega), cd_f (by omega), inb_t p0 (by omega) (by omega), cond_t, m_cutTo _ _ _ hl, bI_some, inb_t (by omega) (by omega) (by omega), cond_t, wr_id (x := 24 * s + fr + p) (by omega) (by omega)]
    have u : ∀ q, q ≠ 97 → up h 97 (24 * s + fr + p) (ct lane (h 85 p)) q = h q := fun q hq => up_n _ _ _ hq
    have u5 : ∀ j, up h 97 (24 * s + fr + p) (ct lane (h 85 p)) 97 j = if j = 24 * s + fr + p then ct lane (h 85 p) else h 97 j := fun j => by unfold up; simp
    generalize up h 97 (24 * s + fr + p) (ct lane (h 85 p)) = v at key u u5
    obtain ⟨g, g1, g2, g3⟩ := m_filmL hs hl hn hf (e := e) k (p + 1) v (by omega) (by omega) (by rw [u 81 (by decide)]; exact h7)
    refine ⟨g, key.trans g1, fun q hq => by rw [g2 q hq, u q hq], fun j => ?_⟩
    rw [g3 j, u 85 (by decide), u5]
    by_cases c : j = 24 * s + fr + p
    · rw [if_neg (by omega), if_pos c, if_pos (by omega), c, show 24 * s + fr + p - (24 * s + fr) = p by omega]
    · rw [if_neg c]
      by_cases c2 : 24 * s + fr + p ≤ j ∧ j < 24 * s + fr + n
      · rw [if_pos (by omega), if_pos c2]
      · rw [if_neg (by omega), if_neg c2]
theorem case_34 (L : Nat) (xs : Nat → Int32) : Cs_34 L xs := by
  intro h hI a1 a2 a3 r1 r2 r3
  have hS := hI.1
  have hH := hI.2.2.2.2.2.1
  have e1 : wr a1 = a1 := wr_id r1.1 r1.2
  have e2 : wr a2 = a2 := wr_id r2.1 r2.2
  have hcn : h 19 4 = h 81 24 := hI.2.1.2.2.2.1.1
  have hcb := hI.2.2.1.2.2.2.1.1
  cases hs : sl a1 a2
  · refine ⟨-1, h, h, ?_, hS, ?_, hI⟩
    · show X (34, 0, [aR 0, aI a1, aI a2, aI a3, aN, aN, aN], [], h) = _
      rw [e34_0, s_asl, bI_some, d_bi1, e1, e2, hs, cond_f]
    · show X (120, 0, [aR 80, aI a1, aI a2, aI a3, aN, aN], [], h) = _
      rw [e120_0, m_isSheet, bI_some, d_bi1, e1, e2, hs, cond_f]
  have hs' : (0 ≤ a1 ∧ a1 < 4) ∧ (0 ≤ a2 ∧ a2 < 3) := of_decide_eq_true hs
  have rr := rfu_r h a1 a2 a3 (h 81 24)
  have k1 := e34_0 a1 a2 a3 h
  rw [s_asl, bI_some, d_bi1, e1, e2, hs, cond_t, hcn, s_refu hH hs r3 (by omega), bI_some, wr_id (x := rfu h a1 a2 a3 (h 81 24)) (by omega) (by omega)] at k1
  by_cases p : rfu h a1 a2 a3 (h 81 24) = 0
  · have hp : h 95 a1 = a2 ∧ 0 ≤ a3 ∧ a3 ≤ h 96 a1 - h 81 24 := by
      unfold rfu at p
      by_cases z1 : h 95 a1 < 0
      · rw [if_pos z1] at p; omega
      · rw [if_neg z1] at p
        by_cases z2 : h 95 a1 = a2
        · rw [if_pos z2] at p
          by_cases z3 : 0 ≤ a3 ∧ a3 ≤ h 96 a1 - h 81 24
          · exact ⟨z2, z3⟩
          · rw [if_neg z3] at p; omega
        · rw [if_neg z2] at p; omega
    obtain ⟨y1, y2, y3⟩ := hH a1 hs'.1.1 hs'.1.2
    have y3 := y3 (by omega)
    obtain ⟨g, t1, t2, t3, t4⟩ := today hI
    rw [cd_t p, t1, bV_some, p] at k1
    obtain ⟨g2, f1, f2, f3⟩ := s_filmL hs'.1 hs'.2 (n := h 81 24) (fr := a3) (e := 0) hcb (by omega) (h 81 24).toNat 0 g (by omega) (by omega) (by rw [t2 73 (by omega), y1, hp.1])
    have g2h : ∀ q, (q = 0 ∨ 10 < q) → q ≠ 75 → g2 q = h q := fun q hq h7 => by rw [f2 q h7, t2 q hq]
    obtain ⟨gm, m1, m2, m3, m4⟩ := t4 g2 (g2h 81 (by omega) (by decide))
    have gmo : ∀ q, ¬ (q = 80 ∨ (84 ≤ q ∧ q ≤ 90)) → gm q = g2 q := fun q hq => by rw [m2.1 q hq, tol_o g2 (by omega)]
    obtain ⟨gf, n1, n2, n3⟩ := m_filmL hs'.1 hs'.2 (n := h 81 24) (fr := a3) (e := 0) hcb (by omega) (h 81 24).toNat 0 gm (by omega) (by omega) (by rw [gmo 81 (by omega), g2h 81 (by omega) (by decide)])
    have hl : X (116, 0, [aR 80, aI a1, aI a2, aI a3, aI (h 81 24)], [], g2) = some (some 0, g2) := by
      rw [e116_0, inb_t hs'.1.1 hs'.1.2 (by omega), cond_t, g2h 95 (by omega) (by decide), g2h 96 (by omega) (by decide), e1, wr_id (x := h 95 a1) (by omega) (by omega), e2, cd_t hp.1, cond_t, wr_id (x := h 96 a1 - h 81 24) (by omega) (by omega), s_inw _ (by omega) (by omega), bI_some, d_bi0, wr_id (x := a3) r3.1 r3.2, show iin a3 0 (h 96 a1 - h 81 24) = true from decide_eq_true hp.2, Bool.not_true, cond_f]
    refine ⟨h 81 24, g2, gf, k1.trans f1, fun q hq => by rw [g2h q (by omega) (by omega)]; exact hS q hq, ?_, ?_⟩
    · show X (120, 0, [aR 80, aI a1, aI a2, aI a3, aN, aN], [], g2) = _
      rw [e120_0, m_isSheet, bI_some, d_bi1, e1, e2, hs, cond_t, g2h 81 (by omega) (by decide), hl, bI_some, wr_0, cd_t (by decide), m_asTold, bV_some, m1, bV_some, n1]
    · have gfo : ∀ q, ¬ (q = 80 ∨ (84 ≤ q ∧ q ≤ 90) ∨ q = 75 ∨ q = 97) → gf q = g q := fun q hq => by rw [n2 q (by omega), gmo q (by omega), f2 q (by omega)]
      have g80 : ∀ j, (j < 6 ∨ 10 < j) → j ≠ 18 → gf 80 j = g 80 j := fun j hj h18 => by rw [n2 80 (by decide), m2.2 j h18, tol_j g2 hj, f2 80 (by decide)]
      have w85 : ∀ i, 0 ≤ i → i < h 81 24 → g 3 i = gm 85 i ∧ Rg (gm 85 i) := fun i i0 i1 => by
        have w := wfin_r (zd_of hI.2.2.1) m3.2.2.1 i0 i1
        rw [← m3.2.2.2.1 i i0 i1] at w
        exact ⟨(m3.1 i i0 i1).2.1, by unfold Rg; omega⟩
      have hgm97 : gm 97 = g 97 := by rw [gmo 97 (by omega), f2 97 (by decide)]
      have hgf75 : gf 75 = g2 75 := by rw [n2 75 (by decide), gmo 75 (by omega)]
      have IQ : Inv L xs (fun q => if q = 75 then g 75 else if q = 97 then g 97 else gf q) := by
        refine inv_quiet t3 (fun q hq => ?_) ⟨?_, ?_⟩
        · show (if q = 75 then g 75 else if q = 97 then g 97 else gf q) = g q
          by_cases c : q = 75
          · rw [if_pos c, c]
          · rw [if_neg c]
            by_cases c2 : q = 97
            · rw [if_pos c2, c2]
            · rw [if_neg c2]; exact gfo q (by omega)
        · show gf 80 2 = _
          exact g80 2 (by omega) (by decide)
        · show gf 80 22 = _
          exact g80 22 (by omega) (by decide)
      refine inv_sh IQ (fun q hq => by
        show gf q = (if q = 75 then g 75 else if q = 97 then g 97 else gf q)
        rw [if_neg (by omega), if_neg (by omega)]) (fun z z0 z1 => ?_)
      obtain ⟨x1, x2, x3⟩ := t3.2.2.2.2.2.1 z z0 z1
      rw [gfo 73 (by omega), gfo 74 (by omega), gfo 95 (by omega), gfo 96 (by omega), hgf75]
      refine ⟨x1, x2, fun b => ⟨(x3 b).1, (x3 b).2.1, fun i i0 i1 => ?_⟩⟩
      rw [f3, n3, hgm97]
      by_cases c : 24 * a1 + a3 + 0 ≤ 24 * z + i ∧ 24 * z + i < 24 * a1 + a3 + h 81 24
      · have w := w85 (24 * z + i - (24 * a1 + a3)) (by omega) (by omega)
        rw [if_pos c, if_pos c, w.1]
        exact ⟨rfl, ct_rg w.2⟩
      · rw [if_neg c, if_neg c]
        exact (x3 b).2.2 i i0 i1
  · rw [cd_f p] at k1
    refine ⟨_, h, h, k1, hS, ?_, hI⟩
    show X (120, 0, [aR 80, aI a1, aI a2, aI a3, aN, aN], [], h) = _
    rw [e120_0, m_isSheet, bI_some, d_bi1, e1, e2, hs, cond_t, m_lacks hH hs r3 (by omega), bI_some, wr_id (x := rfu h a1 a2 a3 (h 81 24)) (by omega) (by omega), cd_f (by omega)]
