/-! drop, item -/
theorem case_32 (L : Nat) (xs : Nat → Int32) : Cs_32 L xs := by
  intro h hI a1 r1
  have hS := hI.1
  have e1 : wr a1 = a1 := wr_id r1.1 r1.2
  by_cases p : 0 ≤ a1 ∧ a1 < 4
  · obtain ⟨y1, y2, y3⟩ := hI.2.2.2.2.2.1 a1 p.1 p.2
    by_cases p0 : h 95 a1 = -1
    · refine ⟨-11, h, h, ?_, hS, ?_, hI⟩
      · show X (32, 0, [aR 0, aI a1, aN], [], h) = _
        rw [e32_0, s_below a1 4 (by omega), bI_some, d_bi1, e1, decide_eq_true p, cond_t, inb_t p.1 p.2 (by omega), cond_t, wr_id (by omega) (by omega), cd_f (by omega)]
      · show X (115, 0, [aR 80, aI a1], [], h) = _
        rw [e115_0, s_inw h (by omega) (by omega), bI_some, d_bi1, e1, show iin a1 0 3 = true from decide_eq_true ⟨p.1, by omega⟩, cond_t, inb_t p.1 p.2 (by omega), cond_t, wr_id (x := h 95 a1) (by omega) (by omega), cd_f (by omega)]
    · have q1 : X (32, 0, [aR 0, aI a1, aN], [], h) = some (some (h 74 a1), fl (up (up h 73 a1 (-1)) 74 a1 0) 75 (24 * a1) (24 * a1 + 24)) := by
        rw [e32_0, s_below a1 4 (by omega), bI_some, d_bi1, e1, decide_eq_true p, cond_t, inb_t p.1 p.2 (by omega), cond_t, wr_id (x := h 73 a1) (by omega) (by omega), cd_t (by omega), cond_t, s_renew p, bV_some]
      have q2 : ∀ g : Hp, g 95 = h 95 → g 96 = h 96 → X (115, 0, [aR 80, aI a1], [], g) = some (some (h 96 a1), up g 95 a1 (-1)) := by
        intro g h1 h2
        rw [e115_0, s_inw g (by omega) (by omega), bI_some, d_bi1, e1, show iin a1 0 3 = true from decide_eq_true ⟨p.1, by omega⟩, cond_t, inb_t p.1 p.2 (by omega), cond_t, h1, wr_id (x := h 95 a1) (by omega) (by omega), cd_t (by omega), cond_t, cond_t, up_n _ _ _ (by decide), h2]
      have y3 := y3 (by omega)
      have o : ∀ p, p ≠ 73 → p ≠ 74 → p ≠ 75 → fl (up (up h 73 a1 (-1)) 74 a1 0) 75 (24 * a1) (24 * a1 + 24) p = h p := fun p n1 n2 n3 => by
        rw [fl_o _ _ _ n3, up_n _ _ _ n2, up_n _ _ _ n1]
      refine ⟨h 96 a1, _, _, q1.trans (by rw [y3.1]), fun z hz => by rw [o z (by omega) (by omega) (by omega)]; exact hS z hz, q2 _ (o _ (by decide) (by decide) (by decide)) (o _ (by decide) (by decide) (by decide)), ?_⟩
      generalize hg : up (fl (up (up h 73 a1 (-1)) 74 a1 0) 75 (24 * a1) (24 * a1 + 24)) 95 a1 (-1) = g
      have f : ∀ p, p ≠ 73 → p ≠ 74 → p ≠ 75 → p ≠ 95 → g p = h p := fun p n1 n2 n3 n4 => by
        rw [← hg, up_n _ _ _ n4, o p n1 n2 n3]
      have g73 : ∀ s, g 73 s = if s = a1 then -1 else h 73 s := fun s => by
        rw [← hg, up_n _ _ _ (by decide), fl_o _ _ _ (by decide), up_n _ _ _ (by decide)]
        unfold up; simp
      have g74 : ∀ s, g 74 s = if s = a1 then 0 else h 74 s := fun s => by
        rw [← hg, up_n _ _ _ (by decide), fl_o _ _ _ (by decide)]
        unfold up; simp
      have g75 : ∀ s, g 75 s = if 24 * a1 ≤ s ∧ s < 24 * a1 + 24 then 0 else h 75 s := fun s => by
        rw [← hg, up_n _ _ _ (by decide)]
        unfold fl up; simp
      have g95 : ∀ s, g 95 s = if s = a1 then -1 else h 95 s := fun s => by
        rw [← hg]
        unfold fl up; simp
      refine inv_sh hI (fun p hp => f p (by omega) (by omega) (by omega) (by omega)) (fun s s1 s2 => ?_)
      obtain ⟨x1, x2, x3⟩ := hI.2.2.2.2.2.1 s s1 s2
      rw [g73, g74, g95, f 96 (by decide) (by decide) (by decide) (by decide)]
      by_cases hs : s = a1
      · rw [if_pos hs, if_pos hs, if_pos hs]
        exact ⟨rfl, by omega, fun z => by omega⟩
      · rw [if_neg hs, if_neg hs, if_neg hs]
        refine ⟨x1, x2, fun z => ⟨(x3 z).1, (x3 z).2.1, fun i i1 i2 => ?_⟩⟩
        rw [g75, f 97 (by decide) (by decide) (by decide) (by decide), if_neg (by omega)]
        exact (x3 z).2.2 i i1 i2
  · refine ⟨-1, h, h, ?_, hS, ?_, hI⟩
    · show X (32, 0, [aR 0, aI a1, aN], [], h) = _
      rw [e32_0, s_below a1 4 (by omega), bI_some, d_bi1, e1, decide_eq_false p, cond_f]
    · show X (115, 0, [aR 80, aI a1], [], h) = _
      rw [e115_0, s_inw h (by omega) (by omega), bI_some, d_bi1, e1, show iin a1 0 3 = false from decide_eq_false (by omega), cond_f]
/-- why a row of items can't be had, 0 if it can -/
def rfu (h : Hp) (s lane fr n : Int) : Int := if h 95 s < 0 then -11 else if h 95 s = lane then (if 0 ≤ fr ∧ fr ≤ h 96 s - n then 0 else -13) else -12
theorem s_refu {h : Hp} (hS : Sh h) {s lane fr n : Int} (hs : sl s lane = true) (r3 : Rg fr) (hn : 0 ≤ n ∧ n ≤ 24) : X (173, 0, [aR 72, aI s, aI lane, aI fr, aI n], [], h) = some (some (rfu h s lane fr n), h) := by
  have hs' : (0 ≤ s ∧ s < 4) ∧ (0 ≤ lane ∧ lane < 3) := of_decide_eq_true hs
  obtain ⟨p, q⟩ := hs'
  obtain ⟨y1, y2, y3⟩ := hS s p.1 p.2
  unfold Rg at r3
  rw [e173_0, inb_t p.1 p.2 (by omega), cond_t, wr_id (x := s) (by omega) (by omega), y1, wr_id (x := h 95 s) (by omega) (by omega)]
  unfold rfu
  by_cases p0 : h 95 s < 0
  · rw [cd_f (by omega), if_pos p0]
  · have y3 := y3 (by omega)
    rw [cd_t (by omega), if_neg p0, cond_t, wr_id (x := lane) (by omega) (by omega)]
    by_cases p1 : h 95 s = lane
    · rw [cd_t p1, if_pos p1, wr_id (x := fr) (by omega) (by omega)]
      by_cases p2 : fr < 0
      · rw [cd_t p2, if_neg (by omega)]
      · rw [cd_f p2, cond_t, y3.1, wr_id (x := h 96 s - n) (by omega) (by omega)]
        by_cases p3 : fr ≤ h 96 s - n
        · rw [cd_t p3, if_pos ⟨by omega, p3⟩]
        · rw [cd_f p3, if_neg (fun z => p3 z.2)]
    · rw [cd_f p1, if_neg p1]
theorem m_lacks {h : Hp} (hS : Sh h) {s lane fr n : Int} (hs : sl s lane = true) (r3 : Rg fr) (hn : 0 ≤ n ∧ n ≤ 24) : X (116, 0, [aR 80, aI s, aI lane, aI fr, aI n], [], h) = some (some (rfu h s lane fr n), h) := by
  have hs' : (0 ≤ s ∧ s < 4) ∧ (0 ≤ lane ∧ lane < 3) := of_decide_eq_true hs
  obtain ⟨p, q⟩ := hs'
  obtain ⟨y1, y2, y3⟩ := hS s p.1 p.2
  unfold Rg at r3
  rw [e116_0, inb_t p.1 p.2 (by omega), cond_t, wr_id (x := s) (by omega) (by omega), wr_id (x := h 95 s) (by omega) (by omega), wr_id (x := lane) (by omega) (by omega)]
  unfold rfu
  by_cases p1 : h 95 s = lane
  · have y3 := y3 (by omega)
    rw [cd_t p1, cond_t, if_neg (by omega), if_pos p1, wr_id (x := h 96 s - n) (by omega) (by omega), s_inw h (by omega) (by omega), bI_some, d_bi0, wr_id (x := fr) (by omega) (by omega)]
    unfold iin
    by_cases p3 : 0 ≤ fr ∧ fr ≤ h 96 s - n
    · rw [decide_eq_true p3, Bool.not_true, cond_f, if_pos p3]
    · rw [decide_eq_false p3, Bool.not_false, cond_t, if_neg p3]
  · rw [cd_f p1, cond_t, if_neg p1]
    by_cases p0 : h 95 s < 0
    · rw [cd_f (by omega), if_pos p0]
    · rw [cd_t (by omega), if_neg p0]
theorem rfu_r (h : Hp) (s lane fr n : Int) : -13 ≤ rfu h s lane fr n ∧ rfu h s lane fr n ≤ 0 := by
  unfold rfu; split <;> (try split) <;> (try split) <;> omega
def ct (lane v : Int) : Int := if lane = 0 then jbyte v else if lane = 1 then jshort v else v
theorem ct_rg {lane v : Int} (hv : Rg v) : Rg (ct lane v) := by
  unfold ct
  split
  · exact ⟨Int32.le_toInt _, Int32.toInt_lt _⟩
  · split
    · exact ⟨Int32.le_toInt _, Int32.toInt_lt _⟩
    · exact hv
theorem m_cutTo (lane v : Int) (h : Hp) (hl : 0 ≤ lane ∧ lane < 3) : X (117, 0, [aI lane, aI v], [], h) = some (some (ct lane v), h) := by
  rw [e117_0, wr_id (by omega) (by omega)]
  unfold ct
  by_cases p0 : lane = 0
  · rw [cd_f (by omega), if_pos p0, jbyte_eq]
  · rw [cd_t p0, if_neg p0]
    by_cases p1 : lane = 1
    · rw [cd_f (by omega), if_pos p1, jshort_eq]
    · rw [cd_t p1, if_neg p1]
theorem s_write {h : Hp} {s i v : Int} (hs : 0 ≤ s ∧ s < 4) (hi : 0 ≤ i ∧ i < 24) (hl : -1 ≤ h 73 s ∧ h 73 s ≤ 2) : X (175, 0, [aR 72, aI s, aI i, aI v, aN], [], h) = some (none, up h 75 (24 * s + i) (ct (h 73 s) v)) := by
  rw [e175_0, inb_t hs.1 hs.2 (by omega), cond_t, wr_id (x := s) (by omega) (by omega), wr_id (x := h 73 s) (by omega) (by omega), inb_t (by omega) (by omega) (by omega), wr_id (x := s * 24 + i) (by omega) (by omega), show s * 24 + i = 24 * s + i by omega]
  simp only [cond_t]
  unfold ct
  by_cases p0 : h 73 s = 0
  · rw [cd_f (by omega), if_pos p0]
  · rw [cd_t p0, if_neg p0]
    by_cases p1 : h 73 s = 1
    · rw [cd_f (by omega), if_pos p1]
    · rw [cd_t p1, if_neg p1]
/-- an item written in both -/
theorem inv_item {L : Nat} {xs : Nat → Int32} {h : Hp} (hI : Inv L xs h) {s i v : Int} (hs : 0 ≤ s ∧ s < 4) (hi : 0 ≤ i ∧ i < 24) (hv : Rg v) : Inv L xs (up (up h 75 (24 * s + i) v) 97 (24 * s + i) v) := by
  generalize hg : up (up h 75 (24 * s + i) v) 97 (24 * s + i) v = g
  have f : ∀ p, p ≠ 75 → p ≠ 97 → g p = h p := fun p n1 n2 => by rw [← hg, up_n _ _ _ n2, up_n _ _ _ n1]
  have g75 : ∀ j, g 75 j = if j = 24 * s + i then v else h 75 j := fun j => by
    rw [← hg, up_n _ _ _ (by decide)]
    unfold up; simp
  have g97 : ∀ j, g 97 j = if j = 24 * s + i then v else h 97 j := fun j => by
    rw [← hg]
    unfold up; simp
  refine inv_sh hI (fun p hp => f p (by omega) (by omega)) (fun t t1 t2 => ?_)
  obtain ⟨x1, x2, x3⟩ := hI.2.2.2.2.2.1 t t1 t2
  rw [f 73 (by decide) (by decide), f 74 (by decide) (by decide), f 95 (by decide) (by decide), f 96 (by decide) (by decide)]
  refine ⟨x1, x2, fun z => ⟨(x3 z).1, (x3 z).2.1, fun j j1 j2 => ?_⟩⟩
  rw [g75, g97]
  by_cases hj : 24 * t + j = 24 * s + i
  · rw [if_pos hj, if_pos hj]; exact ⟨rfl, hv⟩
  · rw [if_neg hj, if_neg hj]; exact (x3 z).2.2 j j1 j2
theorem case_33 (L : Nat) (xs : Nat → Int32) : Cs_33 L xs := by
  intro h hI a1 a2 a3 a4 r1 r2 r3 r4
  have hS := hI.1
  have hH := hI.2.2.2.2.2.1
  have e1 : wr a1 = a1 := wr_id r1.1 r1.2
  have e2 : wr a2 = a2 := wr_id r2.1 r2.2
  cases hs : sl a1 a2
  · refine ⟨-1, h, h, ?_, hS, ?_, hI⟩
    · show X (33, 0, [aR 0, aI a1, aI a2, aI a3, aI a4, aN], [], h) = _
      rw [e33_0, s_asl, bI_some, d_bi1, e1, e2, hs, cond_f]
    · show X (118, 0, [aR 80, aI a1, aI a2, aI a3, aI a4, aN], [], h) = _
      rw [e118_0, m_isSheet, bI_some, d_bi1, e1, e2, hs, cond_f]
  have hs' : (0 ≤ a1 ∧ a1 < 4) ∧ (0 ≤ a2 ∧ a2 < 3) := of_decide_eq_true hs
  obtain ⟨y1, y2, y3⟩ := hH a1 hs'.1.1 hs'.1.2
  have rr := rfu_r h a1 a2 a3 1
  by_cases p : rfu h a1 a2 a3 1 = 0
  · have hp : h 95 a1 = a2 ∧ 0 ≤ a3 ∧ a3 ≤ h 96 a1 - 1 := by
      unfold rfu at p
      by_cases z1 : h 95 a1 < 0
      · rw [if_pos z1] at p; omega
      · rw [if_neg z1] at p
        by_cases z2 : h 95 a1 = a2
        · rw [if_pos z2] at p
          by_cases z3 : 0 ≤ a3 ∧ a3 ≤ h 96 a1 - 1
          · exact ⟨z2, z3⟩
          · rw [if_neg z3] at p; omega
        · rw [if_neg z2] at p; omega
    have y3 := y3 (by omega)
    have q1 : X (33, 0, [aR 0, aI a1, aI a2, aI a3, aI a4, aN], [], h) = some (some 1, up h 75 (24 * a1 + a3) (ct a2 a4)) := by
      rw [e33_0, s_asl, bI_some, d_bi1, e1, e2, hs, cond_t, s_refu hH hs r3 (by omega), bI_some, p, wr_0, cd_t rfl, s_write hs'.1 (by omega) (by omega), bV_some, y1, hp.1]
    refine ⟨1, _, _, q1, fun z hz => by rw [up_n _ _ _ (by omega)]; exact hS z hz, ?_, inv_item hI hs'.1 (i := a3) (by omega) (ct_rg (lane := a2) r4)⟩
    show X (118, 0, [aR 80, aI a1, aI a2, aI a3, aI a4, aN], [], _) = _
    rw [e118_0, m_isSheet, bI_some, d_bi1, e1, e2, hs, cond_t]
    have hl : X (116, 0, [aR 80, aI a1, aI a2, aI a3, aI 1], [], up h 75 (24 * a1 + a3) (ct a2 a4)) = some (some 0, up h 75 (24 * a1 + a3) (ct a2 a4)) := by
      have k : ∀ q, q ≠ 75 → up h 75 (24 * a1 + a3) (ct a2 a4) q = h q := fun q hq => up_n _ _ _ hq
      rw [e116_0, inb_t hs'.1.1 hs'.1.2 (by omega), cond_t, k 95 (by decide), k 96 (by decide), wr_id (x := a1) (by omega) (by omega), wr_id (x := h 95 a1) (by omega) (by omega), wr_id (x := a2) (by omega) (by omega), cd_t hp.1, cond_t, wr_id (x := h 96 a1 - 1) (by omega) (by omega), s_inw _ (by omega) (by omega), bI_some, d_bi0, wr_id (x := a3) r3.1 r3.2, show iin a3 0 (h 96 a1 - 1) = true from decide_eq_true hp.2, Bool.not_true, cond_f]
    rw [hl, bI_some, wr_0, cd_t (by omega), m_cutTo _ _ _ hs'.2, bI_some, inb_t (by omega) (by omega) (by omega), cond_t, wr_id (x := 24 * a1 + a3) (by omega) (by omega)]
  · refine ⟨rfu h a1 a2 a3 1, h, h, ?_, hS, ?_, hI⟩
    · show X (33, 0, [aR 0, aI a1, aI a2, aI a3, aI a4, aN], [], h) = _
      rw [e33_0, s_asl, bI_some, d_bi1, e1, e2, hs, cond_t, s_refu hH hs r3 (by omega), bI_some, wr_id (by omega) (by omega), cd_f p]
    · show X (118, 0, [aR 80, aI a1, aI a2, aI a3, aI a4, aN], [], h) = _
      rw [e118_0, m_isSheet, bI_some, d_bi1, e1, e2, hs, cond_t, m_lacks hH hs r3 (by omega), bI_some, wr_id (x := rfu h a1 a2 a3 1) (by omega) (by omega), cd_f (by omega)]
