/-! today -/
def tol (h : Hp) : Hp := up (up (up (up (up h 80 6 (h 81 7)) 80 7 (h 81 5)) 80 8 0) 80 9 240) 80 10 (-4)
theorem tol_o (h : Hp) {p : Nat} (hp : p ≠ 80) : tol h p = h p := by
  unfold tol
  rw [up_n _ _ _ hp, up_n _ _ _ hp, up_n _ _ _ hp, up_n _ _ _ hp, up_n _ _ _ hp]
theorem tol_j (h : Hp) {j : Int} (hj : j < 6 ∨ 10 < j) : tol h 80 j = h 80 j := by
  unfold tol
  rw [up_o _ _ _ (by omega), up_o _ _ _ (by omega), up_o _ _ _ (by omega), up_o _ _ _ (by omega), up_o _ _ _ (by omega)]
theorem m_asTold (h : Hp) : X (69, 0, [aR 80], [], h) = some (none, tol h) := by
  rw [e69_0, show up h 80 6 (h 81 7) 81 5 = h 81 5 by rw [up_n _ _ _ (by decide)]]
  rfl
theorem tol_MP (h : Hp) : MP (tol h) (h 81) 0 (h 81 7) (h 81 5) 240 (-4) := by
  refine ⟨tol_o h (by decide), ?_, ?_, ?_, ?_, ?_⟩ <;> unfold tol
  · rw [up_o _ _ _ (by decide), up_o _ _ _ (by decide), up_s]
  · rw [up_o _ _ _ (by decide), up_o _ _ _ (by decide), up_o _ _ _ (by decide), up_o _ _ _ (by decide), up_s]
  · rw [up_o _ _ _ (by decide), up_o _ _ _ (by decide), up_o _ _ _ (by decide), up_s]
  · rw [up_o _ _ _ (by decide), up_s]
  · rw [up_s]
theorem sta_told {Z : Int → Int} (hZ : ZD Z) : Sta (fun i => i) (Z 24) Z 0 (Z 7) (Z 5) 240 (-4) (-1) := by
  have hs := zd_s hZ
  refine ⟨hZ, Or.inl rfl, by omega, by omega, by omega, by omega, by omega, fun c c0 c1 => by omega, fun p p0 p1 _ => ⟨p, p0, p1, rfl⟩, fun i i0 i1 => (zd_row hZ i0 i1).1.2⟩
theorem End_c {io : Int → Int} {n : Int} {Z : Int → Int} {g b gm : Hp} (e : ∀ p, 2 ≤ p → p ≤ 10 → g p = b p) (e13 : g 1 13 = b 1 13) (H : End 1 io n Z b gm) : End 1 io n Z g gm := by
  unfold End at H ⊢
  rw [e (1 + 1) (by omega) (by omega), e (1 + 2) (by omega) (by omega), e (1 + 3) (by omega) (by omega), e (1 + 4) (by omega) (by omega), e (1 + 5) (by omega) (by omega), e (1 + 6) (by omega) (by omega), e13]
  exact H
/-- what a day told of, played, shows to the reference over any heap with that row -/
def Shows (Z : Int → Int) (g : Hp) : Prop := ∀ hm : Hp, hm 81 = Z → ∃ gm, X (83, 0, [aR 80, aI 239, aN, aN], [], tol hm) = some (none, gm) ∧ FrM (tol hm) gm ∧ End 1 (fun i => i) (Z 24) Z g gm ∧ ∀ t, 0 ≤ t → t < 240 → ∃ gt, X (83, 0, [aR 80, aI t, aN, aN], [], tol hm) = some (none, gt) ∧ FrM (tol hm) gt ∧ Mo (fun i => i) (Z 24) Z gt ∧ Arr Z gt (t + 1) 0 ∧ Ltr Z (t + 1) gt gm
theorem shows_of {Z : Int → Int} (hZ : ZD Z) {h b : Hp} (D : Dat 1 (fun i => i) (Z 24) Z 0 (Z 7) (Z 5) h) (e : X (130, 0, [aR 1, aI (-1), aN], [], h) = some (none, b)) : Shows Z b := by
  intro hm h81
  have M := tol_MP hm
  rw [h81] at M
  obtain ⟨gc, gm, a1, a2, a3, a4, a5, a6, a7⟩ := day_both (Or.inl rfl) (sta_told hZ) M D
  rw [e] at a1
  injection a1 with a1
  injection a1 with _ a1
  rw [← a1] at a5
  exact ⟨gm, a2, a4, a5, a7⟩
theorem shows_c {Z : Int → Int} {g b : Hp} (e : ∀ p, 2 ≤ p → p ≤ 10 → g p = b p) (e13 : g 1 13 = b 1 13) (H : Shows Z b) : Shows Z g := fun hm h81 => by
  obtain ⟨gm, a2, a4, a5, a7⟩ := H hm h81
  exact ⟨gm, a2, a4, End_c e e13 a5, a7⟩
theorem today {L : Nat} {xs : Nat → Int32} {h : Hp} (hI : Inv L xs h) : ∃ g, X (38, 0, [aR 0], [], h) = some (none, g) ∧ (∀ p, (p = 0 ∨ 10 < p) → g p = h p) ∧ Inv L xs g ∧ Shows (h 81) g := by
  have hI' := hI
  obtain ⟨q1, q2, q3, q4, q5, q6, q7, q8⟩ := hI'
  have hZ : ZD (h 81) := zd_of q3
  have D : Dat 1 (fun i => i) (h 81 24) (h 81) 0 (h 81 7) (h 81 5) h := Dat_of q2 q3
  rcases q7 with ⟨q7, a, b, f1, f2, f3, f4⟩ | q7
  · refine ⟨h, by rw [e38_0, q7, wr_0, cd_t rfl], fun _ _ => rfl, hI, shows_c f3 f4 (shows_of hZ (h := a) ?_ f2)⟩
    unfold Dat at D ⊢
    rw [f1 (1 + 18) (by omega), f1 (1 + 19) (by omega), f1 (1 + 20) (by omega), f1 (1 + 21) (by omega), f1 (1 + 22) (by omega), f1 (1 + 12) (by omega), f1 (1 + 13) (by omega), f1 (1 + 14) (by omega), f1 (1 + 16) (by omega)]
    exact D
  · obtain ⟨gc, gm, a1, a2, a3, a4, a5, a6, a7⟩ := day_both (Or.inl rfl) (sta_told hZ) (tol_MP h) D
    have o : ∀ p, p ≠ 1 → up gc 1 15 0 p = gc p := fun p hp => up_n _ _ _ hp
    have f : ∀ p, (p = 0 ∨ 10 < p) → up gc 1 15 0 p = h p := fun p hp => by rw [o p (by omega), a3.1 p (by omega)]
    have e13 : up gc 1 15 0 1 13 = gc 1 13 := up_o _ _ _ (by decide)
    refine ⟨up gc 1 15 0, by rw [e38_0, q7, wr_1, cd_f (by decide), a1, bV_some], f, ?_, shows_c (fun p p1 p2 => o p (by omega)) e13 (shows_of hZ D a1)⟩
    refine ⟨fun p hp => by rw [f p (by omega)]; exact q1 p hp, RR_congr (fun p hp => f p (by omega)) (by rw [f _ (by omega)]) (by rw [f _ (by omega)]) (by rw [f _ (by omega)]) (f _ (by omega)) q2, Zz_congr (f _ (by omega)) q3, Kp_congr (by rw [f _ (by omega)]) (by rw [f _ (by omega)]) (fun p h1 h2 => f p (by omega)) (f _ (by omega)) q4, Tp_congr (by rw [f _ (by omega)]) (by rw [f _ (by omega)]) (f _ (by omega)) (f _ (by omega)) q5, Sh_congr (fun p hp => f p (by omega)) q6, Or.inl ⟨up_s _ _ _ _, h, gc, fun p hp => (f p (by omega)).symm, a1, fun p p1 p2 => o p (by omega), e13⟩, Dr_congr (by rw [f _ (by omega)]) (by rw [f _ (by omega)]) (f _ (by omega)) (f _ (by omega)) q8⟩
/-- the reference's own work at a told day is quiet -/
theorem inv_told {L : Nat} {xs : Nat → Int32} {h gm : Hp} (hI : Inv L xs h) (F : FrM (tol h) gm) : Inv L xs gm := inv_quiet hI (fun p hp => by rw [F.1 p (by omega), tol_o h (by omega)]) ⟨by rw [F.2 2 (by decide), tol_j h (by decide)], by rw [F.2 22 (by decide), tol_j h (by decide)]⟩
theorem case_12 (L : Nat) (xs : Nat → Int32) : Cs_12 L xs := by
  intro h hI a1 a2 r1 r2
  have hS := hI.1
  have e1 : wr a1 = a1 := wr_id r1.1 r1.2
  have e2 : wr a2 = a2 := wr_id r2.1 r2.2
  have hn : h 19 4 = h 81 24 := hI.2.1.2.2.2.1.1
  have hb := hI.2.2.1.2.2.2.1.1
  by_cases p1 : 0 ≤ a1 ∧ a1 < h 81 24
  · obtain ⟨g, t1, t2, t3, t4⟩ := today hI
    have g81 : g 81 = h 81 := t2 81 (by omega)
    obtain ⟨gm, m1, m2, m3, m4⟩ := t4 g g81
    have hi := m3.1 a1 p1.1 p1.2
    have i1 : inb 12 a1 = true := inb_t p1.1 (by omega) (by omega)
    have qs : X (12, 0, [aR 0, aI a1, aI a2], [], h) = some (some (if a2 = 0 then g 2 a1 else if a2 = 1 then g 3 a1 else if a2 = 2 then g 4 a1 else if a2 = 3 then g 5 a1 else -1), g) := by
      rw [e12_0, hn, s_below a1 _ (by omega), bI_some, d_bi1, e1, decide_eq_true p1, cond_t, t1, bV_some, i1, e2]
      simp only [cond_t]
      by_cases c0 : a2 = 0
      · rw [cd_t c0, if_pos c0]
      rw [cd_f c0, if_neg c0]
      by_cases c1 : a2 = 1
      · rw [cd_t c1, if_pos c1]
      rw [cd_f c1, if_neg c1]
      by_cases c2 : a2 = 2
      · rw [cd_t c2, if_pos c2]
      rw [cd_f c2, if_neg c2]
      by_cases c3 : a2 = 3
      · rw [cd_t c3, if_pos c3]
      rw [cd_f c3, if_neg c3]
    by_cases p2 : 0 ≤ a2 ∧ a2 ≤ 3
    · refine ⟨_, g, gm, qs, fun p hp => by rw [t2 p (by omega)]; exact hS p hp, ?_, inv_told t3 m2⟩
      show X (89, 0, [aR 80, aI a1, aI a2], [], g) = _
      rw [e89_0, m_isPerson a1 (by rw [g81]; exact hb), bI_some, d_bi0, e1, g81, decide_eq_true p1, Bool.not_true, cond_f, s_inw g (by omega) (by omega), bI_some, d_bi1, e2, show iin a2 0 3 = true from decide_eq_true p2, cond_t, m_asTold, bV_some, m1, bV_some, i1]
      simp only [cond_t]
      have h0 : g 2 a1 = gm 84 a1 := hi.1
      have h1 : g 3 a1 = gm 85 a1 := hi.2.1
      have h2 : g 4 a1 = gm 86 a1 := hi.2.2.1
      have h3 : g 5 a1 = gm 87 a1 := hi.2.2.2.1
      by_cases c0 : a2 = 0
      · rw [cd_f (by omega), if_pos c0, h0]
      rw [cd_t c0, if_neg c0]
      by_cases c1 : a2 = 1
      · rw [cd_f (by omega), if_pos c1, h1]
      rw [cd_t c1, if_neg c1]
      by_cases c2 : a2 = 2
      · rw [cd_f (by omega), if_pos c2, h2]
      rw [cd_t c2, if_neg c2, if_pos (by omega), h3]
    · refine ⟨_, g, g, qs, fun p hp => by rw [t2 p (by omega)]; exact hS p hp, ?_, t3⟩
      show X (89, 0, [aR 80, aI a1, aI a2], [], g) = _
      rw [e89_0, m_isPerson a1 (by rw [g81]; exact hb), bI_some, d_bi0, e1, g81, decide_eq_true p1, Bool.not_true, cond_f, s_inw g (by omega) (by omega), bI_some, d_bi1, e2, show iin a2 0 3 = false from decide_eq_false p2, cond_f, if_neg (by omega), if_neg (by omega), if_neg (by omega), if_neg (by omega)]
  · refine ⟨-1, h, h, ?_, hS, ?_, hI⟩
    · show X (12, 0, [aR 0, aI a1, aI a2], [], h) = _
      rw [e12_0, hn, s_below a1 _ (by omega), bI_some, d_bi1, e1, decide_eq_false p1, cond_f]
    · show X (89, 0, [aR 80, aI a1, aI a2], [], h) = _
      rw [e89_0, m_isPerson a1 hb, bI_some, d_bi0, e1, decide_eq_false p1, Bool.not_false, cond_t]
