/-! the other day by whatever it is told: its sums, whatever heap the reference plays on -/
noncomputable def mph (Z : Int → Int) (pl ru th sh nv : Int) : Hp := up (up (up (up (up (fun _ => Z) 80 8 pl) 80 6 ru) 80 7 th) 80 9 sh) 80 10 nv
theorem mph_MP (Z : Int → Int) (pl ru th sh nv : Int) : MP (mph Z pl ru th sh nv) Z pl ru th sh nv := by
  unfold mph
  refine ⟨?_, ?_, ?_, ?_, ?_, up_s _ _ _ _⟩
  · rw [up_n _ _ _ (by decide), up_n _ _ _ (by decide), up_n _ _ _ (by decide), up_n _ _ _ (by decide), up_n _ _ _ (by decide)]
  · rw [up_o _ _ _ (by decide), up_o _ _ _ (by decide), up_o _ _ _ (by decide), up_o _ _ _ (by decide), up_s]
  · rw [up_o _ _ _ (by decide), up_o _ _ _ (by decide), up_o _ _ _ (by decide), up_s]
  · rw [up_o _ _ _ (by decide), up_o _ _ _ (by decide), up_s]
  · rw [up_o _ _ _ (by decide), up_s]
theorem res_inj {a b : Int} {m n : Hp} (e : (some (some a, m) : Res) = some (some b, n)) : b = a := by
  injection e with e
  injection e with e _
  injection e with e
  exact e.symm
theorem res_inv {m n : Hp} (e : (some (none, m) : Res) = some (none, n)) : n = m := by
  injection e with e
  injection e with _ e
  exact e.symm
theorem play27 {Z : Int → Int} {pl ru th nv ms : Int} {g : Hp} (S : Sta (fun i => i) (Z 24) Z pl ru th 240 nv ms) (D : Dat 27 (fun i => i) (Z 24) Z pl ru th g) : ∃ gc w l c t, ∃ F : Hp → Int → Int, X (130, 0, [aR 27, aI ms, aN], [], g) = some (none, gc) ∧ (∀ p, (p < 27 ∨ 36 < p) → gc p = g p) ∧ ∀ hm : Hp, MP hm Z pl ru th 240 nv → ∃ gm, X (83, 0, [aR 80, aI 239, aN, aN], [], hm) = some (none, gm) ∧ FrM hm gm ∧ End 27 (fun i => i) (Z 24) Z gc gm ∧ ∀ g' : Hp, (∀ p, 27 ≤ p → p ≤ 49 → g' p = gc p) → Su 27 g' gm w l c t (F gm) := by
  have hZ : ZD Z := S.1
  have M0 := mph_MP Z pl ru th 240 nv
  obtain ⟨gc, gm0, a1, a2, a3, a4, a5, a6, a7⟩ := day_both (d := 27) (Or.inr rfl) S M0 D
  have DG : Dat 27 (fun i => i) (Z 24) Z pl ru th gc := Dat_c (fun p p1 p2 => a3.1 p (by omega)) D
  obtain ⟨w, l, c, t, F, s⟩ := sums (d := 27) (Or.inr rfl) hZ DG (MP_fr a4 M0).1 a5
  refine ⟨gc, w, l, c, t, fun gm f => sm (fun i => if gm 84 i = f then 1 else 0) (gm 81 24).toNat, a1, fun p hp => a3.1 p (by omega), fun hm M => ?_⟩
  obtain ⟨g', gm, b1, b2, b3, b4, b5, b6, b7⟩ := day_both (d := 27) (Or.inr rfl) S M D
  have eg : g' = gc := res_inv (a1.symm.trans b1)
  subst eg
  obtain ⟨w', l', c', t', F', s'⟩ := sums' (d := 27) (Or.inr rfl) hZ DG (MP_fr b4 M).1 b5
  refine ⟨gm, b2, b4, b5, fun gx e => ?_⟩
  have S0 := s' g' (fun p _ _ => rfl)
  have S1 := s' gx e
  obtain ⟨s1, s2, s3, s4, s5, s6, s7, s8, s9, x1, x2, x3, x4, eF⟩ := s
  obtain ⟨u1, u2, u3, u4, u5, u6, u7, u8, u9, _, _, _, _, eF'⟩ := S0
  have e1 : w' = w := res_inj (s1.symm.trans u1)
  have e2 : l' = l := res_inj (s3.symm.trans u3)
  have e3 : c' = c := res_inj (s5.symm.trans u5)
  have e4 : t' = t := res_inj (s7.symm.trans u7)
  subst e1 e2 e3 e4
  rw [eF'] at S1
  exact S1
/-! third -/
theorem Dat_third {d : Nat} {io : Int → Int} {n : Int} {Z : Int → Int} {pl ru th : Int} {h : Hp} (H : Dat d io n Z pl ru th h) (t : Int) : Dat d io n Z pl ru t (up h (d + 12) 5 t) := by
  obtain ⟨a1, a2, a3, a4, ⟨b0, b1, b2, b3, b4, b6, b5, b7⟩, a6, a7, a8⟩ := H
  have o : ∀ p, p ≠ d + 12 → up h (d + 12) 5 t p = h p := fun p hp => up_n _ _ _ hp
  unfold Dat
  rw [o (d + 18) (by omega), o (d + 19) (by omega), o (d + 20) (by omega), o (d + 21) (by omega), o (d + 22) (by omega), o (d + 13) (by omega), o (d + 14) (by omega), o (d + 16) (by omega), up_s, up_o _ _ _ (by decide), up_o _ _ _ (by decide), up_o _ _ _ (by decide), up_o _ _ _ (by decide), up_o _ _ _ (by decide), up_o _ _ _ (by decide), up_o _ _ _ (by decide)]
  exact ⟨a1, a2, a3, a4, ⟨b0, b1, b2, b3, b4, b6, rfl, b7⟩, a6, a7, a8⟩
theorem sta_third {Z : Int → Int} (hZ : ZD Z) {t : Int} (t0 : 0 ≤ t ∧ t ≤ 13) : Sta (fun i => i) (Z 24) Z 0 (Z 7) t 240 (-4) (-1) := by
  obtain ⟨a1, a2, a3, a4, a5⟩ := sta_told hZ
  exact ⟨a1, a2, a3, t0, a5⟩
theorem MP_third {h : Hp} {Z : Int → Int} {pl ru th sh nv : Int} (M : MP h Z pl ru th sh nv) (t : Int) : MP (up h 80 7 t) Z pl ru t sh nv := by
  obtain ⟨a1, a2, a3, a4, a5, a6⟩ := M
  exact ⟨by rw [up_n _ _ _ (by decide)]; exact a1, by rw [up_o _ _ _ (by decide)]; exact a2, by rw [up_o _ _ _ (by decide)]; exact a3, up_s _ _ _ _, by rw [up_o _ _ _ (by decide)]; exact a5, by rw [up_o _ _ _ (by decide)]; exact a6⟩
def TV (Z : Int → Int) (fee t s : Int) : Prop := (0 ≤ s ∧ s ≤ 400000) ∧ ∀ hm, MP hm Z 0 (Z 7) t 240 (-4) → ∃ gm w m, X (83, 0, [aR 80, aI 239, aN, aN], [], hm) = some (none, gm) ∧ FrM hm gm ∧ X (84, 0, [aR 80, aN, aN], [], gm) = some (some w, gm) ∧ X (88, 0, [aR 80, aN, aN], [], gm) = some (some m, gm) ∧ w + fee * m = s
theorem TV_u {Z : Int → Int} {fee t s s' : Int} (H : TV Z fee t s) (H' : TV Z fee t s') : s' = s := by
  obtain ⟨gm, w, m, a1, a2, a3, a4, a5⟩ := H.2 _ (mph_MP Z 0 (Z 7) t 240 (-4))
  obtain ⟨gm', w', m', b1, b2, b3, b4, b5⟩ := H'.2 _ (mph_MP Z 0 (Z 7) t 240 (-4))
  have eg : gm' = gm := res_inv (a1.symm.trans b1)
  subst eg
  have e1 : w' = w := res_inj (a3.symm.trans b3)
  have e2 : m' = m := res_inj (a4.symm.trans b4)
  subst e1 e2
  exact b5.symm.trans a5
def TB (Z : Int → Int) (fee lo hi b l : Int) : Prop := (lo ≤ b ∧ b ≤ hi) ∧ TV Z fee b l ∧ ∀ t s, lo ≤ t → t ≤ hi → TV Z fee t s → l ≤ s ∧ (s = l → t ≤ b)
theorem TB_u {Z : Int → Int} {fee lo hi b l b' l' : Int} (H : TB Z fee lo hi b l) (H' : TB Z fee lo hi b' l') : b' = b ∧ l' = l := by
  have x := H.2.2 b' l' H'.1.1 H'.1.2 H'.2.1
  have y := H'.2.2 b l H.1.1 H.1.2 H.2.1
  have e : l' = l := by omega
  exact ⟨by have := x.2 e; have := y.2 e.symm; omega, e⟩
theorem third_one {Z : Int → Int} (hZ : ZD Z) {fee t th : Int} (f0 : 0 ≤ fee ∧ fee ≤ 99) (t0 : 0 ≤ t ∧ t ≤ 13) {g : Hp} (D : Dat 27 (fun i => i) (Z 24) Z 0 (Z 7) th g) : ∃ gc w m, X (130, 0, [aR 27, aI (-1), aN], [], up g 39 5 t) = some (none, gc) ∧ (∀ p, (p < 27 ∨ 52 < p) → gc p = g p) ∧ Dat 27 (fun i => i) (Z 24) Z 0 (Z 7) t gc ∧ X (145, 0, [aR 27, aN, aN], [], gc) = some (some w, gc) ∧ X (148, 0, [aR 27, aN, aN], [], gc) = some (some m, gc) ∧ TV Z fee t (w + fee * m) := by
  have D2 : Dat 27 (fun i => i) (Z 24) Z 0 (Z 7) t (up g 39 5 t) := Dat_third D t
  obtain ⟨gc, w, l, c, m, F, a1, a2, a3⟩ := play27 (sta_third hZ t0) D2
  obtain ⟨gm, b1, b2, b3, b4⟩ := a3 _ (mph_MP Z 0 (Z 7) t 240 (-4))
  obtain ⟨s1, s2, s3, s4, s5, s6, s7, s8, s9, x1, x2, x3, x4, eF⟩ := b4 gc (fun p _ _ => rfl)
  refine ⟨gc, w, m, a1, fun p hp => by rw [a2 p (by omega), up_n _ _ _ (by omega)], Dat_c (fun p p1 p2 => a2 p (by omega)) D2, s1, s7, ⟨?_, fun hm M => ?_⟩⟩
  · have q1 : 0 ≤ fee * m := Int.mul_nonneg f0.1 x4.1
    have q2 : fee * m ≤ 99 * 3120 := Int.mul_le_mul f0.2 x4.2 x4.1 (by omega)
    omega
  · obtain ⟨gx, c1, c2, c3, c4⟩ := a3 hm M
    have S := c4 gc (fun p _ _ => rfl)
    exact ⟨gx, w, m, c1, c2, S.2.1, S.2.2.2.2.2.2.2.1, rfl⟩
theorem s_thL {Z : Int → Int} (hZ : ZD Z) {fee what : Int} (f0 : 0 ≤ fee ∧ fee ≤ 99) : ∀ (n : Nat) (v3 v4 : Int) (w6 : AV) (g : Hp) (th : Int), n ≤ 13 → Dat 27 (fun i => i) (Z 24) Z 0 (Z 7) th g → TB Z fee n 13 v3 v4 → ∃ gf b l, X (18, 41, [aR 0, aI fee, aI what, aI v3, aI v4, aI ((n : Int) - 1), w6], [], g) = some (some (if wr what ≠ 0 then l else b), gf) ∧ (∀ p, (p < 27 ∨ 52 < p) → gf p = g p) ∧ TB Z fee 0 13 b l
  | 0, v3, v4, w6, g, th, hn, D, B => by
    refine ⟨g, v3, v4, ?_, fun p _ => rfl, B⟩
    rw [e18_41, cd_t (by decide)]
    by_cases c : wr what ≠ 0
    · rw [cd_t c, if_pos c]
    · rw [cd_f c, if_neg c]
  | n + 1, v3, v4, w6, g, th, hn, D, B => by
    obtain ⟨gc, w, m, a1, a2, a3, a4, a5, a6⟩ := third_one hZ f0 (t := (n : Int)) (by omega) D
    have e0 : ((n + 1 : Nat) : Int) - 1 = (n : Int) := by omega
    have hl := B.2.1.1
    have hs := a6.1
    rw [e0, e18_41, wr_id (x := (n : Int)) (by omega) (by omega), cd_f (by omega), a1, bV_some, a4, bI_some, a5, bI_some, cd_f (by omega), wr_id (x := v4) (by omega) (by omega), wr_id (x := w + fee * m) (by omega) (by omega)]
    by_cases c : v4 ≤ w + fee * m
    · rw [cd_t c]
      obtain ⟨gf, b, l, b1, b2, b3⟩ := s_thL hZ f0 (what := what) n v3 v4 (aI (w + fee * m)) gc n (by omega) a3 ⟨by have := B.1; omega, B.2.1, fun t s t0 t1 hv => by
        by_cases e : t = n
        · subst e
          have := TV_u a6 hv
          have := B.1
          omega
        · exact B.2.2 t s (by omega) t1 hv⟩
      exact ⟨gf, b, l, b1, fun p hp => by rw [b2 p hp, a2 p hp], b3⟩
    · rw [cd_f c]
      obtain ⟨gf, b, l, b1, b2, b3⟩ := s_thL hZ f0 (what := what) n n (w + fee * m) (aI (w + fee * m)) gc n (by omega) a3 ⟨by omega, a6, fun t s t0 t1 hv => by
        by_cases e : t = n
        · subst e
          have := TV_u a6 hv
          omega
        · have := B.2.2 t s (by omega) t1 hv
          omega⟩
      exact ⟨gf, b, l, b1, fun p hp => by rw [b2 p hp, a2 p hp], b3⟩
theorem FrN_m {h g : Hp} (F : FrM h g) : FrN h g := ⟨fun p hp => F.1 p (by omega), F.2 2 (by decide), F.2 22 (by decide)⟩
theorem m_thL {Z : Int → Int} {fee what : Int} (hV : ∀ t, 0 ≤ t → t ≤ 13 → ∃ s, TV Z fee t s) : ∀ (k : Nat) (v5 v3 v4 : Int) (w6 : AV) (h : Hp) (th : Int), v5 + k = 14 → 1 ≤ v5 → MP h Z 0 (Z 7) th 240 (-4) → TB Z fee 0 (v5 - 1) v3 v4 → ∃ gf b l, X (96, 37, [aR 80, aI fee, aI what, aI v3, aI v4, aI v5, w6], [], h) = some (some (if wr what ≠ 0 then l else b), gf) ∧ FrN h gf ∧ TB Z fee 0 13 b l
  | 0, v5, v3, v4, w6, h, th, hk, h1, M, B => by
    have e : v5 = 14 := by omega
    subst e
    refine ⟨h, v3, v4, ?_, ⟨fun p _ => rfl, rfl, rfl⟩, B⟩
    rw [e96_37, cd_t (by decide)]
    by_cases c : wr what ≠ 0
    · rw [cd_t c, if_pos c]
    · rw [cd_f c, if_neg c]
  | k + 1, v5, v3, v4, w6, h, th, hk, h1, M, B => by
    obtain ⟨s, hs⟩ := hV v5 (by omega) (by omega)
    have M2 := MP_third M v5
    obtain ⟨gm, w, m, a1, a2, a3, a4, a5⟩ := hs.2 _ M2
    have hl := B.2.1.1
    have hsr := hs.1
    have hb := B.1
    have FN : FrN h gm := FrN_t (⟨fun p hp => up_n _ _ _ (by omega), up_o _ _ _ (by decide), up_o _ _ _ (by decide)⟩ : FrN h (up h 80 7 v5)) (FrN_m a2)
    rw [e96_37, wr_id (x := v5) (by omega) (by omega), cd_f (by omega), a1, bV_some, a3, bI_some, a4, bI_some, wr_id (x := v3) (by omega) (by omega), cd_f (by omega), a5, wr_id (x := v4) (by omega) (by omega), wr_id (x := s) (by omega) (by omega)]
    by_cases c : v4 < s
    · rw [cd_t c]
      obtain ⟨gf, b, l, b1, b2, b3⟩ := m_thL hV (what := what) k (v5 + 1) v3 v4 (aI s) gm v5 (by omega) (by omega) (MP_fr a2 M2) ⟨by omega, B.2.1, fun t s' t0 t1 hv => by
        by_cases e : t = v5
        · subst e
          have := TV_u hs hv
          omega
        · exact B.2.2 t s' t0 (by omega) hv⟩
      exact ⟨gf, b, l, b1, FrN_t FN b2, b3⟩
    · rw [cd_f c]
      obtain ⟨gf, b, l, b1, b2, b3⟩ := m_thL hV (what := what) k (v5 + 1) v5 s (aI s) gm v5 (by omega) (by omega) (MP_fr a2 M2) ⟨by omega, hs, fun t s' t0 t1 hv => by
        by_cases e : t = v5
        · subst e
          have := TV_u hs hv
          omega
        · have := B.2.2 t s' t0 (by omega) hv
          omega⟩
      exact ⟨gf, b, l, b1, FrN_t FN b2, b3⟩
theorem case_18 (L : Nat) (xs : Nat → Int32) : Cs_18 L xs := by
  intro h hI a1 a2 r1 r2
  have hS := hI.1
  have e1 : wr a1 = a1 := wr_id r1.1 r1.2
  have e2 : wr a2 = a2 := wr_id r2.1 r2.2
  have hZ : ZD (h 81) := zd_of hI.2.2.1
  have qs := e18_0 a1 a2 h
  have qm : ∀ g, _ := fun g => e96_0 a1 a2 g
  by_cases p1 : 0 ≤ a1 ∧ a1 ≤ 99
  · rw [e1, cd_f (by omega), cd_f (by omega), s_below a2 2 (by omega), bI_some, d_bi1, e2] at qs
    by_cases p2 : 0 ≤ a2 ∧ a2 < 2
    · obtain ⟨g1, c1, c2, c3, c4⟩ := copy_trial hI
      obtain ⟨gc, w, m, d1, d2, d3, d4, d5, d6⟩ := third_one hZ (fee := a1) p1 (t := 13) (by omega) c4
      rw [decide_eq_true p2, cond_t, c1, bV_some, e18_41, cd_f (by decide), d1, bV_some, d4, bI_some, d5, bI_some, cd_t (by decide)] at qs
      obtain ⟨gf, b, l, f1, f2, f3⟩ := s_thL hZ (what := a2) p1 13 13 (w + a1 * m) (aI (w + a1 * m)) gc 13 (by omega) d3 ⟨by omega, d6, fun t s t0 t1 hv => by
        have e : t = 13 := by omega
        subst e
        have := TV_u d6 hv
        omega⟩
      have f1 : X (18, 41, [aR 0, aI a1, aI a2, aI 13, aI (w + a1 * m), aI (13 + (-1)), aI (w + a1 * m)], [], gc) = _ := f1
      rw [f1] at qs
      have fa : ∀ p, (p < 27 ∨ 52 < p) → gf p = h p := fun p hp => by rw [f2 p hp, d2 p hp, c2 p (by omega)]
      have z81 : gf 81 = h 81 := fa 81 (by omega)
      have hV : ∀ t, 0 ≤ t → t ≤ 13 → ∃ s, TV (h 81) a1 t s := fun t t0 t1 => by
        obtain ⟨_, w', m', _, _, _, _, _, q⟩ := third_one hZ (fee := a1) p1 (t := t) ⟨t0, t1⟩ c4
        exact ⟨_, q⟩
      have M0 : MP (tol gf) (h 81) 0 (h 81 7) (h 81 5) 240 (-4) := by
        have := tol_MP gf
        rw [z81] at this
        exact this
      obtain ⟨s, hs⟩ := hV 0 (by omega) (by omega)
      have M2 := MP_third M0 0
      obtain ⟨gm, w', m', k1, k2, k3, k4, k5⟩ := hs.2 _ M2
      have FN : FrN gf gm := FrN_t (⟨fun p hp => by rw [up_n _ _ _ (by omega), tol_o gf (by omega)], by rw [up_o _ _ _ (by decide), tol_j gf (by decide)], by rw [up_o _ _ _ (by decide), tol_j gf (by decide)]⟩ : FrN gf (up (tol gf) 80 7 0)) (FrN_m k2)
      obtain ⟨gx, b', l', n1, n2, n3⟩ := m_thL hV (what := a2) 13 1 0 s (aI s) gm 0 (by omega) (by omega) (MP_fr k2 M2) ⟨by omega, hs, fun t s' t0 t1 hv => by
        have e : t = 0 := by omega
        subst e
        have := TV_u hs hv
        omega⟩
      have qm := qm gf
      rw [s_inw gf (by omega) (by omega), bI_some, d_bi0, e1, show iin a1 0 99 = true from decide_eq_true p1, Bool.not_true, cond_f, s_inw gf (by omega) (by omega), bI_some, d_bi1, e2, show iin a2 0 1 = true from decide_eq_true (by omega), cond_t, m_asTold, bV_some, e96_37, cd_f (by decide), k1, bV_some, k3, bI_some, k4, bI_some, cd_t (by decide), k5] at qm
      have n1 : X (96, 37, [aR 80, aI a1, aI a2, aI 0, aI s, aI (0 + 1), aI s], [], gm) = _ := n1
      rw [n1] at qm
      obtain ⟨eb, el⟩ := TB_u f3 n3
      subst eb el
      exact ⟨_, gf, gx, qs, fun p hp => by rw [fa p (by omega)]; exact hS p hp, qm, inv_quiet hI (fun p hp => by rw [(FrN_t FN n2).1 p (by omega), fa p (by omega)]) ⟨by rw [(FrN_t FN n2).2.1, fa 80 (by omega)], by rw [(FrN_t FN n2).2.2, fa 80 (by omega)]⟩⟩
    · have qm := qm h
      rw [decide_eq_false p2, cond_f] at qs
      rw [s_inw h (by omega) (by omega), bI_some, d_bi0, e1, show iin a1 0 99 = true from decide_eq_true p1, Bool.not_true, cond_f, s_inw h (by omega) (by omega), bI_some, d_bi1, e2, show iin a2 0 1 = false from decide_eq_false (by omega), cond_f] at qm
      exact ⟨-1, h, h, qs, hS, qm, hI⟩
  · have qm := qm h
    rw [s_inw h (by omega) (by omega), bI_some, d_bi0, e1, show iin a1 0 99 = false from decide_eq_false p1, Bool.not_false, cond_t] at qm
    rw [e1] at qs
    by_cases p3 : a1 < 0
    · rw [cd_t p3] at qs
      exact ⟨-1, h, h, qs, hS, qm, hI⟩
    · rw [cd_f p3, cd_t (by omega)] at qs
      exact ⟨-1, h, h, qs, hS, qm, hI⟩
