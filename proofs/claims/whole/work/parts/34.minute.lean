/-! a minute, many -/
def SV (d : Nat) (io : Int → Int) (n : Int) (Z : Int → Int) (pl ru th sh nv ms m : Int) (hc hm : Hp) : Prop := MP hm Z pl ru th sh nv ∧ Dat d io n Z pl ru th hc ∧ hc d 14 = ms ∧ Rel d io n Z hc hm ∧ Mo io n Z hm ∧ Arr Z hm m 0 ∧ PlB d io n Z pl hc hm m 0 ∧ LnOK d n hc ∧ Ptr d io n hc m 0
theorem sm_ge {f : Int → Int} : ∀ (k : Nat), (∀ p : Int, 0 ≤ p → p < k → 0 ≤ f p) → (0 ≤ sm f k) ∧ ∀ p : Int, 0 ≤ p → p < k → f p ≤ sm f k
  | 0, _ => ⟨Int.le_refl 0, fun p a b => by omega⟩
  | k + 1, h => by
    obtain ⟨i1, i2⟩ := sm_ge k (fun p a b => h p a (by omega))
    have hk := h k (by omega) (by omega)
    have e : sm f (k + 1) = sm f k + f k := rfl
    rw [e]
    refine ⟨by omega, fun p a b => ?_⟩
    by_cases c : p = k
    · rw [c]; omega
    · have := i2 p a (by omega); omega
theorem cnt_0 {Z : Int → Int} (H : ZD Z) {fate : Int → Int} (h : cnt Z fate ≤ 0) : ∀ p, 0 ≤ p → p < Z 24 → fate p ≠ 4 := fun p p0 p1 e => by
  have hn := zd_n H
  have q := (sm_ge (f := fun p => if fate p = 4 then 1 else 0) (Z 24).toNat (fun p _ _ => by show 0 ≤ (if fate p = 4 then (1 : Int) else 0); split <;> omega)).2 p p0 (by omega)
  have q : (if fate p = 4 then (1 : Int) else 0) ≤ cnt Z fate := q
  rw [if_pos e] at q
  omega
theorem m_tireI {h : Hp} (H : ZD (h 81)) {m : Int} (hf : ∀ p, 0 ≤ p → p < h 81 24 → (0 ≤ h 84 p ∧ h 84 p ≤ 4) ∧ h 84 p ≠ 4) : ∀ (k : Nat) (q : Int), 0 ≤ q → q + k = h 81 24 → X (81, 2, [aR 80, aI m, aI q], [], h) = some (none, h)
  | 0, q, q0, hk => by
    have hn := zd_n H
    rw [e81_2, wr_id (x := h 81 24) (by omega) (by omega), wr_id (x := q) (by omega) (by omega), cd_t (by omega)]
  | k + 1, q, q0, hk => by
    have hn := zd_n H
    have f := hf q q0 (by omega)
    rw [e81_2, wr_id (x := h 81 24) (by omega) (by omega), wr_id (x := q) (by omega) (by omega), cd_f (by omega), inb_t q0 (by omega) (by omega), cond_t, wr_id (x := h 84 q) (by omega) (by omega), cd_t f.2]
    exact m_tireI H hf k (q + 1) (by omega) (by omega)
theorem m_beginI {Z : Int → Int} {pl ru th sh nv m : Int} {h : Hp} (M : MP h Z pl ru th sh nv) (hZ : ZD Z) (hpl : pl = 0 ∨ pl = 1) (hru : 0 ≤ ru ∧ ru ≤ 2) (hth : 0 ≤ th ∧ th ≤ 13) (hnv : -4 ≤ nv ∧ nv < 3) (m0 : 0 ≤ m ∧ m < 240) (hf : ∀ p, 0 ≤ p → p < Z 24 → (0 ≤ h 84 p ∧ h 84 p ≤ 4) ∧ h 84 p ≠ 4) (h90 : ∀ c, 0 ≤ c → c < 3 → 0 ≤ h 90 c ∧ h 90 c ≤ 600) : ∀ (k : Nat) (c : Int) (v3 v4 : AV), 0 ≤ c → c + k = 3 → X (82, 2, [aR 80, aI m, aI c, v3, v4], [], h) = some (none, h)
  | 0, c, v3, v4, q0, hk => by
    rw [e82_2, wr_id (x := c) (by omega) (by omega), cd_t (by omega)]
  | k + 1, c, v3, v4, q0, hk => by
    obtain ⟨M1, M2, M3, M4, M5, M6⟩ := M
    have M : MP h Z pl ru th sh nv := ⟨M1, M2, M3, M4, M5, M6⟩
    have hcw := cnt_r hZ (h 84)
    have f9 := h90 c q0 (by omega)
    have mw := (m_waiting (h := h) (by rw [M1]; exact hZ) m0 (fun p p0 p1 => by
        rw [M1] at p1 ⊢
        exact ⟨(hf p p0 p1).1, fun a => absurd a (hf p p0 p1).2⟩)).1
    rw [M1] at mw
    obtain ⟨rm, q, q1, q2⟩ := m_nextFor (h := h) (c := c) (m := m) (by rw [M1]; exact hZ) (by rw [M2]; exact hpl) (by rw [M3]; exact hru) ⟨q0, by omega⟩ m0 (fun p p0 p1 => by rw [M1] at p1; exact (hf p p0 p1).1)
    rw [M1, M2, M3] at q2
    have hr : rm = -4 ∧ q = 0 := by
      rcases q2 with ⟨a, b, _⟩ | ⟨a, b, _⟩ | ⟨a, b, _⟩
      · exact ⟨a, b⟩
      · exact absurd (zWF_4 b) (hf rm a.1 a.2).2
      · exact absurd (zWF_4 b) (hf rm a.1 a.2).2
    have e0 : X (78, 0, [aR 80, aI c, aI m, aN, aN, aN, aN], [], h) = some (some (-4), h) := by rw [q1, hr.1, hr.2, up_id]
    have ih := fun v3 v4 => m_beginI M hZ hpl hru hth hnv m0 hf h90 k (c + 1) v3 v4 (by omega) (by omega)
    rw [e82_2, wr_id (x := c) (by omega) (by omega), cd_f (by omega), M6, wr_id (x := nv) (by omega) (by omega), inb_t q0 (by omega) (by omega), cond_t, wr_id (x := m) (by omega) (by omega), wr_id (x := h 90 c) (by omega) (by omega), e0, mw]
    by_cases a1 : c = nv
    · rw [cd_t a1]; exact ih _ _
    · rw [cd_f a1]
      by_cases a2 : m < h 90 c
      · rw [cd_t a2]; exact ih _ _
      · rw [cd_f a2]
        by_cases a3 : c < 2
        · rw [cd_t a3, bI_some, cd_t (by decide)]; exact ih _ _
        · rw [cd_f a3, bI_some, M4, wr_id (x := cnt Z (h 84)) (by omega) (by omega), wr_id (x := th) (by omega) (by omega)]
          by_cases a4 : cnt Z (h 84) < th
          · rw [cd_t a4]; exact ih _ _
          · rw [cd_f a4, e0, bI_some, cd_t (by decide)]; exact ih _ _
theorem minute {d : Nat} {io : Int → Int} {n : Int} {Z : Int → Int} {pl ru th sh nv ms : Int} (hd : d = 1 ∨ d = 27) (S : Sta io n Z pl ru th sh nv ms) {m : Int} (m0 : 0 ≤ m ∧ m < 240) {hc hm : Hp} (V : SV d io n Z pl ru th sh nv ms m hc hm) : ∃ gc gm, (∀ v1, X (130, 11, [aR d, aI v1, aI m], [], hc) = X (130, 11, [aR d, aI v1, aI (m + 1)], [], gc)) ∧ (∀ last, m ≤ last → last < 240 → X (83, 64, [aR 80, aI last, aI m, aN], [], hm) = X (83, 64, [aR 80, aI last, aI (m + 1), aN], [], gm)) ∧ Fr d hc hm gc gm ∧ SV d io n Z pl ru th sh nv ms (m + 1) gc gm ∧ Ltr Z m hm gm ∧ ∃ m1 m2, X (80, 0, [aR 80, aI m, aN, aN], [], hm) = some (none, m1) ∧ Ltr Z m m1 gm ∧ X (81, 0, [aR 80, aI m, aN], [], m1) = some (none, m2) ∧ X (82, 0, [aR 80, aI m, aN, aN, aN], [], m2) = some (none, gm) ∧ MP m1 Z pl ru th sh nv ∧ MP m2 Z pl ru th sh nv ∧ Mo io n Z m2 ∧ Arr Z m2 (m + 1) 0 := by
  obtain ⟨M, D, h14, R, O, A, P, L, T⟩ := V
  have S' := S
  obtain ⟨hZ, hpl, hru, hth, hsh, hnv, hms, hmn, im1, im2⟩ := S'
  have hn := zd_n hZ
  have hnn := D.1
  obtain ⟨c1, m1, x1, x2, x3, x4, x5, x6, x7, x8, x9, x10⟩ := come_loop hd S m0 (Z 24).toNat 0 aN aN aN aN hc hm (by omega) (by omega) M D R O A P L T
  have y1 : X (133, 0, [aR d, aI m, aN, aN, aN, aN], [], hc) = some (none, c1) := by rw [e133_0 hd]; exact x1
  have y2 : X (80, 0, [aR 80, aI m, aN, aN], [], hm) = some (none, m1) := by rw [e80_0]; exact x2
  have A1 : Arr Z m1 (m + 1) 0 := fun p p0 p1 hp => by
    rcases x6 p p0 p1 hp with a | a
    · exact Or.inl (by omega)
    · exact Or.inl (by omega)
  have D1 := Fr_Dat x3 D
  have M1 := Fr_MP x3 M
  have T1 : Ptr d io n c1 (m + 1) 0 := by
    refine ⟨x9.1, fun k k0 k1 => (x9.2 k k0 k1).trans ?_⟩
    have l := x8.1 k k0 k1
    have b := (D1.2.2.1 _ l.1 l.2).1
    omega
  have hcw := cnt_r hZ (m1 84)
  have eqM : ∀ last, m ≤ last → last < 240 → X (83, 64, [aR 80, aI last, aI m, aN], [], hm) = bV (X (81, 0, [aR 80, aI m, aN], [], m1)) (fun h2 => bV (X (82, 0, [aR 80, aI m, aN, aN, aN], [], h2)) (fun h3 => X (83, 64, [aR 80, aI last, aI (m + 1), aN], [], h3))) := fun last l1 l2 => by
    rw [e83_64, wr_id (x := last) (by omega) (by omega), wr_id (x := m) (by omega) (by omega), cd_f (by omega), y2, bV_some]
  have eqC : ∀ v1, X (130, 11, [aR d, aI v1, aI m], [], hc) = cond (decide (cnt Z (m1 84) ≤ 0)) (X (130, 11, [aR d, aI v1, aI (m + 1)], [], c1)) (bV (X (134, 0, [aR d, aI m, aN, aN, aN, aN], [], c1)) (fun h2 => bV (X (136, 0, [aR d, aI m, aN, aN, aN, aN], [], h2)) (fun h3 => X (130, 11, [aR d, aI v1, aI (m + 1)], [], h3)))) := fun v1 => by
    rw [e130_11 hd, wr_id (x := m) (by omega) (by omega), cd_f (by omega), y1, bV_some, x4.2.2.2.1, wr_id (x := cnt Z (m1 84)) (by omega) (by omega)]
  by_cases hz : cnt Z (m1 84) ≤ 0
  · have no := cnt_0 hZ hz
    have ti : X (81, 0, [aR 80, aI m, aN], [], m1) = some (none, m1) := by
      rw [e81_0]
      exact m_tireI (h := m1) (by rw [M1.1]; exact hZ) (fun p p0 p1 => by rw [M1.1] at p1; exact ⟨(x5.1 p p0 p1).1, no p p0 p1⟩) (Z 24).toNat 0 (by omega) (by rw [M1.1]; omega)
    have bi : X (82, 0, [aR 80, aI m, aN, aN, aN], [], m1) = some (none, m1) := by
      rw [e82_0]
      exact m_beginI M1 hZ hpl hru hth hnv m0 (fun p p0 p1 => ⟨(x5.1 p p0 p1).1, no p p0 p1⟩) (fun c c0 c1 => (x4.2.1 c c0 c1).2) 3 0 aN aN (by omega) (by omega)
    refine ⟨c1, m1, fun v1 => by rw [eqC, cd_t hz], fun last l1 l2 => by rw [eqM last l1 l2, ti, bV_some, bi, bV_some], x3, ⟨M1, D1, by rw [x3.2.1 14 (by omega)]; exact h14, x4, x5, A1, fun i i0 i1 => ⟨fun a => absurd a (no (io i) (D1.2.2.1 i i0 i1).1.1 (D1.2.2.1 i i0 i1).1.2), (x7 i i0 i1).2⟩, x8, T1⟩, x10, m1, m1, y2, Ltr_0 _ _ _, ti, bi, M1, M1, x5, A1⟩
  · obtain ⟨c2, m2, t1, t2, t3, t4, t5, t6, t7, t8, t9, t10⟩ := tire_loop hd S m0 (Z 24).toNat 0 0 aN aN aN c1 m1 (by omega) (by omega) (by omega) (fun j j0 j1 => by have := (D1.2.2.1 j j0 j1).1; omega) M1 D1 x4 x5 A1 x7
    have D2 := Fr_Dat t3 D1
    have M2 := Fr_MP t3 M1
    have h14' : c2 d 14 = ms := by rw [t3.2.1 14 (by omega), x3.2.1 14 (by omega)]; exact h14
    obtain ⟨c3, m3, s1, s2, s3, s4, s5, s6, s7, s8, s9, s10⟩ := serve_loop hd S m0 3 0 aN aN aN aN c2 m2 (by omega) (by omega) h14' M2 D2 t4 t5 t6 t7
    have F := Fr_t x3 (Fr_t t3 s3)
    have l8 : c3 (d + 8) = c1 (d + 8) := s8.trans t8
    have l19 : c3 (d + 19) = c1 (d + 19) := (s3.1 _ (by omega)).trans (t3.1 _ (by omega))
    have l10 : c3 d 10 = c1 d 10 := s9.trans t9
    refine ⟨c3, m3, fun v1 => ?_, fun last l1 l2 => ?_, F, ⟨Fr_MP s3 M2, Fr_Dat s3 D2, by rw [s3.2.1 14 (by omega)]; exact h14', s4, s5, s6, fun i i0 i1 => ⟨fun a => ?_, (s7 i i0 i1).2⟩, ?_, ?_⟩, Ltr_t x10 (Ltr_t t10 s10), m1, m2, y2, Ltr_t t10 s10, (e81_0 m m1).trans t2, (e82_0 m m2).trans s2, M1, M2, t5, t6⟩
    · rw [eqC, cd_f hz, e134_0 hd, t1, bV_some, e136_0 hd, s1, bV_some]
    · rw [eqM last l1 l2, e81_0, t2, bV_some, e82_0, s2, bV_some]
    · rw [(s7 i i0 i1).1 a, if_pos i1, if_neg (by omega), show m + 1 - 1 = m by omega]
    · unfold LnOK at x8 ⊢
      rw [l8, l19]; exact x8
    · unfold Ptr at T1 ⊢
      rw [l8, l19, l10]; exact T1
theorem minutes {d : Nat} {io : Int → Int} {n : Int} {Z : Int → Int} {pl ru th sh nv ms : Int} (hd : d = 1 ∨ d = 27) (S : Sta io n Z pl ru th sh nv ms) : ∀ (k : Nat) (m : Int) (hc hm : Hp), 0 ≤ m → m + k ≤ 240 → SV d io n Z pl ru th sh nv ms m hc hm → ∃ gc gm, (∀ v1, X (130, 11, [aR d, aI v1, aI m], [], hc) = X (130, 11, [aR d, aI v1, aI (m + k)], [], gc)) ∧ (∀ last, m + k - 1 ≤ last → last < 240 → X (83, 64, [aR 80, aI last, aI m, aN], [], hm) = X (83, 64, [aR 80, aI last, aI (m + k), aN], [], gm)) ∧ Fr d hc hm gc gm ∧ SV d io n Z pl ru th sh nv ms (m + k) gc gm ∧ Ltr Z m hm gm
  | 0, m, hc, hm, m0, mk, V => by
    rw [show m + ((0 : Nat) : Int) = m by omega]
    exact ⟨hc, hm, fun _ => rfl, fun _ _ _ => rfl, Fr_0 _ _ _, V, Ltr_0 _ _ _⟩
  | k + 1, m, hc, hm, m0, mk, V => by
    obtain ⟨c1, m1, a1, a2, a3, a4, a5, -⟩ := minute hd S ⟨m0, by omega⟩ V
    obtain ⟨c2, m2, b1, b2, b3, b4, b5⟩ := minutes hd S k (m + 1) c1 m1 (by omega) (by omega) a4
    rw [show m + 1 + (k : Int) = m + ((k + 1 : Nat) : Int) by omega] at b1 b2 b4
    exact ⟨c2, m2, fun v1 => (a1 v1).trans (b1 v1), fun last l1 l2 => (a2 last (by omega) l2).trans (b2 last l1 l2), Fr_t a3 b3, b4, Ltr_t a5 (Ltr_w (by omega) b5)⟩
