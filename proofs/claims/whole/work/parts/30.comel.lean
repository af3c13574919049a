/-! the coming, minute by minute -/
theorem Ltr_w {Z : Int → Int} {m k : Int} {h g : Hp} (hk : m ≤ k) (H : Ltr Z k h g) : Ltr Z m h g := fun p p0 p1 => by
  obtain ⟨a, b, c⟩ := H p p0 p1
  refine ⟨a, fun q => ?_, fun q => ?_⟩
  · rcases b q with b | b | b
    · exact Or.inl b
    · exact Or.inr (Or.inl ⟨b.1, by omega⟩)
    · exact Or.inr (Or.inr ⟨b.1, by omega⟩)
  · rcases c q with c | c
    · exact Or.inl c
    · exact Or.inr (by omega)
theorem Ltr_t {Z : Int → Int} {m : Int} {h g f : Hp} (H1 : Ltr Z m h g) (H2 : Ltr Z m g f) : Ltr Z m h f := fun p p0 p1 => by
  obtain ⟨a, b, c⟩ := H1 p p0 p1
  obtain ⟨a2, b2, c2⟩ := H2 p p0 p1
  refine ⟨fun q => ?_, fun q => ?_, fun q => ?_⟩
  · obtain ⟨x1, x2, x3, x4, x5⟩ := a q
    obtain ⟨y1, y2, y3, y4, y5⟩ := a2 (by rw [x1]; exact q)
    exact ⟨y1.trans x1, y2.trans x2, y3.trans x3, y4.trans x4, y5.trans x5⟩
  · rcases b q with b | b | b
    · exact b2 b
    · obtain ⟨y1, y2, y3, y4, y5⟩ := a2 (by rw [b.1]; decide)
      exact Or.inr (Or.inl ⟨y1.trans b.1, by rw [y5]; exact b.2⟩)
    · obtain ⟨y1, y2, y3, y4, y5⟩ := a2 (by rw [b.1]; decide)
      exact Or.inr (Or.inr ⟨y1.trans b.1, by rw [y2]; exact b.2⟩)
  · rcases c q with c | c
    · exact c2 c
    · exact Or.inr c
theorem come_loop {d : Nat} {io : Int → Int} {n : Int} {Z : Int → Int} {pl ru th sh nv ms : Int} (hd : d = 1 ∨ d = 27) (S : Sta io n Z pl ru th sh nv ms) {m : Int} (m0 : 0 ≤ m ∧ m < 240) : ∀ (k : Nat) (q : Int) (w3 w4 w5 w : AV) (hc hm : Hp), 0 ≤ q → q + k = Z 24 → MP hm Z pl ru th sh nv → Dat d io n Z pl ru th hc → Rel d io n Z hc hm → Mo io n Z hm → Arr Z hm m q → PlB d io n Z pl hc hm m 0 → LnOK d n hc → Ptr d io n hc m q →
    ∃ gc gm, X (133, 11, [aR d, aI m, aR (d + 12), w3, w4, w5], [], hc) = some (none, gc) ∧ X (80, 2, [aR 80, aI m, aI q, w], [], hm) = some (none, gm) ∧ Fr d hc hm gc gm ∧ Rel d io n Z gc gm ∧ Mo io n Z gm ∧ Arr Z gm m (Z 24) ∧ PlB d io n Z pl gc gm m 0 ∧ LnOK d n gc ∧ Ptr d io n gc m (Z 24) ∧ Ltr Z m hm gm
  | 0, q, w3, w4, w5, w, hc, hm, q0, hk, M, D, R, O, A, P, L, T => by
    obtain ⟨hZ, _⟩ := S
    have hn := zd_n hZ
    have hnn := D.1
    have h4 := D.2.1
    have hq : q = Z 24 := by omega
    subst hq
    refine ⟨hc, hm, ?_, ?_, Fr_0 _ _ _, R, O, A, P, L, T, Ltr_0 _ _ _⟩
    · obtain ⟨⟨t1, t2⟩, t3⟩ := T
      rw [e133_11 hd, h4, wr_id (x := n) (by omega) (by omega), wr_id (x := hc d 10) (by omega) (by omega)]
      by_cases c : n ≤ hc d 10
      · rw [cd_t c]
      · rw [cd_f c]
        have l1 := L.1 (hc d 10) t1 (by omega)
        have y0 := D.2.2.1 (hc (d + 8) (hc d 10)) l1.1 l1.2
        have hr := (zd_row hZ y0.1.1 y0.1.2).1
        rw [inb_t t1 (by omega) (by omega), cond_t, wr_id (x := hc (d + 8) (hc d 10)) (by omega) (by omega), inb_t l1.1 (by omega) (by omega), cond_t, wr_id (x := m) (by omega) (by omega), wr_id (x := hc (d + 19) (hc (d + 8) (hc d 10))) (by omega) (by omega)]
        have t4 := (t3 (hc d 10) t1 (by omega)).mpr
        rw [cd_t]
        intro e
        have := t4 (Or.inr ⟨e, y0.1.2⟩)
        omega
    · rw [e80_2, M.1, wr_id (by omega) (by omega), cd_t (by omega)]
  | k + 1, q, w3, w4, w5, w, hc, hm, q0, hk, M, D, R, O, A, P, L, T => by
    have S' := S
    obtain ⟨hZ, hpl, hru, hth, hsh, hnv, hms, hmn, im1, im2⟩ := S'
    have hn := zd_n hZ
    have hnn := D.1
    have h4 := D.2.1
    have hrq := (zd_row hZ (p := q) q0 (by omega)).1
    obtain ⟨M1, M2, M3, M4, M5, M6⟩ := M
    have M' : MP hm Z pl ru th sh nv := ⟨M1, M2, M3, M4, M5, M6⟩
    have mof : X (50, 0, [aR 80, aI q, aI 0], [], hm) = some (some (zmn Z q), hm) := by
      rw [m_of q0 (by omega) (by decide) (by decide), Int.add_zero, M1]; rfl
    have A' : ∀ x, Arr Z x m q → Arr Z x m (q + 1) := fun x a p p0 p1 hp => by
      rcases a p p0 p1 hp with b | b
      · exact Or.inl b
      · exact Or.inr ⟨b.1, by omega⟩
    by_cases hin : zmn Z q = m ∧ m < sh
    · obtain ⟨i, i0, i1, i2⟩ := im1 q q0 (by omega) (by omega)
      obtain ⟨kk, k0, k1, k2⟩ := L.2.2 i i0 i1
      obtain ⟨⟨t1, t2⟩, t3⟩ := T
      have hmi : ∀ j, 0 ≤ j → j < n → hc (d + 19) j = zmn Z (io j) := fun j j0 j1 => (D.2.2.1 j j0 j1).2.1
      have hkk : kk = hc d 10 := by
        have q1 : ¬ kk < hc d 10 := fun c => by
          have := (t3 kk k0 k1).mp c
          rw [k2, hmi i i0 i1, i2] at this
          omega
        by_cases c : hc d 10 < kk
        · have q2 := L.2.1 (hc d 10) kk t1 c k1
          have l1 := L.1 (hc d 10) t1 (by omega)
          have q3 : ¬ hc d 10 < hc d 10 := by omega
          have q4 := (not_congr (t3 (hc d 10) t1 (by omega))).mp q3
          rw [k2, hmi i i0 i1, i2] at q2
          have q5 := (io_lt D l1.1 l1.2 i0 i1).1
          rw [i2] at q5
          omega
        · omega
      subst hkk
      have z : hm 84 (io i) = 0 := by
        rw [i2]
        apply Classical.byContradiction
        intro c
        rcases A q q0 (by omega) c with b | b <;> omega
      have y0 := D.2.2.1 i i0 i1
      have hcw := cnt_r hZ (hm 84)
      have hsz := zSz_r hZ (p := q) q0 (by omega)
      obtain ⟨r1, r2, r3, r4, r5⟩ := R
      have R' : Rel d io n Z hc hm := ⟨r1, r2, r3, r4, r5⟩
      have hst := D.2.2.2.2.1
      have hs := zd_s hZ
      have hhd : hc (d + 6) i = zSz Z q := by rw [(r1 i i0 i1).2.2.2.1, i2]
      have mw := m_waiting (h := hm) (by rw [M1]; exact hZ) m0 (fun p p0 p1 => by
        rw [M1] at p1 ⊢
        refine ⟨(O.1 p p0 p1).1, fun c => ?_⟩
        rcases A p p0 p1 (by omega) with b | b <;> omega)
      rw [M1] at mw
      -- the step in both
      have fin : ∀ (f : Int) (gc : Hp) (v3 v4 v5 v : AV), (f = 1 ∨ f = 4) → (∀ j, gc (d + 1) j = if j = i then f else hc (d + 1) j) → (∀ p, p ≠ d → p ≠ d + 1 → gc p = hc p) → (∀ j, j < 10 ∨ 12 < j → gc d j = hc d j) → gc d 10 = hc d 10 + 1 → gc d 11 = hc d 11 + (if f = 4 then 1 else 0) → gc d 12 = hc d 12 + (if f = 4 then zSz Z (io i) else 0) →
          ∃ gc2 gm, X (133, 11, [aR d, aI m, aR (d + 12), v3, v4, v5], [], gc) = some (none, gc2) ∧ X (80, 2, [aR 80, aI m, aI (q + 1), v], [], up hm 84 q f) = some (none, gm) ∧ Fr d hc hm gc2 gm ∧ Rel d io n Z gc2 gm ∧ Mo io n Z gm ∧ Arr Z gm m (Z 24) ∧ PlB d io n Z pl gc2 gm m 0 ∧ LnOK d n gc2 ∧ Ptr d io n gc2 m (Z 24) ∧ Ltr Z m hm gm := by
        intro f gc v3 v4 v5 v hf g1 go gd g10 g11 g12
        have F1 : Fr d hc hm gc (up hm 84 (io i) f) := ⟨fun p hp => go p (by omega) (by omega), fun j hj => gd j (by omega), fun p hp => up_n _ _ _ (by omega), fun j hj => by rw [up_n _ _ _ (by decide)]⟩
        have u : ∀ j, up hm 84 (io i) f 84 j = if j = io i then f else hm 84 j := fun j => by unfold up; simp
        have R2 := rel_arr D R' i0 i1 z hf g1 go (gd 13 (by omega)) g11 g12
        have O2 := mo_arr (i := i) O i0 i1 z hf y0.1
        obtain ⟨gc2, gm, x1, x2, x3, x4, x5, x6, x7, x8, x9, x10⟩ := come_loop hd S m0 k (q + 1) v3 v4 v5 v gc (up hm 84 (io i) f) (by omega) (by omega) (Fr_MP F1 M') (Fr_Dat F1 D) R2 O2 (fun p p0 p1 hp => by
            rw [u] at hp
            by_cases c : p = io i
            · rw [c, i2]; exact Or.inr ⟨hin.1, by omega⟩
            · rw [if_neg c] at hp
              exact A' hm A p p0 p1 hp) (fun j j0 j1 => by
            rw [u, go (d + 7) (by omega) (by omega)]
            by_cases c : j = i
            · subst c
              rw [if_pos rfl]
              refine ⟨fun _ => ?_, fun c => by omega⟩
              rw [(P j j0 j1).2 z, if_neg (by omega), i2, hin.1, ← hin.1, zPl_b (t := zmn Z q - 1) (by omega) hZ q0 (by omega)]
            · rw [if_neg (fun c2 => c ((io_lt D j0 j1 i0 i1).2.mp c2))]
              exact P j j0 j1) (by
            unfold LnOK
            rw [go (d + 8) (by omega) (by omega), go (d + 19) (by omega) (by omega)]
            exact L) (by
            unfold Ptr
            rw [g10, go (d + 8) (by omega) (by omega), go (d + 19) (by omega) (by omega)]
            refine ⟨by omega, fun l l0 l1 => ?_⟩
            have ll := L.1 l l0 l1
            have ml := hmi (hc (d + 8) l) ll.1 ll.2
            have mi := hmi i i0 i1
            rw [i2] at mi
            have t4 := t3 l l0 l1
            by_cases c1 : l < hc d 10
            · have := t4.mp c1
              exact ⟨fun _ => by omega, fun _ => by omega⟩
            · have t5 := (not_congr t4).mp c1
              by_cases c2 : l = hc d 10
              · subst c2
                rw [k2, i2, mi]
                exact ⟨fun _ => Or.inr ⟨hin.1, by omega⟩, fun _ => by omega⟩
              · have q2 := L.2.1 (hc d 10) l t1 (by omega) l1
                rw [k2, mi] at q2
                have q5 := (io_lt D i0 i1 ll.1 ll.2).1
                rw [i2] at q5
                exact ⟨fun _ => by omega, fun _ => by omega⟩)
        rw [i2] at x2 x3 x10
        refine ⟨gc2, gm, x1, x2, Fr_t (by rw [i2] at F1; exact F1) x3, x4, x5, x6, x7, x8, x9, Ltr_t (fun p p0 p1 => ?_) x10⟩
        have u2 : ∀ j, up hm 84 q f 84 j = if j = q then f else hm 84 j := fun j => by unfold up; simp
        rw [up_n (q := 86) _ _ _ (by decide), up_n (q := 87) _ _ _ (by decide), up_n (q := 88) _ _ _ (by decide), up_n (q := 89) _ _ _ (by decide), u2]
        rw [i2] at z
        by_cases c : p = q
        · rw [if_pos c, c, z]
          exact ⟨fun a => by omega, fun a => by omega, fun a => Or.inr (by omega)⟩
        · rw [if_neg c]
          exact ⟨fun a => ⟨rfl, rfl, rfl, rfl, rfl⟩, fun a => Or.inl a, fun a => Or.inl a⟩
      have ie : inb 12 (hc d 10) = true := inb_t t1 (by omega) (by omega)
      have ii : inb 12 i = true := inb_t i0 (by omega) (by omega)
      have wc : wr (hc d 10) = hc d 10 := wr_id (by omega) (by omega)
      have wi : wr i = i := wr_id (by omega) (by omega)
      have c12 : up hc d 10 (hc d 10 + 1) d 12 = cnS Z (hm 84) := by rw [up_o _ _ _ (by decide), r5]
      have c11 : up hc d 10 (hc d 10 + 1) d 11 = cnt Z (hm 84) := by rw [up_o _ _ _ (by decide), r4]
      have cs : ∀ p, p ≠ d → up hc d 10 (hc d 10 + 1) p = hc p := fun p hp => up_n _ _ _ hp
      have tm : X (80, 2, [aR 80, aI m, aI q, w], [], hm) = cond (decide (Z 0 < cnS Z (hm 84) + zSz Z q)) (X (80, 2, [aR 80, aI m, aI (q + 1), aI 1], [], up hm 84 q 1)) (cond (decide (wr (jdiv (Z 1 * cnt Z (hm 84)) 2) ≤ Z 2)) (X (80, 2, [aR 80, aI m, aI (q + 1), aI 0], [], up hm 84 q 4)) (X (80, 2, [aR 80, aI m, aI (q + 1), aI 1], [], up hm 84 q 1))) := by
        have mz := m_sizeOf (h := hm) (by rw [M1]; exact hZ) q0 (by rw [M1]; omega)
        rw [M1] at mz
        rw [e80_2, M1, wr_id (x := Z 24) (by omega) (by omega), wr_id (x := q) (by omega) (by omega), cd_f (by omega), mof, bI_some, wr_id (x := zmn Z q) (by omega) (by omega), wr_id (x := m) (by omega) (by omega), cd_f (by omega), M5, wr_id (x := sh) (by omega) (by omega), cd_f (by omega), mw.2, bI_some, mz, bI_some, M1, wr_id (x := Z 0) (by omega) (by omega), wr_id (x := cnS Z (hm 84) + zSz Z q) (by omega) (by omega), mw.1, bI_some, M1, wr_id (x := Z 2) (by omega) (by omega), inb_t q0 (by omega) (by omega), cond_t, cond_t]
      have key : ∀ (a b : Int), X (133, 11, [aR d, aI m, aR (d + 12), w3, w4, w5], [], hc) = cond (decide (cnS Z (hm 84) + zSz Z q ≤ Z 0)) (cond (decide (wr (jdiv (Z 1 * cnt Z (hm 84)) 2) ≤ Z 2)) (X (133, 11, [aR d, aI m, aR (d + 12), aI i, aI 0, aI 0], [], up (up (up (up hc d 10 (hc d 10 + 1)) (d + 1) i 4) d 11 (cnt Z (hm 84) + 1)) d 12 (cnS Z (hm 84) + zSz Z q))) (X (133, 11, [aR d, aI m, aR (d + 12), aI i, aI 0, aI 1], [], up (up hc d 10 (hc d 10 + 1)) (d + 1) i 1))) (cond (decide (wr (jdiv (Z 1 * cnt Z (hm 84)) 2) ≤ Z 2)) (X (133, 11, [aR d, aI m, aR (d + 12), aI i, aI 1, aI 0], [], up (up hc d 10 (hc d 10 + 1)) (d + 1) i 1)) (X (133, 11, [aR d, aI m, aR (d + 12), aI i, aI 1, aI 1], [], up (up hc d 10 (hc d 10 + 1)) (d + 1) i 1))) := by
        intro a b
        have x11 : up (up hc d 10 (hc d 10 + 1)) (d + 1) i 4 d 11 = cnt Z (hm 84) := by rw [up_n _ _ _ (by omega), c11]
        have x12 : up (up (up hc d 10 (hc d 10 + 1)) (d + 1) i 4) d 11 (cnt Z (hm 84) + 1) d 12 = cnS Z (hm 84) := by rw [up_o _ _ _ (by decide), up_n _ _ _ (by omega), c12]
        have x6 : up (up (up hc d 10 (hc d 10 + 1)) (d + 1) i 4) d 11 (cnt Z (hm 84) + 1) (d + 6) i = zSz Z q := by rw [up_n _ _ _ (by omega), up_n _ _ _ (by omega), cs _ (by omega), hhd]
        rw [e133_11 hd, h4, wr_id (x := n) (by omega) (by omega), wc, cd_f (by omega), ie, k2, ii, wi]
        simp only [cond_t]
        rw [c12, c11, cs (d + 12) (by omega), cs (d + 6) (by omega), hhd, hst.1, hst.2.1, hst.2.2.1, x11, x12, x6, wr_id (x := m) (by omega) (by omega), wr_id (x := hc (d + 19) i) (by rw [hmi i i0 i1, i2]; omega) (by rw [hmi i i0 i1, i2]; omega), cd_f (by rw [hmi i i0 i1, i2]; omega), wr_id (x := cnS Z (hm 84) + zSz Z q) (by omega) (by omega), wr_id (x := Z 0) (by omega) (by omega), wr_id (x := Z 2) (by omega) (by omega)]
      rw [tm, key 0 0]
      have turn : ∀ v3 v4 v5 v, ∃ gc2 gm, X (133, 11, [aR d, aI m, aR (d + 12), v3, v4, v5], [], up (up hc d 10 (hc d 10 + 1)) (d + 1) i 1) = some (none, gc2) ∧ X (80, 2, [aR 80, aI m, aI (q + 1), v], [], up hm 84 q 1) = some (none, gm) ∧ Fr d hc hm gc2 gm ∧ Rel d io n Z gc2 gm ∧ Mo io n Z gm ∧ Arr Z gm m (Z 24) ∧ PlB d io n Z pl gc2 gm m 0 ∧ LnOK d n gc2 ∧ Ptr d io n gc2 m (Z 24) ∧ Ltr Z m hm gm := fun v3 v4 v5 v => by
        refine fin 1 _ v3 v4 v5 v (Or.inl rfl) (fun j => ?_) (fun p p1 p2 => by rw [up_n _ _ _ p2, up_n _ _ _ p1]) (fun j hj => by rw [up_n _ _ _ (by omega), up_o _ _ _ (by omega)]) (by rw [up_n _ _ _ (by omega), up_s]) ?_ ?_
        · unfold up; simp
        · rw [up_n _ _ _ (by omega), up_o _ _ _ (by decide), if_neg (by decide), Int.add_zero]
        · rw [up_n _ _ _ (by omega), up_o _ _ _ (by decide), if_neg (by decide), Int.add_zero]
      by_cases b1 : cnS Z (hm 84) + zSz Z q ≤ Z 0
      · rw [cd_t b1, cd_f (show ¬ Z 0 < cnS Z (hm 84) + zSz Z q by omega)]
        by_cases b2 : wr (jdiv (Z 1 * cnt Z (hm 84)) 2) ≤ Z 2
        · rw [cd_t b2, cd_t b2]
          refine fin 4 _ _ _ _ _ (Or.inr rfl) (fun j => ?_) (fun p p1 p2 => by rw [up_n _ _ _ p1, up_n _ _ _ p1, up_n _ _ _ p2, up_n _ _ _ p1]) (fun j hj => by rw [up_o _ _ _ (by omega), up_o _ _ _ (by omega), up_n _ _ _ (by omega), up_o _ _ _ (by omega)]) (by rw [up_o _ _ _ (by decide), up_o _ _ _ (by decide), up_n _ _ _ (by omega), up_s]) ?_ ?_
          · rw [up_n _ _ _ (by omega), up_n _ _ _ (by omega)]
            unfold up; simp
          · rw [up_o _ _ _ (by decide), up_s, if_pos rfl, r4]
          · rw [up_s, if_pos rfl, r5, i2]
        · rw [cd_f b2, cd_f b2]
          exact turn _ _ _ _
      · rw [cd_f b1, cd_t (show Z 0 < cnS Z (hm 84) + zSz Z q by omega)]
        by_cases b2 : wr (jdiv (Z 1 * cnt Z (hm 84)) 2) ≤ Z 2
        · rw [cd_t b2]
          exact turn _ _ _ _
        · rw [cd_f b2]
          exact turn _ _ _ _
    · have T2 : Ptr d io n hc m (q + 1) := by
        refine ⟨T.1, fun l l0 l1 => (T.2 l l0 l1).trans ?_⟩
        have ll := L.1 l l0 l1
        have ml := (D.2.2.1 _ ll.1 ll.2).2.1
        have ml2 := im2 _ ll.1 ll.2
        constructor
        · rintro (a | a)
          · exact Or.inl a
          · exact Or.inr ⟨a.1, by omega⟩
        · rintro (a | a)
          · exact Or.inl a
          · refine Or.inr ⟨a.1, ?_⟩
            by_cases c : io (hc (d + 8) l) = q
            · rw [c] at ml ml2; omega
            · omega
      have tm : X (80, 2, [aR 80, aI m, aI q, w], [], hm) = X (80, 2, [aR 80, aI m, aI (q + 1), w], [], hm) := by
        rw [e80_2, M1, wr_id (x := Z 24) (by omega) (by omega), wr_id (x := q) (by omega) (by omega), cd_f (by omega), mof, bI_some, wr_id (x := zmn Z q) (by omega) (by omega), wr_id (x := m) (by omega) (by omega)]
        by_cases c : zmn Z q = m
        · rw [cd_f (by omega), M5, wr_id (x := sh) (by omega) (by omega), cd_t (by omega)]
        · rw [cd_t c]
      rw [tm]
      exact come_loop hd S m0 k (q + 1) w3 w4 w5 w hc hm (by omega) (by omega) M' D R O (A' hm A) P L T2
