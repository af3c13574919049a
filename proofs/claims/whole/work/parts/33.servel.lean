/-! serving, cutter by cutter -/
noncomputable def TMt (m c : Int) (h : Hp) : Res := bI (X (78, 0, [aR 80, aI c, aI m, aN, aN, aN, aN], [], h)) (fun r1 h1 =>
  cond (decide ((wr r1) < 0))
  (X (82, 2, [aR 80, aI m, aI (c + 1), aI 1, aI r1], [], h1))
  (cond (inb 12 r1) (cond (inb 12 r1) (cond (inb 12 r1)
    (bI (X (74, 0, [aR 80, aI r1, aI c], [], (up (up (up h1 84 (wr r1) 3) 86 (wr r1) m) 87 (wr r1) c))) (fun r2 h2 =>
     cond (inb 12 r1) (cond (inb 12 r1) (cond (inb 3 c)
       (X (82, 2, [aR 80, aI m, aI (c + 1), aI 1, aI r1], [], (up (up h2 88 (wr r1) r2) 90 (wr c) ((m + ((up h2 88 (wr r1) r2) 88 (wr r1))) + ((up h2 88 (wr r1) r2) 81 3)))))
       none) none) none))
    none) none) none))
noncomputable def TCt (d : Nat) (m c : Int) (h : Hp) : Res := bI (X (138, 0, [aR d, aI c, aI m, aI (h (d + 12) 7), aN, aN], [], h)) (fun r1 h1 =>
  cond (decide ((wr r1) = (-1)))
  (cond (decide ((wr r1) = (-1)))
    (X (136, 13, [aR d, aI m, aR (d + 12), aI (c + 1), aI 1, aI r1], [], h1))
    (bV (X (137, 0, [aR d, aI r1, aI c, aI m], [], h1)) (fun h2 => X (136, 13, [aR d, aI m, aR (d + 12), aI (c + 1), aI 1, aI r1], [], h2))))
  (bI (X (139, 0, [aR d, aI r1, aI c, aI m, aI (h1 (d + 12) 7), aN], [], h1)) (fun r3 h3 =>
    cond (decide ((wr r3) = 0))
    (cond (decide ((wr r1) = (-1)))
      (X (136, 13, [aR d, aI m, aR (d + 12), aI (c + 1), aI 1, aI r1], [], h3))
      (bV (X (137, 0, [aR d, aI r1, aI c, aI m], [], h3)) (fun h4 => X (136, 13, [aR d, aI m, aR (d + 12), aI (c + 1), aI 1, aI r1], [], h4))))
    (bI (X (138, 0, [aR d, aI c, aI m, aI 0, aN, aN], [], (up h3 d 13 ((h3 d 13) + 1)))) (fun r5 h5 =>
      cond (decide ((wr r5) = (-1)))
      (X (136, 13, [aR d, aI m, aR (d + 12), aI (c + 1), aI 1, aI r5], [], h5))
      (bV (X (137, 0, [aR d, aI r5, aI c, aI m], [], h5)) (fun h6 => X (136, 13, [aR d, aI m, aR (d + 12), aI (c + 1), aI 1, aI r5], [], h6))))))))
theorem serve_pick {d : Nat} {io : Int → Int} {n : Int} {Z : Int → Int} {pl ru th sh nv ms : Int} (hd : d = 1 ∨ d = 27) (S : Sta io n Z pl ru th sh nv ms) {m c : Int} (m0 : 0 ≤ m ∧ m < 240) (c0 : 0 ≤ c ∧ c < 3) {hc hm : Hp} (M : MP hm Z pl ru th sh nv) (D : Dat d io n Z pl ru th hc) (R : Rel d io n Z hc hm) (O : Mo io n Z hm) (A : Arr Z hm (m + 1) 0) (P : PlB d io n Z pl hc hm m n) (hfree : hm 90 c ≤ m) :
    ∃ gc gm wa wb, TCt d m c hc = X (136, 13, [aR d, aI m, aR (d + 12), aI (c + 1), aI 1, aI wa], [], gc) ∧ TMt m c hm = X (82, 2, [aR 80, aI m, aI (c + 1), aI 1, aI wb], [], gm) ∧ Fr d hc hm gc gm ∧ Rel d io n Z gc gm ∧ Mo io n Z gm ∧ Arr Z gm (m + 1) 0 ∧ PlB d io n Z pl gc gm m n ∧ gc (d + 8) = hc (d + 8) ∧ gc d 10 = hc d 10 ∧ Ltr Z m hm gm := by
  have S' := S
  obtain ⟨hZ, hpl, hru, hth, hsh, hnv, hms, hmn, im1, im2⟩ := S'
  have hn := zd_n hZ
  have hnn := D.1
  obtain ⟨M1, M2, M3, M4, M5, M6⟩ := M
  have h7 : hc (d + 12) 7 = ru := D.2.2.2.2.1.2.2.2.2.2.2.2
  have hio : ∀ i, 0 ≤ i → i < n → 0 ≤ io i ∧ io i < Z 24 := fun i i0 i1 => (D.2.2.1 i i0 i1).1
  have hfa : ∀ i, 0 ≤ i → i < n → hc (d + 1) i = hm 84 (io i) ∧ 0 ≤ hm 84 (io i) ∧ hm 84 (io i) ≤ 4 := fun i i0 i1 => ⟨(R.1 i i0 i1).1, (O.1 (io i) (hio i i0 i1).1 (hio i i0 i1).2).1⟩
  have hh : ∀ i, 0 ≤ i → i < n → hc (d + 6) i = zSz Z (io i) := fun i i0 i1 => (R.1 i i0 i1).2.2.2.1
  have hp : ∀ i, 0 ≤ i → i < n → hm 84 (io i) = 4 → hc (d + 7) i = zPl Z pl (io i) m := fun i i0 i1 a => by
    rw [(P i i0 i1).1 a, if_pos i1]
  obtain ⟨x, x1, x2⟩ := s_leader (c := c) hd hZ D c0 m0 hfa hh hp hru
  -- by place, with one quarrel more
  have k1 : ∀ p, p ≠ d → up hc d 13 (hc d 13 + 1) p = hc p := fun p hp => up_n _ _ _ hp
  have D1 : Dat d io n Z pl ru th (up hc d 13 (hc d 13 + 1)) := Dat_c (fun p p1 p2 => k1 p (by omega)) D
  obtain ⟨y, y1, y2⟩ := s_leader (h := up hc d 13 (hc d 13 + 1)) (c := c) (r := 0) hd hZ D1 c0 m0 (fun i i0 i1 => by rw [k1 _ (by omega)]; exact hfa i i0 i1) (fun i i0 i1 => by rw [k1 _ (by omega)]; exact hh i i0 i1) (fun i i0 i1 a => by rw [k1 _ (by omega)]; exact hp i i0 i1 a) (by omega)
  simp only [zGB_0] at y2
  obtain ⟨rm, q, q1, q2⟩ := m_nextFor (h := hm) (c := c) (m := m) (by rw [M1]; exact hZ) (by rw [M2]; exact hpl) (by rw [M3]; exact hru) c0 m0 (fun p p0 p1 => by rw [M1] at p1; exact (O.1 p p0 p1).1)
  rw [M1, M2, M3] at q2
  have hB : ∃ b : Bool, (x ≠ -1 → X (139, 0, [aR d, aI x, aI c, aI m, aI ru, aN], [], hc) = some (some (bi b), hc)) ∧ (x ≠ -1 → (b = true ↔ ru = 1 ∧ ∃ o, 0 ≤ o ∧ o < n ∧ o ≠ x ∧ zWF Z pl (hm 84) (io o) c m = true ∧ zGB Z pl ru (io o) (io x) c m = true)) := by
    rcases x2 with ⟨a, _⟩ | ⟨a, b, _⟩
    · exact ⟨true, fun z => absurd a z, fun z => absurd a z⟩
    · obtain ⟨bb, b1, b2⟩ := s_beaten (c := c) hd hZ D c0 m0 hfa hh hp a b hru
      exact ⟨bb, fun _ => b1, fun _ => b2⟩
  obtain ⟨b, b1, b2⟩ := hB
  have ag := pick_agree (n := n) (N := Z 24) (io := io) (W := fun p => zWF Z pl (hm 84) p c m) (G := fun a e => zGB Z pl ru a e c m) (F := fun a e => zFst Z pl a e m) (ru := ru) (x := x) (y := y) (rm := rm) (q := q) (b := b) (fun p p0 p1 w => (O.1 p p0 p1).2.2.2.2 (by rw [zWF_4 w]; decide)) hio (fun i j i0 i1 j0 j1 hij e => hij ((io_lt D i0 i1 j0 j1).2.mp e)) (fun a e hab => zGB_anti hab) (fun a e hab => zFst_anti hab) x2 b2 y2 q2
  have mM : ∀ p, p ≠ 80 → up hm 80 18 (hm 80 18 + q) p = hm p := fun p hp => up_n _ _ _ hp
  -- the reference's tail
  have tM : ∀ p, rm = p → 0 ≤ p → p < Z 24 → TMt m c hm = X (82, 2, [aR 80, aI m, aI (c + 1), aI 1, aI p], [], bgM Z pl (up hm 80 18 (hm 80 18 + q)) p c m) := by
    intro p hp p0 p1
    have ip : inb 12 p = true := inb_t p0 (by omega) (by omega)
    have wp : wr p = p := wr_id (by omega) (by omega)
    have g81 : up (up (up (up hm 80 18 (hm 80 18 + q)) 84 p 3) 86 p m) 87 p c 81 = Z := by rw [up_n _ _ _ (by decide), up_n _ _ _ (by decide), up_n _ _ _ (by decide), mM _ (by decide), M1]
    have g8 : up (up (up (up hm 80 18 (hm 80 18 + q)) 84 p 3) 86 p m) 87 p c 80 8 = pl := by rw [up_n _ _ _ (by decide), up_n _ _ _ (by decide), up_n _ _ _ (by decide), up_o _ _ _ (by decide), M2]
    have ml := m_lengthOf (h := up (up (up (up hm 80 18 (hm 80 18 + q)) 84 p 3) 86 p m) 87 p c) (p := p) (c := c) (by rw [g81]; exact hZ) p0 (by rw [g81]; exact p1) (by rw [g8]; exact hpl) c0
    rw [g81, g8] at ml
    unfold TMt
    rw [q1, bI_some, hp, wp, cd_f (by omega), ip, cond_t, cond_t, cond_t, ml, bI_some, cond_t, cond_t, inb_t c0.1 (by omega) (by omega), cond_t, up_s, wr_id (x := c) (by omega) (by omega)]
    rw [show up (up (up (up (up hm 80 18 (hm 80 18 + q)) 84 p 3) 86 p m) 87 p c) 88 p (zLn Z pl p c) 81 3 = Z 3 by rw [up_n _ _ _ (by decide), g81]]
    rfl
  by_cases hx : x = -1
  · obtain ⟨a1, a2⟩ := ag.1 hx
    refine ⟨hc, hm, -1, -4, ?_, ?_, Fr_0 _ _ _, R, O, A, P, rfl, rfl, Ltr_0 _ _ _⟩
    · unfold TCt
      rw [h7, x1, bI_some, hx, wr_m1, cd_t rfl, cd_t rfl]
    · unfold TMt
      rw [q1, bI_some, a1, a2, up_id, cd_t (by decide)]
  · have b1 := b1 hx
    have xr : (0 ≤ x ∧ x < n) ∧ zWF Z pl (hm 84) (io x) c m = true := by
      rcases x2 with ⟨a, _⟩ | ⟨a, e, _⟩
      · exact absurd a hx
      · exact ⟨a, e⟩
    have wx : wr x = x := wr_id (by omega) (by omega)
    cases hb : b
    · obtain ⟨a0, a1, a2⟩ := ag.2.1 hx hb
      have bg := begin_rel (c := c) S m0 D R O A P a0.1 a0.2 c0 (zWF_4 xr.2) hfree
      refine ⟨bgC d Z pl io hc x c m, bgM Z pl hm (io x) c m, x, io x, ?_, ?_, bg⟩
      · unfold TCt
        rw [h7, x1, bI_some, wx, cd_f hx, h7, b1, bI_some, hb, d_bi0, Bool.not_false, cond_t, cd_f hx, s_begin hd hZ D R a0.1 a0.2 c0, bV_some]
      · rw [tM (io x) a1 (hio x a0.1 a0.2).1 (hio x a0.1 a0.2).2, a2, up_id]
    · obtain ⟨a0, a1, a2⟩ := ag.2.2 hx hb
      have yw : zWF Z pl (hm 84) (io y) c m = true := by
        rcases y2 with ⟨a, _⟩ | ⟨a, e, _⟩
        · omega
        · exact e
      subst a2
      have R1 := rel_q (q := 1) R
      have O1 : Mo io n Z (up hm 80 18 (hm 80 18 + 1)) := by
        unfold Mo at O ⊢
        rw [mM 84 (by decide), mM 86 (by decide), mM 87 (by decide), mM 88 (by decide), mM 89 (by decide), mM 90 (by decide)]
        exact O
      have A1 : Arr Z (up hm 80 18 (hm 80 18 + 1)) (m + 1) 0 := by
        unfold Arr at A ⊢
        rw [mM 84 (by decide)]; exact A
      have P1 : PlB d io n Z pl (up hc d 13 (hc d 13 + 1)) (up hm 80 18 (hm 80 18 + 1)) m n := by
        unfold PlB at P ⊢
        rw [mM 84 (by decide), k1 (d + 7) (by omega)]; exact P
      obtain ⟨g1, g2, g3, g4, g5, g6, g7, g8⟩ := begin_rel (c := c) S m0 D1 R1 O1 A1 P1 a0.1 a0.2 c0 (by rw [mM 84 (by decide)]; exact zWF_4 yw) (by rw [mM 90 (by decide)]; exact hfree)
      have F1 : Fr d hc hm (up hc d 13 (hc d 13 + 1)) (up hm 80 18 (hm 80 18 + 1)) := ⟨fun p hp => k1 p (by omega), fun j hj => up_o _ _ _ (by omega), fun p hp => mM p (by omega), fun j hj => up_o _ _ _ hj⟩
      have wy : wr y = y := wr_id (by omega) (by omega)
      refine ⟨bgC d Z pl io (up hc d 13 (hc d 13 + 1)) y c m, bgM Z pl (up hm 80 18 (hm 80 18 + 1)) (io y) c m, y, io y, ?_, tM (io y) a1 (hio y a0.1 a0.2).1 (hio y a0.1 a0.2).2, Fr_t F1 g1, g2, g3, g4, g5, by rw [g6, k1 _ (by omega)], by rw [g7, up_o _ _ _ (by decide)], Ltr_t ?_ g8⟩
      · unfold TCt
        rw [h7, x1, bI_some, wx, cd_f hx, h7, b1, bI_some, hb, d_bi0, Bool.not_true, cond_f, y1, bI_some, wy, cd_f (by omega), s_begin hd hZ D1 R1 a0.1 a0.2 c0, bV_some]
      · intro p p0 p1
        rw [mM 84 (by decide), mM 86 (by decide), mM 87 (by decide), mM 88 (by decide), mM 89 (by decide)]
        exact ⟨fun _ => ⟨rfl, rfl, rfl, rfl, rfl⟩, fun a => Or.inl a, fun a => Or.inl a⟩
theorem serve_loop {d : Nat} {io : Int → Int} {n : Int} {Z : Int → Int} {pl ru th sh nv ms : Int} (hd : d = 1 ∨ d = 27) (S : Sta io n Z pl ru th sh nv ms) {m : Int} (m0 : 0 ≤ m ∧ m < 240) : ∀ (k : Nat) (c : Int) (w4 w5 v3 v4 : AV) (hc hm : Hp), 0 ≤ c → c + k = 3 → hc d 14 = ms → MP hm Z pl ru th sh nv → Dat d io n Z pl ru th hc → Rel d io n Z hc hm → Mo io n Z hm → Arr Z hm (m + 1) 0 → PlB d io n Z pl hc hm m n →
    ∃ gc gm, X (136, 13, [aR d, aI m, aR (d + 12), aI c, w4, w5], [], hc) = some (none, gc) ∧ X (82, 2, [aR 80, aI m, aI c, v3, v4], [], hm) = some (none, gm) ∧ Fr d hc hm gc gm ∧ Rel d io n Z gc gm ∧ Mo io n Z gm ∧ Arr Z gm (m + 1) 0 ∧ PlB d io n Z pl gc gm m n ∧ gc (d + 8) = hc (d + 8) ∧ gc d 10 = hc d 10 ∧ Ltr Z m hm gm
  | 0, c, w4, w5, v3, v4, hc, hm, q0, hk, hms14, M, D, R, O, A, P => by
    refine ⟨hc, hm, ?_, ?_, Fr_0 _ _ _, R, O, A, P, rfl, rfl, Ltr_0 _ _ _⟩
    · rw [e136_13 hd, wr_id (x := c) (by omega) (by omega), cd_t (by omega)]
    · rw [e82_2, wr_id (x := c) (by omega) (by omega), cd_t (by omega)]
  | k + 1, c, w4, w5, v3, v4, hc, hm, q0, hk, hms14, M, D, R, O, A, P => by
    have S' := S
    obtain ⟨hZ, hpl, hru, hth, hsh, hnv, hms, hmn, im1, im2⟩ := S'
    have M' := M
    obtain ⟨M1, M2, M3, M4, M5, M6⟩ := M'
    have hcw := cnt_r hZ (hm 84)
    have fr := R.2.1 c q0 (by omega)
    have h5 : hc (d + 12) 5 = th := D.2.2.2.2.1.2.2.2.2.2.2.1
    have hmc := hmn c q0 (by omega)
    have mw := (m_waiting (h := hm) (by rw [M1]; exact hZ) m0 (fun p p0 p1 => by
        rw [M1] at p1 ⊢
        refine ⟨(O.1 p p0 p1).1, fun a => ?_⟩
        rcases A p p0 p1 (by omega) with b | b <;> omega)).1
    rw [M1] at mw
    have tm : X (82, 2, [aR 80, aI m, aI c, v3, v4], [], hm) = if c = nv ∨ m < hm 90 c ∨ (2 ≤ c ∧ cnt Z (hm 84) < th) then X (82, 2, [aR 80, aI m, aI (c + 1), aI 0, aI (-4)], [], hm) else TMt m c hm := by
      rw [e82_2, wr_id (x := c) (by omega) (by omega), cd_f (by omega), M6, wr_id (x := nv) (by omega) (by omega)]
      by_cases a1 : c = nv
      · rw [cd_t a1, if_pos (Or.inl a1)]
      · rw [cd_f a1, inb_t q0 (by omega) (by omega), cond_t, wr_id (x := m) (by omega) (by omega), wr_id (x := hm 90 c) (by omega) (by omega)]
        by_cases a2 : m < hm 90 c
        · rw [cd_t a2, if_pos (Or.inr (Or.inl a2))]
        · rw [cd_f a2]
          by_cases a3 : c < 2
          · rw [cd_t a3, if_neg (by omega)]
            unfold TMt
            rw [wr_id (x := c) (by omega) (by omega), inb_t (n := 3) (i := c) q0 (by omega) (by omega)]
          · rw [cd_f a3, mw, bI_some, M4, wr_id (x := cnt Z (hm 84)) (by omega) (by omega), wr_id (x := th) (by omega) (by omega)]
            by_cases a4 : cnt Z (hm 84) < th
            · rw [cd_t a4, if_pos (Or.inr (Or.inr ⟨by omega, a4⟩))]
            · rw [cd_f a4, if_neg (by omega)]
              unfold TMt
              rw [wr_id (x := c) (by omega) (by omega), inb_t (n := 3) (i := c) q0 (by omega) (by omega)]
    have tc : ∃ u4 u5, X (136, 13, [aR d, aI m, aR (d + 12), aI c, w4, w5], [], hc) = if c = nv ∨ m < hm 90 c ∨ (2 ≤ c ∧ cnt Z (hm 84) < th) then X (136, 13, [aR d, aI m, aR (d + 12), aI (c + 1), u4, u5], [], hc) else TCt d m c hc := by
      rw [e136_13 hd, wr_id (x := c) (by omega) (by omega), cd_f (by omega), inb_t q0 (by omega) (by omega), cond_t, fr.1, wr_id (x := m) (by omega) (by omega), wr_id (x := hm 90 c) (by omega) (by omega), hms14, wr_id (x := ms) (by omega) (by omega)]
      by_cases a2 : m < hm 90 c
      · exact ⟨aI 0, w5, by rw [cd_t a2, if_pos (Or.inr (Or.inl a2))]⟩
      · rw [cd_f a2]
        by_cases a1 : c = ms
        · exact ⟨aI 0, w5, by rw [cd_t a1, if_pos (Or.inl (hmc.mp a1))]⟩
        · have a1' : ¬ c = nv := fun z => a1 (hmc.mpr z)
          rw [cd_f a1]
          by_cases a3 : c < 2
          · refine ⟨aI 0, w5, ?_⟩
            rw [cd_t a3, if_neg (by omega)]
            rfl
          · rw [cd_f a3, R.2.2.2.1, h5, wr_id (x := cnt Z (hm 84)) (by omega) (by omega), wr_id (x := th) (by omega) (by omega)]
            by_cases a4 : cnt Z (hm 84) < th
            · exact ⟨aI 1, w5, by rw [cd_t a4, if_pos (Or.inr (Or.inr ⟨by omega, a4⟩))]⟩
            · refine ⟨aI 0, w5, ?_⟩
              rw [cd_f a4, if_neg (by omega)]
              rfl
    obtain ⟨u4, u5, tc⟩ := tc
    rw [tm, tc]
    by_cases a : c = nv ∨ m < hm 90 c ∨ (2 ≤ c ∧ cnt Z (hm 84) < th)
    · rw [if_pos a, if_pos a]
      exact serve_loop hd S m0 k (c + 1) u4 u5 (aI 0) (aI (-4)) hc hm (by omega) (by omega) hms14 M D R O A P
    · rw [if_neg a, if_neg a]
      obtain ⟨gc, gm, wa, wb, x1, x2, x3, x4, x5, x6, x7, x8, x9, x10⟩ := serve_pick (c := c) hd S m0 ⟨q0, by omega⟩ M D R O A P (by omega)
      rw [x1, x2]
      obtain ⟨gc2, gm2, y1, y2, y3, y4, y5, y6, y7, y8, y9, y10⟩ := serve_loop hd S m0 k (c + 1) (aI 1) (aI wa) (aI 1) (aI wb) gc gm (by omega) (by omega) (by rw [x3.2.1 14 (by omega)]; exact hms14) (Fr_MP x3 M) (Fr_Dat x3 D) x4 x5 x6 x7
      exact ⟨gc2, gm2, y1, y2, Fr_t x3 y3, y4, y5, y6, y7, y8.trans x8, y9.trans x9, Ltr_t x10 y10⟩
