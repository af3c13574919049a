/-! leaving the bench; the tired -/
theorem rel_leave {d : Nat} {io : Int → Int} {n : Int} {Z : Int → Int} {pl ru th : Int} {hc hm gc gm : Hp} {i f m : Int} (hD : Dat d io n Z pl ru th hc) (R : Rel d io n Z hc hm) (i0 : 0 ≤ i) (i1 : i < n) (z : hm 84 (io i) = 4) (hf : f = 2 ∨ f = 3)
    (u : ∀ j, gm 84 j = if j = io i then f else hm 84 j) (o : ∀ j, j ≠ io i → gm 86 j = hm 86 j ∧ gm 87 j = hm 87 j ∧ gm 88 j = hm 88 j ∧ gm 89 j = hm 89 j) (o2 : f = 2 → gm 89 (io i) = m) (o3 : f = 3 → gm 86 (io i) = m) (o18 : gm 80 18 = hm 80 18)
    (g1 : ∀ j, gc (d + 1) j = if j = i then f else hc (d + 1) j) (g2 : ∀ j, gc (d + 2) j = if j = i then m - zmn Z (io i) else hc (d + 2) j) (g3 : ∀ j, j ≠ i → gc (d + 3) j = hc (d + 3) j ∧ gc (d + 4) j = hc (d + 4) j ∧ gc (d + 5) j = hc (d + 5) j) (g4 : gc (d + 3) i = gm 86 (io i) ∧ gc (d + 4) i = gm 87 (io i)) (g5 : f = 3 → gc (d + 5) i = gm 88 (io i)) (g6 : gc (d + 6) = hc (d + 6)) (g9 : ∀ c, 0 ≤ c → c < 3 → gc (d + 9) c = gm 90 c ∧ 0 ≤ gm 90 c ∧ gm 90 c ≤ 600) (g13 : gc d 13 = hc d 13) (g11 : gc d 11 = hc d 11 - 1) (g12 : gc d 12 = hc d 12 - zSz Z (io i)) : Rel d io n Z gc gm := by
  obtain ⟨r1, r2, r3, r4, r5⟩ := R
  have hb := (hD.2.2.1 i i0 i1).1
  refine ⟨fun j j0 j1 => ?_, g9, by rw [g13, o18]; exact r3, ?_, ?_⟩
  · obtain ⟨y1, y2, y3, y4, y5, y6⟩ := r1 j j0 j1
    rw [g1, g2, g6, u]
    unfold wt
    rw [u]
    by_cases c : j = i
    · subst c
      rw [if_pos rfl, if_pos rfl, if_pos rfl]
      refine ⟨rfl, g4.1, g4.2, y4, ?_, fun q => g5 q⟩
      rcases hf with hf | hf
      · rw [if_neg (by omega), if_pos hf, o2 hf]
      · rw [if_pos hf, o3 hf]
    · have cc : ¬ io j = io i := fun q => c ((io_lt hD j0 j1 i0 i1).2.mp q)
      obtain ⟨x1, x2, x3, x4⟩ := o (io j) cc
      obtain ⟨x5, x6, x7⟩ := g3 j c
      rw [if_neg c, if_neg c, if_neg cc, x1, x2, x3, x4, x5, x6, x7]
      exact ⟨y1, y2, y3, y4, y5, y6⟩
  · rw [g11, r4]
    unfold cnt
    rw [sm_u (f := fun p => if hm 84 p = 4 then 1 else 0) (g := fun p => if gm 84 p = 4 then 1 else 0) (q := io i) _ hb.1 (by omega) (fun p p0 p1 p2 => by show (if gm 84 p = 4 then (1 : Int) else 0) = _; rw [u, if_neg p2])]
    show _ = _ + ((if gm 84 (io i) = 4 then (1 : Int) else 0) - (if hm 84 (io i) = 4 then (1 : Int) else 0))
    rw [u, if_pos rfl, z, if_pos rfl, if_neg (by omega)]; omega
  · rw [g12, r5]
    unfold cnS
    rw [sm_u (f := fun p => if hm 84 p = 4 then zSz Z p else 0) (g := fun p => if gm 84 p = 4 then zSz Z p else 0) (q := io i) _ hb.1 (by omega) (fun p p0 p1 p2 => by show (if gm 84 p = 4 then zSz Z p else 0) = _; rw [u, if_neg p2])]
    show _ = _ + ((if gm 84 (io i) = 4 then zSz Z (io i) else 0) - (if hm 84 (io i) = 4 then zSz Z (io i) else 0))
    rw [u, if_pos rfl, z, if_pos rfl, if_neg (by omega)]; omega
/-- leaveBench -/
def lvB (d : Nat) (Z : Int → Int) (io : Int → Int) (hc : Hp) (i f m : Int) : Hp := up (up (up (up hc (d + 1) i f) (d + 2) i (m - zmn Z (io i))) d 11 (hc d 11 - 1)) d 12 (hc d 12 - zSz Z (io i))
theorem s_leaveBench {d : Nat} {io : Int → Int} {n : Int} {Z : Int → Int} {pl ru th : Int} {hc hm : Hp} {i f m : Int} (hd : d = 1 ∨ d = 27) (hD : Dat d io n Z pl ru th hc) (R : Rel d io n Z hc hm) (i0 : 0 ≤ i) (i1 : i < n) : X (135, 0, [aR d, aI i, aI f, aI m], [], hc) = some (none, lvB d Z io hc i f m) := by
  have hn := hD.1
  have y1 := (hD.2.2.1 i i0 i1).2.1
  have y2 := (R.1 i i0 i1).2.2.2.1
  have ii : inb 12 i = true := inb_t i0 (by omega) (by omega)
  have wi : wr i = i := wr_id (by omega) (by omega)
  have a1 : up hc (d + 1) i f (d + 19) i = zmn Z (io i) := by rw [up_n _ _ _ (by omega), y1]
  have a2 : ∀ x, up (up hc (d + 1) i f) (d + 2) i x d 11 = hc d 11 := fun x => by rw [up_n _ _ _ (by omega), up_n _ _ _ (by omega)]
  have a3 : ∀ x y, up (up (up hc (d + 1) i f) (d + 2) i x) d 11 y d 12 = hc d 12 := fun x y => by rw [up_o _ _ _ (by decide), up_n _ _ _ (by omega), up_n _ _ _ (by omega)]
  have a4 : ∀ x y, up (up (up hc (d + 1) i f) (d + 2) i x) d 11 y (d + 6) i = zSz Z (io i) := fun x y => by rw [up_n _ _ _ (by omega), up_n _ _ _ (by omega), up_n _ _ _ (by omega), y2]
  rw [e135_0 hd, ii, wi, a1, a2, a3, a4]
  rfl
theorem lvB_f {d : Nat} {Z : Int → Int} {io : Int → Int} {hc : Hp} {i f m : Int} : (∀ j, lvB d Z io hc i f m (d + 1) j = if j = i then f else hc (d + 1) j) ∧ (∀ j, lvB d Z io hc i f m (d + 2) j = if j = i then m - zmn Z (io i) else hc (d + 2) j) ∧ (∀ p, p ≠ d → p ≠ d + 1 → p ≠ d + 2 → lvB d Z io hc i f m p = hc p) ∧ lvB d Z io hc i f m d 11 = hc d 11 - 1 ∧ lvB d Z io hc i f m d 12 = hc d 12 - zSz Z (io i) ∧ ∀ j, j ≠ 11 → j ≠ 12 → lvB d Z io hc i f m d j = hc d j := by
  unfold lvB
  refine ⟨fun j => ?_, fun j => ?_, fun p h1 h2 h3 => ?_, ?_, ?_, fun j h1 h2 => ?_⟩
  · rw [up_n _ _ _ (by omega), up_n _ _ _ (by omega), up_n _ _ _ (by omega)]; unfold up; simp
  · rw [up_n _ _ _ (by omega), up_n _ _ _ (by omega)]; unfold up; simp
  · rw [up_n _ _ _ h1, up_n _ _ _ h1, up_n _ _ _ h3, up_n _ _ _ h2]
  · rw [up_o _ _ _ (by decide), up_s]
  · rw [up_s]
  · rw [up_o _ _ _ h2, up_o _ _ _ h1, up_n _ _ _ (by omega), up_n _ _ _ (by omega)]
theorem tire_loop {d : Nat} {io : Int → Int} {n : Int} {Z : Int → Int} {pl ru th sh nv ms : Int} (hd : d = 1 ∨ d = 27) (S : Sta io n Z pl ru th sh nv ms) {m : Int} (m0 : 0 ≤ m ∧ m < 240) : ∀ (k : Nat) (q i : Int) (w3 w4 w5 : AV) (hc hm : Hp), 0 ≤ q → q + k = Z 24 → (0 ≤ i ∧ i ≤ n) → (∀ j, 0 ≤ j → j < n → (j < i ↔ io j < q)) → MP hm Z pl ru th sh nv → Dat d io n Z pl ru th hc → Rel d io n Z hc hm → Mo io n Z hm → Arr Z hm (m + 1) 0 → PlB d io n Z pl hc hm m i →
    ∃ gc gm, X (134, 2, [aR d, aI m, aI i, w3, w4, w5], [], hc) = some (none, gc) ∧ X (81, 2, [aR 80, aI m, aI q], [], hm) = some (none, gm) ∧ Fr d hc hm gc gm ∧ Rel d io n Z gc gm ∧ Mo io n Z gm ∧ Arr Z gm (m + 1) 0 ∧ PlB d io n Z pl gc gm m n ∧ gc (d + 8) = hc (d + 8) ∧ gc d 10 = hc d 10 ∧ Ltr Z m hm gm
  | 0, q, i, w3, w4, w5, hc, hm, q0, hk, ib, ij, M, D, R, O, A, P => by
    obtain ⟨hZ, _⟩ := S
    have hn := zd_n hZ
    have hnn := D.1
    have h4 := D.2.1
    have hq : q = Z 24 := by omega
    have hi : i = n := by
      by_cases c : i < n
      · have := (D.2.2.1 i ib.1 c).1
        have := (ij i ib.1 c).mpr (by omega)
        omega
      · omega
    subst hi
    refine ⟨hc, hm, ?_, ?_, Fr_0 _ _ _, R, O, A, P, rfl, rfl, Ltr_0 _ _ _⟩
    · rw [e134_2 hd, h4, wr_id (x := i) (by omega) (by omega), cd_t (by omega)]
    · rw [e81_2, M.1, wr_id (x := Z 24) (by omega) (by omega), wr_id (x := q) (by omega) (by omega), cd_t (by omega)]
  | k + 1, q, i, w3, w4, w5, hc, hm, q0, hk, ib, ij, M, D, R, O, A, P => by
    have S' := S
    obtain ⟨hZ, hpl, hru, hth, hsh, hnv, hms, hmn, im1, im2⟩ := S'
    have hn := zd_n hZ
    have hnn := D.1
    have h4 := D.2.1
    have hr := zd_row hZ (p := q) q0 (by omega)
    have hK := zK_r hZ (pl := pl) (p := q) q0 (by omega)
    obtain ⟨M1, M2, M3, M4, M5, M6⟩ := M
    have M' : MP hm Z pl ru th sh nv := ⟨M1, M2, M3, M4, M5, M6⟩
    have oq := O.1 q q0 (by omega)
    have mk := m_kindOf (h := hm) (by rw [M1]; exact hZ) q0 (by rw [M1]; omega) (by rw [M2]; exact hpl)
    rw [M1, M2] at mk
    have mo0 : X (50, 0, [aR 80, aI q, aI 0], [], hm) = some (some (zmn Z q), hm) := by
      rw [m_of q0 (by omega) (by decide) (by decide), Int.add_zero, M1]; rfl
    have mo3 : X (50, 0, [aR 80, aI q, aI 3], [], hm) = some (some (znu Z q), hm) := by
      rw [m_of q0 (by omega) (by decide) (by decide), show 67 + 4 * q + 3 = 70 + 4 * q by omega, M1]; rfl
    have tm : X (81, 2, [aR 80, aI m, aI q], [], hm) = if hm 84 q = 4 ∧ zK Z pl q = 5 ∧ znu Z q ≤ m - zmn Z q then X (81, 2, [aR 80, aI m, aI (q + 1)], [], up (up hm 84 q 2) 89 q m) else X (81, 2, [aR 80, aI m, aI (q + 1)], [], hm) := by
      rw [e81_2, M1, wr_id (x := Z 24) (by omega) (by omega), wr_id (x := q) (by omega) (by omega), cd_f (by omega), inb_t q0 (by omega) (by omega), cond_t, wr_id (x := hm 84 q) (by omega) (by omega)]
      by_cases c1 : hm 84 q = 4
      · rw [cd_f (by omega), mk, bI_some, wr_id (x := zK Z pl q) (by omega) (by omega)]
        by_cases c2 : zK Z pl q = 5
        · rw [cd_f (by omega), mo0, bI_some, mo3, bI_some, wr_id (x := m - zmn Z q) (by omega) (by omega), wr_id (x := znu Z q) (by omega) (by omega)]
          by_cases c3 : m - zmn Z q < znu Z q
          · rw [cd_t c3, if_neg (by omega)]
          · rw [cd_f c3, if_pos ⟨c1, c2, by omega⟩]; rfl
        · rw [cd_t c2, if_neg (fun a => c2 a.2.1)]
      · rw [cd_t c1, if_neg (fun a => c1 a.1)]
    by_cases hin : i < n ∧ io i = q
    · obtain ⟨i1, i2⟩ := hin
      have y0 := D.2.2.1 i ib.1 i1
      rw [i2] at y0
      obtain ⟨y0, y1, y2, y3, y4⟩ := y0
      have r1 := R.1 i ib.1 i1
      rw [i2] at r1
      have ij2 : ∀ j, 0 ≤ j → j < n → (j < i + 1 ↔ io j < q + 1) := fun j j0 j1 => by
        have a := ij j j0 j1
        have b := (io_lt D j0 j1 ib.1 i1)
        rw [i2] at b
        omega
      have ii : inb 12 i = true := inb_t ib.1 (by omega) (by omega)
      have wi : wr i = i := wr_id (by omega) (by omega)
      have st6 := D.2.2.2.2.1.2.2.2.2.2.1
      have hs := zd_s hZ
      -- what the class does
      have tc : ∃ v3 v4 v5, X (134, 2, [aR d, aI m, aI i, w3, w4, w5], [], hc) = if hm 84 q = 4 ∧ zK Z pl q = 5 ∧ znu Z q ≤ m - zmn Z q then X (134, 2, [aR d, aI m, aI (i + 1), v3, v4, v5], [], lvB d Z io hc i 2 m) else X (134, 2, [aR d, aI m, aI (i + 1), v3, v4, v5], [], if hm 84 q = 4 ∧ zK Z pl q = 3 ∧ m - zmn Z q = 5 + znu Z q ∧ Z 6 = 0 then up hc (d + 7) i m else hc) := by
        rw [e134_2 hd, h4, wr_id (x := n) (by omega) (by omega), wi, cd_f (by omega), ii, r1.1, y2, y1, wr_id (x := hm 84 q) (by omega) (by omega), wr_id (x := zK Z pl q) (by omega) (by omega), st6, wr_id (x := Z 6) (by omega) (by omega), wr_id (x := m - zmn Z q) (by omega) (by omega)]
        simp only [cond_t]
        by_cases c1 : hm 84 q = 4
        · refine ⟨aI (zK Z pl q), aI (m - zmn Z q), aI (hc (d + 22) i), ?_⟩
          rw [cd_t c1]
          by_cases c2 : zK Z pl q = 5
          · have y4 := y4 (by omega)
            rw [cd_f (show ¬ zK Z pl q ≠ 5 by omega), y4, wr_id (x := znu Z q) (by omega) (by omega)]
            by_cases c3 : m - zmn Z q < znu Z q
            · rw [cd_t c3, cd_t (show zK Z pl q ≠ 3 by omega), if_neg (by omega), if_neg (by omega)]
            · rw [cd_f c3, s_leaveBench hd D R ib.1 i1, bV_some, if_pos ⟨c1, c2, by omega⟩]
          · rw [cd_t c2, if_neg (fun a => c2 a.2.1)]
            by_cases c4 : zK Z pl q = 3
            · have y4 := y4 (by omega)
              rw [cd_f (show ¬ zK Z pl q ≠ 3 by omega), y4, wr_id (x := 5 + znu Z q) (by omega) (by omega)]
              by_cases c5 : m - zmn Z q = 5 + znu Z q
              · rw [cd_f (show ¬ m - zmn Z q ≠ 5 + znu Z q by omega)]
                by_cases c6 : Z 6 = 0
                · rw [cd_f (show ¬ Z 6 ≠ 0 by omega), if_pos ⟨c1, c4, c5, c6⟩]
                · rw [cd_t c6, if_neg (fun a => c6 a.2.2.2)]
              · rw [cd_t c5, if_neg (fun a => c5 a.2.2.1)]
            · rw [cd_t c4, if_neg (fun a => c4 a.2.1)]
        · refine ⟨w3, w4, w5, ?_⟩
          rw [cd_f c1, if_neg (fun a => c1 a.1), if_neg (fun a => c1 a.1)]
      obtain ⟨v3, v4, v5, tc⟩ := tc
      rw [tc, tm]
      by_cases c : hm 84 q = 4 ∧ zK Z pl q = 5 ∧ znu Z q ≤ m - zmn Z q
      · rw [if_pos c, if_pos c]
        obtain ⟨b1, b2, b3, b4, b5, b6⟩ := lvB_f (d := d) (Z := Z) (io := io) (hc := hc) (i := i) (f := 2) (m := m)
        generalize lvB d Z io hc i 2 m = gc at b1 b2 b3 b4 b5 b6 ⊢
        have u : ∀ j, up (up hm 84 q 2) 89 q m 84 j = if j = q then 2 else hm 84 j := fun j => by rw [up_n _ _ _ (by decide)]; unfold up; simp
        have u9 : ∀ j, up (up hm 84 q 2) 89 q m 89 j = if j = q then m else hm 89 j := fun j => by
          show up (up hm 84 q 2) 89 q m 89 j = _
          unfold up; simp
        have uo : ∀ p, p ≠ 84 → p ≠ 89 → up (up hm 84 q 2) 89 q m p = hm p := fun p a b => by rw [up_n _ _ _ b, up_n _ _ _ a]
        generalize up (up hm 84 q 2) 89 q m = gm at u u9 uo ⊢
        have F1 : Fr d hc hm gc gm := ⟨fun p hp => b3 p (by omega) (by omega) (by omega), fun j hj => b6 j (by omega) (by omega), fun p hp => uo p (by omega) (by omega), fun j hj => by rw [uo 80 (by decide) (by decide)]⟩
        have oo := oq.2.2.2.1 (by omega)
        have R2 : Rel d io n Z gc gm := rel_leave (m := m) (f := 2) D R ib.1 i1 (by rw [i2]; exact c.1) (Or.inl rfl) (by rw [i2]; exact u) (fun j hj => by
            rw [i2] at hj
            rw [uo 86 (by decide) (by decide), uo 87 (by decide) (by decide), uo 88 (by decide) (by decide), u9, if_neg hj]
            exact ⟨rfl, rfl, rfl, rfl⟩) (fun _ => by rw [i2, u9, if_pos rfl]) (fun a => by omega) (by rw [uo 80 (by decide) (by decide)]) b1 b2 (fun j hj => by
            rw [b3 _ (by omega) (by omega) (by omega), b3 _ (by omega) (by omega) (by omega), b3 _ (by omega) (by omega) (by omega)]
            exact ⟨rfl, rfl, rfl⟩) (by
            rw [b3 _ (by omega) (by omega) (by omega), b3 _ (by omega) (by omega) (by omega), i2, uo 86 (by decide) (by decide), uo 87 (by decide) (by decide)]
            exact ⟨r1.2.1, r1.2.2.1⟩) (fun a => by omega) (b3 _ (by omega) (by omega) (by omega)) (fun e e0 e1 => by
            rw [b3 _ (by omega) (by omega) (by omega), uo 90 (by decide) (by decide)]
            exact R.2.1 e e0 e1) (b6 13 (by decide) (by decide)) b4 b5
        have O2 : Mo io n Z gm := by
          refine ⟨fun p p0 p1 => ?_, fun p p' p0 p1 q0' q1' hpq hp hq he => ?_⟩
          · have y := O.1 p p0 p1
            rw [u, u9, uo 86 (by decide) (by decide), uo 87 (by decide) (by decide), uo 88 (by decide) (by decide), uo 90 (by decide) (by decide)]
            by_cases e : p = q
            · rw [if_pos e, if_pos e, e]
              exact ⟨by decide, fun a => absurd a (by decide), fun _ => ⟨by omega, m0.2⟩, fun _ => oo, fun _ => ⟨i, ib.1, i1, i2⟩⟩
            · rw [if_neg e, if_neg e]; exact y
          · rw [u] at hp hq
            rw [uo 87 (by decide) (by decide)] at he
            rw [uo 86 (by decide) (by decide), uo 88 (by decide) (by decide)]
            have e1 : ¬ p = q := fun e => by rw [if_pos e] at hp; omega
            have e2 : ¬ p' = q := fun e => by rw [if_pos e] at hq; omega
            rw [if_neg e1] at hp
            rw [if_neg e2] at hq
            exact O.2 p p' p0 p1 q0' q1' hpq hp hq he
        obtain ⟨gc2, gm2, x1, x2, x3, x4, x5, x6, x7, x8, x9, x10⟩ := tire_loop hd S m0 k (q + 1) (i + 1) v3 v4 v5 gc gm (by omega) (by omega) (by omega) ij2 (Fr_MP F1 M') (Fr_Dat F1 D) R2 O2 (fun p p0 p1 hp => by
            rw [u] at hp
            by_cases e : p = q
            · exact A p p0 p1 (by rw [e, c.1]; decide)
            · rw [if_neg e] at hp; exact A p p0 p1 hp) (fun j j0 j1 => by
            rw [u, b3 _ (by omega) (by omega) (by omega)]
            by_cases e : j = i
            · rw [e, i2, if_pos rfl]
              exact ⟨fun a => by omega, fun a => by omega⟩
            · have ne : ¬ io j = q := fun a => e ((io_lt D j0 j1 ib.1 i1).2.mp (by rw [a, i2]))
              rw [if_neg ne]
              have pp := P j j0 j1
              refine ⟨fun a => ?_, pp.2⟩
              rw [pp.1 a]
              by_cases e2 : j < i
              · rw [if_pos e2, if_pos (by omega)]
              · rw [if_neg e2, if_neg (by omega)])
        refine ⟨gc2, gm2, x1, x2, Fr_t F1 x3, x4, x5, x6, x7, by rw [x8, b3 _ (by omega) (by omega) (by omega)], by rw [x9, b6 10 (by decide) (by decide)], Ltr_t (fun p p0 p1 => ?_) x10⟩
        rw [u, u9, uo 86 (by decide) (by decide), uo 87 (by decide) (by decide), uo 88 (by decide) (by decide)]
        by_cases e : p = q
        · rw [if_pos e, if_pos e, e, c.1]
          exact ⟨fun a => by omega, fun _ => Or.inr (Or.inl ⟨rfl, Int.le_refl _⟩), fun a => by omega⟩
        · rw [if_neg e, if_neg e]
          exact ⟨fun a => ⟨rfl, rfl, rfl, rfl, rfl⟩, fun a => Or.inl a, fun a => Or.inl a⟩
      · rw [if_neg c, if_neg c]
        generalize hgc : (if hm 84 q = 4 ∧ zK Z pl q = 3 ∧ m - zmn Z q = 5 + znu Z q ∧ Z 6 = 0 then up hc (d + 7) i m else hc) = gc
        have b3 : ∀ p, p ≠ d + 7 → gc p = hc p := fun p hp => by
          rw [← hgc]; split
          · rw [up_n _ _ _ hp]
          · rfl
        have b7 : ∀ j, j ≠ i → gc (d + 7) j = hc (d + 7) j := fun j hj => by
          rw [← hgc]; split
          · rw [up_o _ _ _ hj]
          · rfl
        have F1 : Fr d hc hm gc hm := ⟨fun p hp => b3 p (by omega), fun j hj => by rw [b3 d (by omega)], fun p hp => rfl, fun j hj => rfl⟩
        have R2 : Rel d io n Z gc hm := by
          unfold Rel at R ⊢
          rw [b3 (d + 1) (by omega), b3 (d + 2) (by omega), b3 (d + 3) (by omega), b3 (d + 4) (by omega), b3 (d + 5) (by omega), b3 (d + 6) (by omega), b3 (d + 9) (by omega), b3 d (by omega)]
          exact R
        obtain ⟨gc2, gm2, x1, x2, x3, x4, x5, x6, x7, x8, x9, x10⟩ := tire_loop hd S m0 k (q + 1) (i + 1) v3 v4 v5 gc hm (by omega) (by omega) (by omega) ij2 M' (Fr_Dat F1 D) R2 O A (fun j j0 j1 => by
            have pp := P j j0 j1
            by_cases e : j = i
            · subst e
              rw [i2] at pp ⊢
              refine ⟨fun a => ?_, fun a => ?_⟩
              · rw [if_pos (by omega)]
                have p1 := pp.1 a
                rw [if_neg (by omega)] at p1
                rw [← hgc]
                by_cases e2 : hm 84 q = 4 ∧ zK Z pl q = 3 ∧ m - zmn Z q = 5 + znu Z q ∧ Z 6 = 0
                · rw [if_pos e2, up_s]
                  unfold zPl
                  rw [if_neg (by omega), if_pos ⟨e2.2.1, e2.2.2.2, by omega⟩]
                  omega
                · rw [if_neg e2, p1]
                  unfold zPl
                  by_cases e3 : zK Z pl q = 4
                  · rw [if_pos e3, if_pos e3]
                  · rw [if_neg e3, if_neg e3]
                    by_cases e4 : zK Z pl q = 3 ∧ Z 6 = 0 ∧ zmn Z q + 5 + znu Z q ≤ m - 1
                    · rw [if_pos e4, if_pos ⟨e4.1, e4.2.1, by omega⟩]
                    · rw [if_neg e4, if_neg]
                      intro e5
                      exact e2 ⟨a, e5.1, by omega, e5.2.1⟩
              · rw [← hgc, if_neg (by omega)]
                exact pp.2 a
            · rw [b7 j e]
              refine ⟨fun a => ?_, pp.2⟩
              rw [pp.1 a]
              by_cases e2 : j < i
              · rw [if_pos e2, if_pos (by omega)]
              · rw [if_neg e2, if_neg (by omega)])
        exact ⟨gc2, gm2, x1, x2, Fr_t F1 x3, x4, x5, x6, x7, by rw [x8, b3 _ (by omega)], by rw [x9, b3 _ (by omega)], x10⟩
    · have no : ∀ j, 0 ≤ j → j < n → io j ≠ q := fun j j0 j1 e => by
        have a := ij j j0 j1
        by_cases e2 : j = i
        · exact hin ⟨by omega, by rw [← e2]; exact e⟩
        · have hj : i < j := by omega
          have b := ij i ib.1 (by omega)
          have := D.2.2.2.1 i j ib.1 hj j1
          omega
      have z : hm 84 q = 0 := by
        apply Classical.byContradiction
        intro c
        obtain ⟨j, j0, j1, j2⟩ := oq.2.2.2.2 c
        exact no j j0 j1 j2
      rw [tm, if_neg (by omega)]
      exact tire_loop hd S m0 k (q + 1) i w3 w4 w5 hc hm (by omega) (by omega) ib (fun j j0 j1 => by
        have a := ij j j0 j1
        have b := no j j0 j1
        omega) M' D R O A P
