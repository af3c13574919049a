/-! serving -/
def bgC (d : Nat) (Z : Int → Int) (pl : Int) (io : Int → Int) (hc : Hp) (i c m : Int) : Hp := up (up (up (up (lvB d Z io hc i 3 m) (d + 3) i m) (d + 4) i c) (d + 5) i (zLn Z pl (io i) c)) (d + 9) c (m + zLn Z pl (io i) c + Z 3)
def bgM (Z : Int → Int) (pl : Int) (hm : Hp) (p c m : Int) : Hp := up (up (up (up (up hm 84 p 3) 86 p m) 87 p c) 88 p (zLn Z pl p c)) 90 c (m + zLn Z pl p c + Z 3)
theorem s_begin {d : Nat} {io : Int → Int} {n : Int} {Z : Int → Int} {pl ru th : Int} {hc hm : Hp} {i c m : Int} (hd : d = 1 ∨ d = 27) (hZ : ZD Z) (hD : Dat d io n Z pl ru th hc) (R : Rel d io n Z hc hm) (i0 : 0 ≤ i) (i1 : i < n) (c0 : 0 ≤ c ∧ c < 3) : X (137, 0, [aR d, aI i, aI c, aI m], [], hc) = some (none, bgC d Z pl io hc i c m) := by
  have hn := hD.1
  obtain ⟨b1, b2, b3, b4, b5, b6⟩ := lvB_f (d := d) (Z := Z) (io := io) (hc := hc) (i := i) (f := 3) (m := m)
  have ii : inb 12 i = true := inb_t i0 (by omega) (by omega)
  have ic : inb 3 c = true := inb_t c0.1 (by omega) (by omega)
  have wi : wr i = i := wr_id (by omega) (by omega)
  have wc : wr c = c := wr_id (by omega) (by omega)
  have hl := s_lengthOf (h := up (up (lvB d Z io hc i 3 m) (d + 3) i m) (d + 4) i c) hd hZ (Dat_c (fun p p1 p2 => by rw [up_n _ _ _ (by omega), up_n _ _ _ (by omega), b3 p (by omega) (by omega) (by omega)]) hD) i0 i1 c0 (by rw [up_n _ _ _ (by omega), up_n _ _ _ (by omega), b3 _ (by omega) (by omega) (by omega)]; exact (R.1 i i0 i1).2.2.2.1)
  rw [e137_0 hd, s_leaveBench hd hD R i0 i1, bV_some, ii, wi, cond_t, cond_t, hl, bI_some, cond_t, cond_t, ic, cond_t, wc, up_s]
  rw [show up (up (up (lvB d Z io hc i 3 m) (d + 3) i m) (d + 4) i c) (d + 5) i (zLn Z pl (io i) c) (d + 12) 3 = Z 3 by rw [up_n _ _ _ (by omega), up_n _ _ _ (by omega), up_n _ _ _ (by omega), b3 _ (by omega) (by omega) (by omega)]; exact hD.2.2.2.2.1.2.2.2.1]
  rfl
theorem begin_rel {d : Nat} {io : Int → Int} {n : Int} {Z : Int → Int} {pl ru th sh nv ms : Int} {hc hm : Hp} {i c m : Int} (S : Sta io n Z pl ru th sh nv ms) (m0 : 0 ≤ m ∧ m < 240) (D : Dat d io n Z pl ru th hc) (R : Rel d io n Z hc hm) (O : Mo io n Z hm) (A : Arr Z hm (m + 1) 0) (P : PlB d io n Z pl hc hm m n) (i0 : 0 ≤ i) (i1 : i < n) (c0 : 0 ≤ c ∧ c < 3) (z : hm 84 (io i) = 4) (hfree : hm 90 c ≤ m) :
    Fr d hc hm (bgC d Z pl io hc i c m) (bgM Z pl hm (io i) c m) ∧ Rel d io n Z (bgC d Z pl io hc i c m) (bgM Z pl hm (io i) c m) ∧ Mo io n Z (bgM Z pl hm (io i) c m) ∧ Arr Z (bgM Z pl hm (io i) c m) (m + 1) 0 ∧ PlB d io n Z pl (bgC d Z pl io hc i c m) (bgM Z pl hm (io i) c m) m n ∧ bgC d Z pl io hc i c m (d + 8) = hc (d + 8) ∧ bgC d Z pl io hc i c m d 10 = hc d 10 ∧ Ltr Z m hm (bgM Z pl hm (io i) c m) := by
  obtain ⟨hZ, _⟩ := S
  have hp := (D.2.2.1 i i0 i1).1
  obtain ⟨b1, b2, b3, b4, b5, b6⟩ := lvB_f (d := d) (Z := Z) (io := io) (hc := hc) (i := i) (f := 3) (m := m)
  have hl := zLn_r hZ (pl := pl) hp.1 hp.2 c0
  have hs := (zd_s hZ).2.2.2.1
  have cg : ∀ p, (p ≠ d + 3 ∧ p ≠ d + 4 ∧ p ≠ d + 5 ∧ p ≠ d + 9) → bgC d Z pl io hc i c m p = lvB d Z io hc i 3 m p := fun p hp => by
    unfold bgC; rw [up_n _ _ _ hp.2.2.2, up_n _ _ _ hp.2.2.1, up_n _ _ _ hp.2.1, up_n _ _ _ hp.1]
  have c3 : ∀ j, bgC d Z pl io hc i c m (d + 3) j = if j = i then m else hc (d + 3) j := fun j => by
    unfold bgC; rw [up_n _ _ _ (by omega), up_n _ _ _ (by omega), up_n _ _ _ (by omega), ← b3 (d + 3) (by omega) (by omega) (by omega)]
    show up (lvB d Z io hc i 3 m) (d + 3) i m (d + 3) j = _
    unfold up; simp
  have c4 : ∀ j, bgC d Z pl io hc i c m (d + 4) j = if j = i then c else hc (d + 4) j := fun j => by
    unfold bgC; rw [up_n _ _ _ (by omega), up_n _ _ _ (by omega), ← b3 (d + 4) (by omega) (by omega) (by omega), ← up_n (q := d + 4) (lvB d Z io hc i 3 m) (p := d + 3) i m (by omega)]
    generalize up (lvB d Z io hc i 3 m) (d + 3) i m = g
    unfold up; simp
  have c5 : ∀ j, bgC d Z pl io hc i c m (d + 5) j = if j = i then zLn Z pl (io i) c else hc (d + 5) j := fun j => by
    unfold bgC; rw [up_n _ _ _ (by omega), ← b3 (d + 5) (by omega) (by omega) (by omega), ← up_n (q := d + 5) (lvB d Z io hc i 3 m) (p := d + 3) i m (by omega), ← up_n (q := d + 5) (up (lvB d Z io hc i 3 m) (d + 3) i m) (p := d + 4) i c (by omega)]
    generalize up (up (lvB d Z io hc i 3 m) (d + 3) i m) (d + 4) i c = g
    unfold up; simp
  have c9 : ∀ j, bgC d Z pl io hc i c m (d + 9) j = if j = c then m + zLn Z pl (io i) c + Z 3 else hc (d + 9) j := fun j => by
    unfold bgC
    rw [← b3 (d + 9) (by omega) (by omega) (by omega), ← up_n (q := d + 9) (lvB d Z io hc i 3 m) (p := d + 3) i m (by omega), ← up_n (q := d + 9) (up (lvB d Z io hc i 3 m) (d + 3) i m) (p := d + 4) i c (by omega), ← up_n (q := d + 9) (up (up (lvB d Z io hc i 3 m) (d + 3) i m) (d + 4) i c) (p := d + 5) i (zLn Z pl (io i) c) (by omega)]
    generalize up (up (up (lvB d Z io hc i 3 m) (d + 3) i m) (d + 4) i c) (d + 5) i (zLn Z pl (io i) c) = g
    unfold up; simp
  generalize bgC d Z pl io hc i c m = gc at cg c3 c4 c5 c9 ⊢
  have mo : ∀ p, (p ≠ 84 ∧ p ≠ 86 ∧ p ≠ 87 ∧ p ≠ 88 ∧ p ≠ 90) → bgM Z pl hm (io i) c m p = hm p := fun p hp => by
    unfold bgM; rw [up_n _ _ _ hp.2.2.2.2, up_n _ _ _ hp.2.2.2.1, up_n _ _ _ hp.2.2.1, up_n _ _ _ hp.2.1, up_n _ _ _ hp.1]
  have u4 : ∀ j, bgM Z pl hm (io i) c m 84 j = if j = io i then 3 else hm 84 j := fun j => by
    unfold bgM; rw [up_n _ _ _ (by decide), up_n _ _ _ (by decide), up_n _ _ _ (by decide), up_n _ _ _ (by decide)]
    unfold up; simp
  have u6 : ∀ j, bgM Z pl hm (io i) c m 86 j = if j = io i then m else hm 86 j := fun j => by
    unfold bgM; rw [up_n _ _ _ (by decide), up_n _ _ _ (by decide), up_n _ _ _ (by decide)]
    unfold up; simp
  have u7 : ∀ j, bgM Z pl hm (io i) c m 87 j = if j = io i then c else hm 87 j := fun j => by
    unfold bgM; rw [up_n _ _ _ (by decide), up_n _ _ _ (by decide)]
    unfold up; simp
  have u8 : ∀ j, bgM Z pl hm (io i) c m 88 j = if j = io i then zLn Z pl (io i) c else hm 88 j := fun j => by
    unfold bgM; rw [up_n _ _ _ (by decide)]
    unfold up; simp
  have u90 : ∀ j, bgM Z pl hm (io i) c m 90 j = if j = c then m + zLn Z pl (io i) c + Z 3 else hm 90 j := fun j => by
    unfold bgM up; simp
  generalize bgM Z pl hm (io i) c m = gm at mo u4 u6 u7 u8 u90 ⊢
  have arr : zmn Z (io i) ≤ m := by
    rcases A (io i) hp.1 hp.2 (by rw [z]; decide) with a | a <;> omega
  refine ⟨⟨fun p hp => by rw [cg p (by omega), b3 p (by omega) (by omega) (by omega)], fun j hj => by rw [cg d (by omega), b6 j (by omega) (by omega)], fun p hp => mo p (by omega), fun j hj => by rw [mo 80 (by decide)]⟩, ?_, ?_, ?_, ?_, ?_, ?_, ?_⟩
  · refine rel_leave (m := m) (f := 3) D R i0 i1 z (Or.inr rfl) u4 (fun j hj => ?_) (fun a => by omega) (fun _ => by rw [u6, if_pos rfl]) (by rw [mo 80 (by decide)]) (fun j => by rw [cg _ (by omega)]; exact b1 j) (fun j => by rw [cg _ (by omega)]; exact b2 j) (fun j hj => by rw [c3, c4, c5, if_neg hj, if_neg hj, if_neg hj]; exact ⟨rfl, rfl, rfl⟩) (by rw [c3, c4, u6, u7, if_pos rfl, if_pos rfl, if_pos rfl, if_pos rfl]; exact ⟨rfl, rfl⟩) (fun _ => by rw [c5, u8, if_pos rfl, if_pos rfl]) (by rw [cg _ (by omega), b3 _ (by omega) (by omega) (by omega)]) (fun e e0 e1 => ?_) (by rw [cg _ (by omega)]; exact b6 13 (by decide) (by decide)) (by rw [cg _ (by omega)]; exact b4) (by rw [cg _ (by omega)]; exact b5)
    · rw [u6, u7, u8, mo 89 (by decide), if_neg hj, if_neg hj, if_neg hj]; exact ⟨rfl, rfl, rfl, rfl⟩
    · rw [c9, u90]
      by_cases h : e = c
      · rw [if_pos h, if_pos h]; exact ⟨rfl, by omega, by omega⟩
      · rw [if_neg h, if_neg h]; exact R.2.1 e e0 e1
  · refine ⟨fun p p0 p1 => ?_, fun p p' p0 p1 q0 q1 hpq hp3 hq3 he => ?_⟩
    · have y := O.1 p p0 p1
      rw [u4, u6, u7, u8, mo 89 (by decide)]
      by_cases e : p = io i
      · rw [if_pos e, if_pos e, if_pos e, if_pos e, u90, if_pos rfl, e]
        exact ⟨by decide, fun _ => ⟨⟨arr, m0.2⟩, c0, hl, by omega⟩, fun a => absurd a (by decide), fun a => absurd rfl a, fun _ => ⟨i, i0, i1, rfl⟩⟩
      · rw [if_neg e, if_neg e, if_neg e, if_neg e]
        refine ⟨y.1, fun a => ?_, y.2.2.1, y.2.2.2.1, y.2.2.2.2⟩
        have b := y.2.1 a
        refine ⟨b.1, b.2.1, b.2.2.1, ?_⟩
        rw [u90]
        by_cases h : hm 87 p = c
        · have b4 := b.2.2.2
          rw [h] at b4
          rw [if_pos h]; omega
        · rw [if_neg h]; exact b.2.2.2
    · rw [u4] at hp3 hq3
      rw [u7, u7] at he
      rw [u6, u6, u8, u8]
      by_cases e1 : p = io i
      · have e2 : ¬ p' = io i := fun e => hpq (by rw [e1, e])
        rw [if_neg e2] at hq3
        rw [if_pos e1, if_neg e2] at he
        rw [if_pos e1, if_pos e1, if_neg e2, if_neg e2]
        have b := (O.1 p' q0 q1).2.1 hq3
        have b4 := b.2.2.2
        rw [← he] at b4
        omega
      · rw [if_neg e1] at hp3
        rw [if_neg e1] at he
        rw [if_neg e1, if_neg e1]
        by_cases e2 : p' = io i
        · rw [if_pos e2] at he
          rw [if_pos e2, if_pos e2]
          have b := (O.1 p p0 p1).2.1 hp3
          have b4 := b.2.2.2
          rw [he] at b4
          omega
        · rw [if_neg e2] at hq3 he
          rw [if_neg e2, if_neg e2]
          exact O.2 p p' p0 p1 q0 q1 hpq hp3 hq3 he
  · intro p p0 p1 hp0
    rw [u4] at hp0
    by_cases e : p = io i
    · exact A p p0 p1 (by rw [e, z]; decide)
    · rw [if_neg e] at hp0; exact A p p0 p1 hp0
  · intro j j0 j1
    rw [u4, cg _ (by omega), b3 _ (by omega) (by omega) (by omega)]
    by_cases e : io j = io i
    · rw [if_pos e]; exact ⟨fun a => absurd a (by decide), fun a => absurd a (by decide)⟩
    · rw [if_neg e]; exact P j j0 j1
  · rw [cg _ (by omega), b3 _ (by omega) (by omega) (by omega)]
  · rw [cg _ (by omega), b6 10 (by decide) (by decide)]
  · intro p p0 p1
    rw [u4, u6, u7, u8, mo 89 (by decide)]
    by_cases e : p = io i
    · rw [if_pos e, if_pos e, if_pos e, if_pos e, e, z]
      exact ⟨fun a => absurd rfl a.2, fun _ => Or.inr (Or.inr ⟨rfl, Int.le_refl _⟩), fun a => absurd a (by decide)⟩
    · rw [if_neg e, if_neg e, if_neg e, if_neg e]
      exact ⟨fun a => ⟨rfl, rfl, rfl, rfl, rfl⟩, fun a => Or.inl a, fun a => Or.inl a⟩
/-- a quarrel more or none, counted in both -/
theorem rel_q {d : Nat} {io : Int → Int} {n : Int} {Z : Int → Int} {hc hm : Hp} {q : Int} (R : Rel d io n Z hc hm) : Rel d io n Z (up hc d 13 (hc d 13 + q)) (up hm 80 18 (hm 80 18 + q)) := by
  obtain ⟨r1, r2, r3, r4, r5⟩ := R
  have a : ∀ p, p ≠ d → up hc d 13 (hc d 13 + q) p = hc p := fun p hp => up_n _ _ _ hp
  have b : ∀ p, p ≠ 80 → up hm 80 18 (hm 80 18 + q) p = hm p := fun p hp => up_n _ _ _ hp
  refine ⟨?_, ?_, by rw [up_s, up_s, r3], ?_, ?_⟩
  · unfold wt at r1 ⊢
    rw [a (d + 1) (by omega), a (d + 2) (by omega), a (d + 3) (by omega), a (d + 4) (by omega), a (d + 5) (by omega), a (d + 6) (by omega), b 84 (by decide), b 86 (by decide), b 87 (by decide), b 88 (by decide), b 89 (by decide)]
    exact r1
  · rw [a (d + 9) (by omega), b 90 (by decide)]; exact r2
  · rw [up_o _ _ _ (by decide), b 84 (by decide)]; exact r4
  · rw [up_o _ _ _ (by decide), b 84 (by decide)]; exact r5
