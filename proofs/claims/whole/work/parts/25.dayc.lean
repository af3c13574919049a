/-! the class's small methods of the day, over a room that holds what Z, pl, ru, th say of the people iota names -/
def Dat (d : Nat) (io : Int → Int) (n : Int) (Z : Int → Int) (pl ru th : Int) (h : Hp) : Prop :=
  (0 ≤ n ∧ n ≤ 12) ∧ h (d + 18) 4 = n ∧ (∀ i, 0 ≤ i → i < n → (0 ≤ io i ∧ io i < Z 24) ∧ h (d + 19) i = zmn Z (io i) ∧ h (d + 20) i = zK Z pl (io i) ∧ h (d + 21) i = zso Z (io i) ∧ (zK Z pl (io i) ≠ 0 → h (d + 22) i = znu Z (io i))) ∧ (∀ i j, 0 ≤ i → i < j → j < n → io i < io j) ∧ (h (d + 12) 0 = Z 0 ∧ h (d + 12) 1 = Z 1 ∧ h (d + 12) 2 = Z 2 ∧ h (d + 12) 3 = Z 3 ∧ h (d + 12) 4 = Z 4 ∧ h (d + 12) 6 = Z 6 ∧ h (d + 12) 5 = th ∧ h (d + 12) 7 = ru) ∧ (∀ k, 0 ≤ k → k < 12 → h (d + 13) k = Z (8 + k)) ∧ (∀ k, 0 ≤ k → k < 4 → h (d + 14) k = Z (20 + k)) ∧ (∀ a b, 0 ≤ a → a < 6 → 0 ≤ b → b < 6 → (jand (jshr (h (d + 16) a) b) 1 = 1 ↔ zP Z a b = true))
theorem Dat_c {d : Nat} {io : Int → Int} {n : Int} {Z : Int → Int} {pl ru th : Int} {h g : Hp} (e : ∀ p, d + 12 ≤ p → p ≤ d + 22 → g p = h p) (H : Dat d io n Z pl ru th h) : Dat d io n Z pl ru th g := by
  unfold Dat at H ⊢
  rw [e (d + 18) (by omega) (by omega), e (d + 19) (by omega) (by omega), e (d + 20) (by omega) (by omega), e (d + 21) (by omega) (by omega), e (d + 22) (by omega) (by omega), e (d + 12) (by omega) (by omega), e (d + 13) (by omega) (by omega), e (d + 14) (by omega) (by omega), e (d + 16) (by omega) (by omega)]
  exact H
theorem jand_1 (x : Int) : jand x 1 = 0 ∨ jand x 1 = 1 := by
  unfold jand
  show ((Int32.ofInt x &&& Int32.ofInt 1).toBitVec).toInt = 0 ∨ ((Int32.ofInt x &&& Int32.ofInt 1).toBitVec).toInt = 1
  rw [Int32.toBitVec_and, show (Int32.ofInt 1).toBitVec = 1#32 from rfl, BitVec.and_one_eq_setWidth_ofBool_getLsbD]
  cases (Int32.ofInt x).toBitVec.getLsbD 0
  · exact Or.inl (by decide)
  · exact Or.inr (by decide)
theorem zPr_iff {Z : Int → Int} {a b : Int} : ∀ n : Nat, zPr Z a b n = true ↔ ∃ k : Int, 0 ≤ k ∧ k < n ∧ Z (26 + 2 * k) = a ∧ Z (27 + 2 * k) = b
  | 0 => ⟨fun q => (Bool.false_ne_true q).elim, fun ⟨k, a, b, _⟩ => by omega⟩
  | n + 1 => by
    have es : zPr Z a b (n + 1) = (zPr Z a b n || decide (Z (26 + 2 * (n : Int)) = a ∧ Z (27 + 2 * (n : Int)) = b)) := rfl
    rw [es, Bool.or_eq_true, zPr_iff n]
    constructor
    · rintro (⟨k, q1, q2, q3⟩ | q)
      · exact ⟨k, q1, by omega, q3⟩
      · exact ⟨n, by omega, by omega, of_decide_eq_true q⟩
    · rintro ⟨k, q1, q2, q3⟩
      by_cases hk : k < n
      · exact Or.inl ⟨k, q1, hk, q3⟩
      · have : k = n := by omega
        subst this
        exact Or.inr (decide_eq_true q3)
theorem zP_iff {Z : Int → Int} (H : ZD Z) {a b : Int} : zP Z a b = true ↔ ∃ k, 0 ≤ k ∧ k < Z 25 ∧ Z (26 + 2 * k) = a ∧ Z (27 + 2 * k) = b := by
  have := zd_m H
  unfold zP
  rw [zPr_iff]
  constructor
  · rintro ⟨k, q1, q2, q3⟩; exact ⟨k, q1, by omega, q3⟩
  · rintro ⟨k, q1, q2, q3⟩; exact ⟨k, q1, by omega, q3⟩
/-- a room like the row: the data of a day -/
theorem Dat_of {d : Nat} {h : Hp} {z : Nat} (hR : RR (d + 10) z h) (hZ : Zz z h) : Dat d (fun i => i) (h z 24) (h z) 0 (h z 7) (h z 5) h := by
  obtain ⟨c1, c2, c3, ⟨c4, c4'⟩, ⟨c5, c5'⟩, c6⟩ := hR
  have hD : ZD (h z) := by
    have : Zz 81 (fun _ => h z) := by
      unfold Zz ZS ZN ZP ZG ZH ZW at hZ ⊢
      exact hZ
    exact this
  have k0 : ∀ p, zK (h z) 0 p = zkd (h z) p := fun p => by unfold zK; rw [if_neg (fun q => q.1 rfl)]
  refine ⟨zd_n hD, c4, fun i i0 i1 => ?_, fun i j a b c => b, ⟨c1 0 (by omega) (by omega), c1 1 (by omega) (by omega), c1 2 (by omega) (by omega), c1 3 (by omega) (by omega), c1 4 (by omega) (by omega), c1 6 (by omega) (by omega), c1 5 (by omega) (by omega), c1 7 (by omega) (by omega)⟩, c2, c3, fun a b a0 a1 b0 b1 => ?_⟩
  · obtain ⟨y1, y2, y3, y4⟩ := c4' i i0 i1
    rw [k0]
    exact ⟨⟨i0, i1⟩, y1, y2, y3, fun _ => y4⟩
  · rw [zP_iff hD]
    exact (c5' a a0 a1).2.2 b b0 b1
section DC
variable {d : Nat} {io : Int → Int} {n : Int} {Z : Int → Int} {pl ru th : Int} {h : Hp}
theorem io_lt (H : Dat d io n Z pl ru th h) {i j : Int} (i0 : 0 ≤ i) (i1 : i < n) (j0 : 0 ≤ j) (j1 : j < n) : (io i < io j ↔ i < j) ∧ (io i = io j ↔ i = j) := by
  have m := H.2.2.2.1
  by_cases c1 : i < j
  · have := m i j i0 c1 j1; exact ⟨⟨fun _ => c1, fun _ => this⟩, ⟨fun q => by omega, fun q => by omega⟩⟩
  · by_cases c2 : i = j
    · subst c2; exact ⟨⟨fun q => by omega, fun q => by omega⟩, ⟨fun _ => rfl, fun _ => rfl⟩⟩
    · have := m j i j0 (by omega) i1; exact ⟨⟨fun q => by omega, fun q => by omega⟩, ⟨fun q => by omega, fun q => by omega⟩⟩
theorem s_goOver (hd : d = 1 ∨ d = 27) (H : Dat d io n Z pl ru th h) {a b : Int} (ra : 0 ≤ a ∧ a < 6) (rb : 0 ≤ b ∧ b < 6) : X (166, 0, [aR (d + 15), aI a, aI b], [], h) = some (some (bi (zP Z a b)), h) := by
  have q : jand (jshr (h (d + 16) a) b) 1 = 1 ↔ zP Z a b = true := H.2.2.2.2.2.2.2 a b ra.1 ra.2 rb.1 rb.2
  have e := e166_0 (d := d + 15) (by omega) a b h
  rw [show d + 15 + 1 = d + 16 by omega, inb_t ra.1 ra.2 (by omega), cond_t, wr_id (x := a) (by omega) (by omega)] at e
  rw [e]
  rcases jand_1 (jshr (h (d + 16) a) b) with z | z
  · rw [z, wr_0, cd_t rfl]
    cases hb : zP Z a b
    · rfl
    · rw [hb] at q; have := q.mpr rfl; omega
  · rw [z, wr_1, cd_f (by decide), q.mp z]
    rfl
theorem s_isOut (hd : d = 1 ∨ d = 27) (hZ : ZD Z) (H : Dat d io n Z pl ru th h) {i m : Int} (i0 : 0 ≤ i) (i1 : i < n) (m0 : 0 ≤ m ∧ m < 240) : X (141, 0, [aR d, aI i, aI m, aN], [], h) = some (some (bi (zOut Z pl (io i) m)), h) := by
  obtain ⟨y0, y1, y2, y3, y4⟩ := H.2.2.1 i i0 i1
  have hn := H.1
  have hr := zd_row hZ y0.1 y0.2
  have hk := zK_r hZ (pl := pl) y0.1 y0.2
  rw [e141_0 hd, inb_t i0 (by omega) (by omega), cond_t, cond_t, wr_id (x := i) (by omega) (by omega), y2, wr_id (x := zK Z pl (io i)) (by omega) (by omega), y1, wr_id (x := m - zmn Z (io i) - 5) (by omega) (by omega)]
  unfold zOut
  by_cases z : zK Z pl (io i) = 3
  · rw [cd_f (by omega), y4 (by omega), wr_id (x := znu Z (io i)) (by omega) (by omega)]
    by_cases y : m - zmn Z (io i) - 5 < 0
    · rw [cd_t y, decide_eq_false (by omega)]; rfl
    · rw [cd_f y, cond_t]
      by_cases x : znu Z (io i) ≤ m - zmn Z (io i) - 5
      · rw [cd_t x, decide_eq_false (by omega)]; rfl
      · rw [cd_f x, decide_eq_true (by omega)]; rfl
  · rw [cd_t z, decide_eq_false (fun x => z x.1)]; rfl
theorem s_waitsFor (hd : d = 1 ∨ d = 27) (hZ : ZD Z) (H : Dat d io n Z pl ru th h) {fate : Int → Int} {i c m : Int} (i0 : 0 ≤ i) (i1 : i < n) (c0 : 0 ≤ c ∧ c < 3) (m0 : 0 ≤ m ∧ m < 240) (hf : h (d + 1) i = fate (io i)) (hf2 : 0 ≤ fate (io i) ∧ fate (io i) ≤ 4) : X (140, 0, [aR d, aI i, aI c, aI m], [], h) = some (some (bi (zWF Z pl fate (io i) c m)), h) := by
  obtain ⟨y0, y1, y2, y3, y4⟩ := H.2.2.1 i i0 i1
  have hn := H.1
  have hr := zd_row hZ y0.1 y0.2
  have hk := zK_r hZ (pl := pl) y0.1 y0.2
  rw [e140_0 hd, inb_t i0 (by omega) (by omega), cond_t, wr_id (x := i) (by omega) (by omega), hf, wr_id (x := fate (io i)) (by omega) (by omega)]
  unfold zWF
  by_cases z : fate (io i) = 4
  · rw [cd_f (by omega), decide_eq_true z, Bool.true_and, s_isOut hd hZ H i0 i1 m0, bI_some, d_bi0]
    cases zOut Z pl (io i) m
    · rw [Bool.not_false, cond_t, cond_t, y2, wr_id (x := zK Z pl (io i)) (by omega) (by omega), Bool.true_and]
      by_cases y : zK Z pl (io i) = 1
      · rw [cd_f (by omega), cond_t, y4 (by omega), wr_id (x := znu Z (io i)) (by omega) (by omega), wr_id (x := c) (by omega) (by omega)]
        by_cases x : znu Z (io i) = c
        · rw [cd_f (by omega), decide_eq_true (Or.inr x)]; rfl
        · rw [cd_t x, decide_eq_false (by omega)]; rfl
      · rw [cd_t y, decide_eq_true (Or.inl y)]; rfl
    · rw [Bool.not_true, cond_f]; rfl
  · rw [cd_t z, decide_eq_false z]; rfl
theorem s_lengthOf (hd : d = 1 ∨ d = 27) (hZ : ZD Z) (H : Dat d io n Z pl ru th h) {i c : Int} (i0 : 0 ≤ i) (i1 : i < n) (c0 : 0 ≤ c ∧ c < 3) (hh : h (d + 6) i = zSz Z (io i)) : X (143, 0, [aR d, aI i, aI c, aN, aN], [], h) = some (some (zLn Z pl (io i) c), h) := by
  obtain ⟨y0, y1, y2, y3, y4⟩ := H.2.2.1 i i0 i1
  have hn := H.1
  have hr := zd_row hZ y0.1 y0.2
  have hk := zK_r hZ (pl := pl) y0.1 y0.2
  have ne := H.2.2.2.2.2.1 (c * 4 + zso Z (io i)) (by omega) (by omega)
  rw [show 8 + (c * 4 + zso Z (io i)) = 8 + 4 * c + zso Z (io i) by omega] at ne
  rw [e143_0 hd, wr_id (x := i) (by omega) (by omega), y3, inb_t i0 (by omega) (by omega), cond_t, inb_t (by omega) (by omega) (by omega), cond_t, cond_t, cond_t, cond_t, y2, wr_id (x := zK Z pl (io i)) (by omega) (by omega), wr_id (x := c * 4 + zso Z (io i)) (by omega) (by omega), ne, hh, H.2.2.2.2.1.2.2.2.2.1]
  unfold zLn
  by_cases z : zK Z pl (io i) = 1
  · rw [cd_f (by omega), if_pos z]
  · rw [cd_t z, if_neg z]
theorem s_goesBefore (hd : d = 1 ∨ d = 27) (hZ : ZD Z) (H : Dat d io n Z pl ru th h) {i j c r m : Int} (i0 : 0 ≤ i) (i1 : i < n) (j0 : 0 ≤ j) (j1 : j < n) (c0 : 0 ≤ c ∧ c < 3) (hr : 0 ≤ r ∧ r ≤ 2) (hi : h (d + 6) i = zSz Z (io i)) (hj : h (d + 6) j = zSz Z (io j)) (pi : h (d + 7) i = zPl Z pl (io i) m) (pj : h (d + 7) j = zPl Z pl (io j) m) : X (142, 0, [aR d, aI i, aI j, aI c, aI r, aN, aN, aN], [], h) = some (some (bi (zGB Z pl r (io i) (io j) c m)), h) := by
  obtain ⟨y0, y1, y2, y3, y4⟩ := H.2.2.1 i i0 i1
  obtain ⟨x0, x1, x2, x3, x4⟩ := H.2.2.1 j j0 j1
  have hn := H.1
  have ki := zK_r hZ (pl := pl) y0.1 y0.2
  have kj := zK_r hZ (pl := pl) x0.1 x0.2
  have ri := zPl_r hZ (pl := pl) (m := m) y0.1 y0.2
  have rj := zPl_r hZ (pl := pl) (m := m) x0.1 x0.2
  have li := zLn_r hZ (pl := pl) y0.1 y0.2 c0
  have lj := zLn_r hZ (pl := pl) x0.1 x0.2 c0
  have im := io_lt H i0 i1 j0 j1
  have fst : cond (decide (zPl Z pl (io i) m < zPl Z pl (io j) m)) (some (some 1, h)) (cond (decide (zPl Z pl (io i) m ≠ zPl Z pl (io j) m)) (some (some 0, h)) (cond (decide (j ≤ i)) (some (some 0, h)) (some (some 1, h)))) = (some (some (bi (zFst Z pl (io i) (io j) m)), h) : Res) := by
    unfold zFst
    by_cases z : zPl Z pl (io i) m < zPl Z pl (io j) m
    · rw [cd_t z, decide_eq_true (Or.inl z)]; rfl
    · rw [cd_f z]
      by_cases y : zPl Z pl (io i) m = zPl Z pl (io j) m
      · rw [cd_f (by omega)]
        by_cases x : i < j
        · rw [cd_f (by omega), decide_eq_true (Or.inr ⟨y, im.1.mpr x⟩)]; rfl
        · rw [cd_t (by omega), decide_eq_false (fun q => by have := im.1.mp (q.resolve_left z).2; omega)]; rfl
      · rw [cd_t y, decide_eq_false (by omega)]; rfl
  rw [e142_0 hd, wr_id (x := r) (by omega) (by omega), inb_t i0 (by omega) (by omega), inb_t j0 (by omega) (by omega), wr_id (x := i) (by omega) (by omega), wr_id (x := j) (by omega) (by omega), pi, pj, wr_id (x := zPl Z pl (io i) m) (by omega) (by omega), wr_id (x := zPl Z pl (io j) m) (by omega) (by omega)]
  simp only [cond_t]
  rw [fst, y2, x2]
  unfold zGB
  by_cases z : r = 1
  · rw [cd_f (by omega), if_pos z, s_goOver hd H ki kj, bI_some, s_goOver hd H kj ki, bI_some, wr_bi, wr_bi, bz_bi, cond_t, pi, pj, wr_id (x := zPl Z pl (io i) m) (by omega) (by omega), wr_id (x := zPl Z pl (io j) m) (by omega) (by omega), fst]
    cases zP Z (zK Z pl (io i)) (zK Z pl (io j)) <;> cases zP Z (zK Z pl (io j)) (zK Z pl (io i)) <;> rfl
  · rw [cd_t z, if_neg z]
    by_cases y : r = 2
    · rw [cd_f (by omega), s_lengthOf hd hZ H i0 i1 c0 hi, bI_some, s_lengthOf hd hZ H j0 j1 c0 hj, bI_some, wr_id (x := zLn Z pl (io i) c - zLn Z pl (io j) c) (by omega) (by omega), pi, pj, wr_id (x := zPl Z pl (io i) m) (by omega) (by omega), wr_id (x := zPl Z pl (io j) m) (by omega) (by omega), fst]
      by_cases x : zLn Z pl (io i) c = zLn Z pl (io j) c
      · rw [cd_t (by omega), if_neg (fun q => q.2 x)]
      · rw [cd_f (by omega), if_pos ⟨y, x⟩]
        by_cases w : 0 ≤ zLn Z pl (io i) c - zLn Z pl (io j) c
        · rw [cd_t w, decide_eq_false (by omega)]; rfl
        · rw [cd_f w, decide_eq_true (by omega)]; rfl
    · rw [cd_t y, if_neg (fun q => y q.1)]
end DC
