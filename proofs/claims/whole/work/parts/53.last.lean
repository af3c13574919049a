/-! last -/
theorem cpy_at (h : Hp) (p q : Nat) (sp dp n j : Int) : cpy h p q sp dp n q j = if dp ≤ j ∧ j < dp + n then h p (sp + (j - dp)) else h q j := by
  unfold cpy
  by_cases c : dp ≤ j ∧ j < dp + n
  · rw [if_pos c, if_pos ⟨rfl, c.1, c.2⟩]
  · rw [if_neg c, if_neg (fun z => c ⟨z.2.1, z.2.2⟩)]
theorem s_remove {d : Nat} (hd : d = 19 ∨ d = 45 ∨ d = 61) {i n : Int} {h : Hp} (h4 : h d 4 = n) (i0 : 0 ≤ i) (i1 : i < n) (n12 : n ≤ 12) : ∃ g, X (157, 0, [aR d, aI i, aN], [], h) = some (none, g) ∧ (∀ p, (p < d ∨ d + 4 < p) → g p = h p) ∧ (∀ j, j ≠ 4 → g d j = h d j) ∧ g d 4 = n - 1 ∧ ∀ k, 1 ≤ k → k ≤ 4 → ∀ j, 0 ≤ j → j < n - 1 → g (d + k) j = if j < i then h (d + k) j else h (d + k) (j + 1) := by
  have cb : cpB 12 12 (i + 1) i (n - 1 - i) = true := by
    unfold cpB
    rw [wr_id (x := i + 1) (by omega) (by omega), wr_id (x := i) (by omega) (by omega), wr_id (x := n - 1 - i) (by omega) (by omega)]
    exact decide_eq_true (by omega)
  have e := e157_0 hd i h
  rw [h4, cb, wr_id (x := i + 1) (by omega) (by omega), wr_id (x := i) (by omega) (by omega), wr_id (x := n - 1 - i) (by omega) (by omega)] at e
  simp only [cond_t] at e
  have o : ∀ (x : Hp) (q r : Nat), r ≠ q → cpy x q q (i + 1) i (n - 1 - i) r = x r := fun x q r hr => cpy_o _ _ _ _ hr
  have at' : ∀ (x : Hp) (q : Nat) (j : Int), 0 ≤ j → j < n - 1 → cpy x q q (i + 1) i (n - 1 - i) q j = if j < i then x q j else x q (j + 1) := fun x q j j0 j1 => by
    rw [cpy_at]
    by_cases c : j < i
    · rw [if_neg (by omega), if_pos c]
    · rw [if_pos (by omega), if_neg c, show i + 1 + (j - i) = j + 1 by omega]
  refine ⟨_, e, fun p hp => ?_, fun j hj => ?_, ?_, fun k k1 k4 j j0 j1 => ?_⟩
  · rw [up_n _ _ _ (by omega), o _ _ _ (by omega), o _ _ _ (by omega), o _ _ _ (by omega), o _ _ _ (by omega)]
  · rw [up_o _ _ _ hj, o _ _ _ (by omega), o _ _ _ (by omega), o _ _ _ (by omega), o _ _ _ (by omega)]
  · rw [up_s, o _ _ _ (by omega), o _ _ _ (by omega), o _ _ _ (by omega), o _ _ _ (by omega), h4]
  · rw [up_n _ _ _ (by omega)]
    have : k = 1 ∨ k = 2 ∨ k = 3 ∨ k = 4 := by omega
    rcases this with rfl | rfl | rfl | rfl
    · rw [o _ _ _ (by omega), o _ _ _ (by omega), o _ _ _ (by omega), at' _ _ _ j0 j1]
    · rw [o _ _ _ (by omega), o _ _ _ (by omega), at' _ _ _ j0 j1, o _ _ _ (by omega)]
    · rw [o _ _ _ (by omega), at' _ _ _ j0 j1, o _ _ _ (by omega), o _ _ _ (by omega)]
    · rw [at' _ _ _ j0 j1, o _ _ _ (by omega), o _ _ _ (by omega), o _ _ _ (by omega)]
theorem Dat_remove {io : Int → Int} {n : Int} {Z : Int → Int} {pl ru th i : Int} {h g : Hp} (D : Dat 27 io n Z pl ru th h) (i0 : 0 ≤ i) (i1 : i < n) (f : ∀ p, (p < 45 ∨ 49 < p) → g p = h p) (g4 : g 45 4 = n - 1) (H : ∀ k, 1 ≤ k → k ≤ 4 → ∀ j, 0 ≤ j → j < n - 1 → g (45 + k) j = if j < i then h (45 + k) j else h (45 + k) (j + 1)) : Dat 27 (fun j => if j < i then io j else io (j + 1)) (n - 1) Z pl ru th g := by
  obtain ⟨a1, a2, a3, a4, a5, a6, a7, a8⟩ := D
  refine ⟨by omega, g4, fun j j0 j1 => ?_, fun a b b0 b1 b2 => ?_, ?_, ?_, ?_, ?_⟩
  · have q1 := H 1 (by omega) (by omega) j j0 j1
    have q2 := H 2 (by omega) (by omega) j j0 j1
    have q3 := H 3 (by omega) (by omega) j j0 j1
    have q4 := H 4 (by omega) (by omega) j j0 j1
    show (0 ≤ (if j < i then io j else io (j + 1)) ∧ (if j < i then io j else io (j + 1)) < Z 24) ∧ g (45 + 1) j = zmn Z (if j < i then io j else io (j + 1)) ∧ g (45 + 2) j = zK Z pl (if j < i then io j else io (j + 1)) ∧ g (45 + 3) j = zso Z (if j < i then io j else io (j + 1)) ∧ (zK Z pl (if j < i then io j else io (j + 1)) ≠ 0 → g (45 + 4) j = znu Z (if j < i then io j else io (j + 1)))
    rw [q1, q2, q3, q4]
    by_cases c : j < i
    · rw [if_pos c, if_pos c, if_pos c, if_pos c, if_pos c]; exact a3 j j0 (by omega)
    · rw [if_neg c, if_neg c, if_neg c, if_neg c, if_neg c]; exact a3 (j + 1) (by omega) (by omega)
  · show (if a < i then io a else io (a + 1)) < (if b < i then io b else io (b + 1))
    by_cases c : a < i
    · rw [if_pos c]
      by_cases e : b < i
      · rw [if_pos e]; exact a4 a b b0 b1 (by omega)
      · rw [if_neg e]; exact a4 a (b + 1) b0 (by omega) (by omega)
    · rw [if_neg c, if_neg (by omega)]; exact a4 (a + 1) (b + 1) (by omega) (by omega) (by omega)
  · rw [f (27 + 12) (by decide)]; exact a5
  · rw [f (27 + 13) (by decide)]; exact a6
  · rw [f (27 + 14) (by decide)]; exact a7
  · rw [f (27 + 16) (by decide)]; exact a8
/-- the other room holds, told in order, those who come before s -/
def KB (Z : Int → Int) (s : Int) (io : Int → Int) (n : Int) (g : Hp) : Prop := Dat 27 io n Z 0 (Z 7) (Z 5) g ∧ (∀ p, 0 ≤ p → p < Z 24 → zmn Z p < s → ∃ i, 0 ≤ i ∧ i < n ∧ io i = p) ∧ (∀ i, 0 ≤ i → i < n → zmn Z (io i) < s)
theorem s_keepL {Z : Int → Int} {s : Int} (hZ : ZD Z) (s0 : 0 ≤ s ∧ s ≤ 240) : ∀ (k : Nat) (io : Int → Int) (n : Int) (h : Hp), (k : Int) ≤ n → Dat 27 io n Z 0 (Z 7) (Z 5) h → (∀ p, 0 ≤ p → p < Z 24 → zmn Z p < s → ∃ i, 0 ≤ i ∧ i < n ∧ io i = p) → (∀ i, (k : Int) ≤ i → i < n → zmn Z (io i) < s) → ∃ g io' n', X (161, 7, [aR 45, aI s, aI ((k : Int) - 1)], [], h) = some (none, g) ∧ (∀ p, (p < 45 ∨ 49 < p) → g p = h p) ∧ KB Z s io' n' g ∧ n' ≤ n ∧ ((∃ i, 0 ≤ i ∧ i < (k : Int) ∧ s ≤ zmn Z (io i)) → n' < n)
  | 0, io, n, h, hk, D, C, T => by
    refine ⟨h, io, n, ?_, fun p _ => rfl, ⟨D, C, fun i i0 i1 => T i (by omega) i1⟩, by omega, fun ⟨i, a, b, _⟩ => by omega⟩
    rw [e161_7 (by decide), cd_t (by decide)]
  | k + 1, io, n, h, hk, D, C, T => by
    have hn := D.1
    have y := D.2.2.1 k (by omega) (by omega)
    have r := (zd_row hZ y.1.1 y.1.2).1
    rw [show ((k + 1 : Nat) : Int) - 1 = (k : Int) by omega, e161_7 (by decide), wr_id (x := (k : Int)) (by omega) (by omega), cd_f (by omega), inb_t (by omega) (by omega) (by omega), cond_t, show h (45 + 1) (k : Int) = zmn Z (io k) from y.2.1, wr_id (x := zmn Z (io k)) (by omega) (by omega), wr_id (x := s) (by omega) (by omega), show (k : Int) + (-1) = (k : Int) - 1 by omega]
    by_cases c : zmn Z (io k) < s
    · rw [cd_t c]
      obtain ⟨g, io', n', g1, g2, g3, g4, g5⟩ := s_keepL hZ s0 k io n h (by omega) D C (fun i i0 i1 => by
        by_cases e : i = k
        · rw [e]; exact c
        · exact T i (by omega) i1)
      refine ⟨g, io', n', g1, g2, g3, g4, fun ⟨i, a, b, z⟩ => g5 ⟨i, a, ?_, z⟩⟩
      by_cases e : i = k
      · rw [e] at z; omega
      · omega
    · rw [cd_f c]
      obtain ⟨g1, q1, q2, q3, q4, q5⟩ := s_remove (d := 45) (by decide) (h := h) (i := (k : Int)) (n := n) D.2.1 (by omega) (by omega) hn.2
      have D2 := Dat_remove D (i := (k : Int)) (by omega) (by omega) (fun p hp => q2 p (by omega)) q4 q5
      rw [q1, bV_some]
      obtain ⟨g, io', n', g1', g2, g3, g4, g5⟩ := s_keepL hZ s0 k _ (n - 1) g1 (by omega) D2 (fun p p0 p1 p2 => by
        obtain ⟨i, i0, i1, i2⟩ := C p p0 p1 p2
        by_cases e : i < k
        · exact ⟨i, i0, by omega, by show (if i < (k : Int) then io i else io (i + 1)) = p; rw [if_pos e]; exact i2⟩
        · have ne : i ≠ k := fun z => by rw [z] at i2; rw [i2] at c; exact c p2
          exact ⟨i - 1, by omega, by omega, by show (if i - 1 < (k : Int) then io (i - 1) else io (i - 1 + 1)) = p; rw [if_neg (by omega), show i - 1 + 1 = i by omega]; exact i2⟩) (fun i i0 i1 => by
        show zmn Z (if i < (k : Int) then io i else io (i + 1)) < s
        rw [if_neg (by omega)]
        exact T (i + 1) (by omega) (by omega))
      exact ⟨g, io', n', g1', fun p hp => by rw [g2 p hp, q2 p (by omega)], g3, by omega, fun _ => by omega⟩
theorem mx_at {f : Int → Int} : ∀ (k : Nat), (∀ p : Int, 0 ≤ p → p < k → 0 ≤ f p) → (∀ p : Int, 0 ≤ p → p < k → f p ≤ mx f k) ∧ (0 < k → ∃ p : Int, 0 ≤ p ∧ p < k ∧ mx f k = f p)
  | 0, _ => ⟨fun p a b => by omega, fun a => by omega⟩
  | k + 1, h => by
    obtain ⟨a, b⟩ := mx_at k (fun p x y => h p x (by omega))
    have hk := h k (by omega) (by omega)
    have e : mx f (k + 1) = if mx f k < f k then f k else mx f k := rfl
    refine ⟨fun p p0 p1 => ?_, fun _ => ?_⟩
    · rw [e]
      by_cases c : p = k
      · rw [c]; split <;> omega
      · have := a p p0 (by omega)
        split <;> omega
    · rw [e]
      by_cases c : mx f k < f k
      · rw [if_pos c]; exact ⟨k, by omega, by omega, rfl⟩
      · rw [if_neg c]
        by_cases z : 0 < k
        · obtain ⟨p, p0, p1, p2⟩ := b z
          exact ⟨p, p0, by omega, p2⟩
        · have : k = 0 := by omega
          subst this
          have m0 : mx f 0 = 0 := rfl
          exact ⟨0, by omega, by omega, by rw [m0] at c ⊢; have hk : 0 ≤ f 0 := hk; have c : ¬ 0 < f 0 := c; omega⟩
theorem s_lateL {n : Int} {h : Hp} (hn : 0 ≤ n ∧ n ≤ 12) (h4 : h 45 4 = n) (hr : ∀ i : Int, 0 ≤ i → i < n → 0 ≤ h 46 i ∧ h 46 i ≤ 240) : ∀ (k q : Nat), (q : Int) + k = n → X (160, 4, [aR 45, aI (mx (fun i => h 46 i) q), aI q], [], h) = some (some (mx (fun i => h 46 i) (q + k)), h)
  | 0, q, hk => by
    rw [e160_4 (by decide), h4, wr_id (x := n) (by omega) (by omega), wr_id (x := (q : Int)) (by omega) (by omega), cd_t (by omega)]; rfl
  | k + 1, q, hk => by
    have ih := s_lateL hn h4 hr k (q + 1) (by omega)
    have es : mx (fun i => h 46 i) (q + 1) = if mx (fun i => h 46 i) q < h 46 q then h 46 q else mx (fun i => h 46 i) q := rfl
    rw [show q + 1 + k = q + (k + 1) by omega, es, show ((q + 1 : Nat) : Int) = (q : Int) + 1 by omega] at ih
    have r := hr q (by omega) (by omega)
    have b := mx_r (f := fun i => h 46 i) (B := 240) (by omega) q (fun p p0 p1 => hr p p0 (by omega))
    rw [e160_4 (by decide), h4, wr_id (x := n) (by omega) (by omega), wr_id (x := (q : Int)) (by omega) (by omega), cd_f (by omega), inb_t (by omega) (by omega) (by omega), cond_t, show h (45 + 1) (q : Int) = h 46 q from rfl]
    unfold jmax
    rw [wr_id (x := mx (fun i => h 46 i) q) (by omega) (by omega), wr_id (x := h 46 (q : Int)) (by omega) (by omega)]
    exact ih
/-- whether one has gone by t, told of what the reference holds -/
def ov (gm : Hp) (t p : Int) : Prop := ¬ (gm 84 p = 3 ∧ t < gm 86 p + gm 88 p) ∧ gm 84 p ≠ 4
theorem s_overL {io : Int → Int} {n t : Int} {Z : Int → Int} {gc gm : Hp} (hn : 0 ≤ n ∧ n ≤ 12) (t0 : 1 ≤ t ∧ t < 240) (h4 : gc 45 4 = n) (hio : ∀ i, 0 ≤ i → i < n → 0 ≤ io i ∧ io i < Z 24) (hr : ∀ p, 0 ≤ p → p < Z 24 → 0 ≤ zmn Z p ∧ zmn Z p < 240) (E : End 27 io n Z gc gm) : ∀ (k : Nat) (q : Int) (w : AV), 0 ≤ q → q + k = n → ∃ b, X (150, 2, [aR 27, aI t, aI q, w], [], gc) = some (some (bi b), gc) ∧ (b = true ↔ ∀ i, q ≤ i → i < n → ov gm t (io i))
  | 0, q, w, q0, hk => by
    refine ⟨true, ?_, ⟨fun _ i i0 i1 => by omega, fun _ => rfl⟩⟩
    rw [e150_2 (by decide), show gc (27 + 18) 4 = n from h4, wr_id (x := n) (by omega) (by omega), wr_id (x := q) (by omega) (by omega), cd_t (by omega)]; rfl
  | k + 1, q, w, q0, hk => by
    obtain ⟨x1, x2, x3, x4, x5, x6⟩ := E.1 q q0 (by omega)
    have hq := hio q q0 (by omega)
    obtain ⟨f, o3, -⟩ := E.2.2.1.1 (io q) hq.1 hq.2
    have hz := hr (io q) hq.1 hq.2
    have ih : ∀ w, ∃ b, X (150, 2, [aR 27, aI t, aI (q + 1), w], [], gc) = some (some (bi b), gc) ∧ (b = true ↔ ∀ i, q + 1 ≤ i → i < n → ov gm t (io i)) := fun w => s_overL hn t0 h4 hio hr E k (q + 1) w (by omega) (by omega)
    have go : ov gm t (io q) → ∀ w, ∃ b, X (150, 2, [aR 27, aI t, aI (q + 1), w], [], gc) = some (some (bi b), gc) ∧ (b = true ↔ ∀ i, q ≤ i → i < n → ov gm t (io i)) := fun hv w => by
      obtain ⟨b, b1, b2⟩ := ih w
      refine ⟨b, b1, b2.trans ⟨fun z i i0 i1 => ?_, fun z i i0 i1 => z i (by omega) i1⟩⟩
      by_cases e : i = q
      · rw [e]; exact hv
      · exact z i (by omega) i1
    have no : ¬ ov gm t (io q) → ∃ b, some (some (0 : Int), gc) = some (some (bi b), gc) ∧ (b = true ↔ ∀ i, q ≤ i → i < n → ov gm t (io i)) := fun hv =>
      ⟨false, rfl, ⟨fun z => absurd z (by decide), fun z => absurd (z q (by omega) (by omega)) hv⟩⟩
    rw [e150_2 (by decide), show gc (27 + 18) 4 = n from h4, wr_id (x := n) (by omega) (by omega), wr_id (x := q) (by omega) (by omega), cd_f (by omega), inb_t q0 (by omega) (by omega), show gc (27 + 1) q = gm 84 (io q) from x1, wr_id (x := gm 84 (io q)) (by omega) (by omega)]
    simp only [cond_t]
    by_cases c3 : gm 84 (io q) ≠ 3
    · rw [cd_t c3]
      by_cases c4 : gm 84 (io q) ≠ 4
      · rw [cd_t c4]
        exact go ⟨fun z => c3 z.1, c4⟩ _
      · rw [cd_f c4]
        exact no (fun z => c4 z.2)
    · have c3' : gm 84 (io q) = 3 := by omega
      have o3 := o3 c3'
      rw [cd_f c3, show gc (27 + 3) q = gm 86 (io q) from x3, show gc (27 + 5) q = gm 88 (io q) from x6 c3', wr_id (x := gm 86 (io q) + gm 88 (io q)) (by omega) (by omega), wr_id (x := t) (by omega) (by omega)]
      by_cases c : gm 86 (io q) + gm 88 (io q) ≤ t
      · rw [cd_t c, cd_t (by omega)]
        exact go ⟨fun z => by omega, by omega⟩ _
      · rw [cd_f c]
        exact no (fun z => z.1 ⟨c3', by omega⟩)
theorem MP_shut {h : Hp} {Z : Int → Int} {pl ru th sh nv : Int} (M : MP h Z pl ru th sh nv) (t : Int) : MP (up h 80 9 t) Z pl ru th t nv := by
  obtain ⟨a1, a2, a3, a4, a5, a6⟩ := M
  exact ⟨by rw [up_n _ _ _ (by decide)]; exact a1, by rw [up_o _ _ _ (by decide)]; exact a2, by rw [up_o _ _ _ (by decide)]; exact a3, by rw [up_o _ _ _ (by decide)]; exact a4, up_s _ _ _ _, by rw [up_o _ _ _ (by decide)]; exact a6⟩
/-- shut at s: whether all is over by t -/
def VS (Z : Int → Int) (t s : Int) (b : Bool) : Prop := ∀ hm, MP hm Z 0 (Z 7) (Z 5) s (-4) → ∃ gm, X (83, 0, [aR 80, aI 239, aN, aN], [], hm) = some (none, gm) ∧ FrM hm gm ∧ (∀ p, 0 ≤ p → p < Z 24 → (0 ≤ gm 84 p ∧ gm 84 p ≤ 4) ∧ (gm 84 p = 3 → (0 ≤ gm 86 p ∧ gm 86 p < 240) ∧ 1 ≤ gm 88 p ∧ gm 88 p ≤ 260)) ∧ (b = true ↔ ∀ p, 0 ≤ p → p < Z 24 → ov gm t p)
theorem sta_shut {Z : Int → Int} (hZ : ZD Z) {s : Int} (s0 : 0 ≤ s ∧ s ≤ 240) {io : Int → Int} {n : Int} {g : Hp} (K : KB Z s io n g) : Sta io n Z 0 (Z 7) (Z 5) s (-4) (-1) := by
  have hs := zd_s hZ
  exact ⟨hZ, Or.inl rfl, by omega, by omega, s0, by omega, by omega, fun c c0 c1 => by omega, K.2.1, K.2.2⟩
theorem verdict {Z : Int → Int} (hZ : ZD Z) {s t : Int} (s0 : 0 ≤ s ∧ s ≤ 240) (t0 : 1 ≤ t ∧ t < 240) {io : Int → Int} {n : Int} {g : Hp} (K : KB Z s io n g) : ∃ gc b, X (130, 0, [aR 27, aI (-1), aN], [], g) = some (none, gc) ∧ (∀ p, (p < 27 ∨ 36 < p) → gc p = g p) ∧ X (150, 0, [aR 27, aI t, aN, aN], [], gc) = some (some (bi b), gc) ∧ VS Z t s b := by
  have S := sta_shut hZ s0 K
  have M0 := mph_MP Z 0 (Z 7) (Z 5) s (-4)
  obtain ⟨gc, gm0, a1, a2, a3, a4, a5, a6, a7⟩ := day_both (d := 27) (Or.inr rfl) S M0 K.1
  have g45 : gc 45 4 = n := by rw [a3.1 45 (by omega)]; exact K.1.2.1
  obtain ⟨b, b1, b2⟩ := s_overL (n := n) (t := t) K.1.1 t0 g45 (fun i i0 i1 => (K.1.2.2.1 i i0 i1).1) (fun p p0 p1 => (zd_row hZ p0 p1).1) a5 n.toNat 0 aN (by omega) (by have := K.1.1; omega)
  refine ⟨gc, b, a1, fun p hp => a3.1 p (by omega), (e150_0 (by decide) t gc).trans b1, fun hm M => ?_⟩
  obtain ⟨gc', gm, c1, c2, c3, c4, c5, c6, c7⟩ := day_both (d := 27) (Or.inr rfl) S M K.1
  have eg : gc' = gc := res_inv (a1.symm.trans c1)
  subst eg
  refine ⟨gm, c2, c4, fun p p0 p1 => ?_, ?_⟩
  · obtain ⟨f, o3, -⟩ := c5.2.2.1.1 p p0 p1
    have hz := (zd_row hZ p0 p1).1
    exact ⟨f, fun z => by have := o3 z; omega⟩
  · obtain ⟨b', b1', b2'⟩ := s_overL (n := n) (t := t) K.1.1 t0 g45 (fun i i0 i1 => (K.1.2.2.1 i i0 i1).1) (fun p p0 p1 => (zd_row hZ p0 p1).1) c5 n.toNat 0 aN (by omega) (by have := K.1.1; omega)
    have eb : bi b' = bi b := res_inj (b1.symm.trans b1')
    have eb : b' = b := by
      cases b <;> cases b' <;> first | rfl | exact absurd eb (by decide)
    subst eb
    refine b2'.trans ⟨fun z p p0 p1 => ?_, fun z i i0 i1 => z _ (K.1.2.2.1 i i0 i1).1.1 (K.1.2.2.1 i i0 i1).1.2⟩
    by_cases c : gm 84 p = 0
    · exact ⟨fun y => by omega, by omega⟩
    · obtain ⟨i, i0, i1, i2⟩ := (c5.2.2.1.1 p p0 p1).2.2.2.2 c
      rw [← i2]
      exact z i i0 i1
theorem m_fours {N : Int} {h : Hp} (hn : 0 ≤ N ∧ N ≤ 12) (h4 : h 81 24 = N) (hr : ∀ i, 0 ≤ i → i < N → 0 ≤ h 84 i ∧ h 84 i ≤ 4) : ∃ r, X (87, 0, [aR 80, aI 4, aN, aN], [], h) = some (some r, h) ∧ (0 ≤ r ∧ r ≤ 12) ∧ (r = 0 ↔ ∀ p, 0 ≤ p → p < N → h 84 p ≠ 4) := by
  have q := m_fatesL (f := 4) (f' := 4) hn h4 (by decide) hr N.toNat 0 (by omega)
  rw [Nat.zero_add] at q
  have b := sm_r (f := fun i => if h 84 i = 4 then 1 else 0) (B := 1) N.toNat (fun p _ _ => by show 0 ≤ (if h 84 p = 4 then (1 : Int) else 0) ∧ _; split <;> omega)
  have ge := sm_ge (f := fun i => if h 84 i = 4 then 1 else 0) N.toNat (fun p _ _ => by show 0 ≤ (if h 84 p = 4 then (1 : Int) else 0); split <;> omega)
  refine ⟨_, (e87_0 4 h).trans q, by omega, fun z p p0 p1 e => ?_, fun z => sm_0 _ (fun p p0 p1 => if_neg (z p p0 (by omega)))⟩
  have := ge.2 p p0 (by omega)
  have : (if h 84 p = 4 then (1 : Int) else 0) ≤ _ := this
  rw [if_pos e] at this
  omega
theorem m_overL {N t s : Int} {h : Hp} (hn : 0 ≤ N ∧ N ≤ 12) (t0 : 1 ≤ t ∧ t < 240) (h4 : h 81 24 = N) (hr : ∀ p, 0 ≤ p → p < N → (0 ≤ h 84 p ∧ h 84 p ≤ 4) ∧ (h 84 p = 3 → (0 ≤ h 86 p ∧ h 86 p < 240) ∧ 1 ≤ h 88 p ∧ h 88 p ≤ 260)) : ∀ (k : Nat) (q : Int) (b : Bool), 0 ≤ q → q + k = N → ∃ b' : Bool, ∃ x : Int, X (97, 55, [aR 80, aI t, aI s, aI (bi b), aI q], [], h) = cond b' (some (some s, h)) (X (97, 22, [aR 80, aI t, aI (s + (-1)), aI (bi b'), aI x], [], h)) ∧ (b' = true ↔ b = true ∧ ∀ p, q ≤ p → p < N → ¬ (h 84 p = 3 ∧ t < h 86 p + h 88 p))
  | 0, q, b, q0, hk => by
    refine ⟨b, q, ?_, ⟨fun z => ⟨z, fun p p0 p1 => by omega⟩, fun z => z.1⟩⟩
    rw [e97_55, h4, wr_id (x := N) (by omega) (by omega), wr_id (x := q) (by omega) (by omega), cd_t (by omega)]
    cases b
    · rw [cd_t (by decide)]; rfl
    · rw [cd_f (by decide)]; rfl
  | k + 1, q, b, q0, hk => by
    have ih := fun b => m_overL (s := s) hn t0 h4 hr k (q + 1) b (by omega) (by omega)
    obtain ⟨r1, r2⟩ := hr q q0 (by omega)
    have i1 : inb 12 q = true := inb_t q0 (by omega) (by omega)
    rw [e97_55, h4, wr_id (x := N) (by omega) (by omega), wr_id (x := q) (by omega) (by omega), cd_f (by omega), i1]
    simp only [cond_t]
    have fls : ∃ b' : Bool, ∃ x : Int, X (97, 55, [aR 80, aI t, aI s, aI 0, aI (q + 1)], [], h) = cond b' (some (some s, h)) (X (97, 22, [aR 80, aI t, aI (s + (-1)), aI (bi b'), aI x], [], h)) ∧ b' = false := by
      obtain ⟨b', x, z1, z2⟩ := ih false
      refine ⟨b', x, z1, ?_⟩
      cases b'
      · rfl
      · exact absurd (z2.mp rfl).1 (by decide)
    cases b
    · rw [cd_t (by decide)]
      obtain ⟨b', x, z1, z2⟩ := fls
      refine ⟨b', x, z1, ?_⟩
      rw [z2]
      exact ⟨fun z => absurd z (by decide), fun z => absurd z.1 (by decide)⟩
    · rw [cd_f (by decide), wr_id (x := h 84 q) (by omega) (by omega)]
      have tru : ¬ (h 84 q = 3 ∧ t < h 86 q + h 88 q) → ∃ b' : Bool, ∃ x : Int, X (97, 55, [aR 80, aI t, aI s, aI 1, aI (q + 1)], [], h) = cond b' (some (some s, h)) (X (97, 22, [aR 80, aI t, aI (s + (-1)), aI (bi b'), aI x], [], h)) ∧ (b' = true ↔ true = true ∧ ∀ p, q ≤ p → p < N → ¬ (h 84 p = 3 ∧ t < h 86 p + h 88 p)) := fun no => by
        obtain ⟨b', x, z1, z2⟩ := ih true
        refine ⟨b', x, z1, z2.trans ⟨fun z => ⟨rfl, fun p p0 p1 => ?_⟩, fun z => ⟨rfl, fun p p0 p1 => z.2 p (by omega) p1⟩⟩⟩
        by_cases e : p = q
        · rw [e]; exact no
        · exact z.2 p (by omega) p1
      by_cases c3 : h 84 q ≠ 3
      · rw [cd_t c3]
        exact tru (fun z => c3 z.1)
      · have c3' : h 84 q = 3 := by omega
        have r2 := r2 c3'
        rw [cd_f c3, wr_id (x := t) (by omega) (by omega), wr_id (x := h 86 q + h 88 q) (by omega) (by omega)]
        by_cases c : t < h 86 q + h 88 q
        · rw [cd_t c]
          obtain ⟨b', x, z1, z2⟩ := fls
          refine ⟨b', x, z1, ?_⟩
          rw [z2]
          exact ⟨fun z => absurd z (by decide), fun z => absurd ⟨c3', c⟩ (z.2 q (by omega) (by omega))⟩
        · rw [cd_f c]
          exact tru (fun z => c z.2)
theorem m_shut {Z : Int → Int} (hZ : ZD Z) {s t sh : Int} (s1 : 1 ≤ s ∧ s ≤ 240) (t0 : 1 ≤ t ∧ t < 240) {b : Bool} (V : VS Z t s b) {hm : Hp} (M : MP hm Z 0 (Z 7) (Z 5) sh (-4)) (w3 w4 : AV) : ∃ gm, ∃ x : Int, X (97, 22, [aR 80, aI t, aI s, w3, w4], [], hm) = cond b (some (some s, gm)) (X (97, 22, [aR 80, aI t, aI (s + (-1)), aI (bi b), aI x], [], gm)) ∧ FrN hm gm ∧ MP gm Z 0 (Z 7) (Z 5) s (-4) := by
  have hn := zd_n hZ
  have M2 := MP_shut M s
  obtain ⟨gm, a1, a2, a3, a4⟩ := V _ M2
  have M3 := MP_fr a2 M2
  obtain ⟨r, r1, r2, r3⟩ := m_fours (N := Z 24) (h := gm) hn (by rw [M3.1]) (fun i i0 i1 => (a3 i i0 i1).1)
  have key : ∀ b0 : Bool, (b0 = true ↔ r = 0) → ∃ x : Int, X (97, 55, [aR 80, aI t, aI s, aI (bi b0), aI 0], [], gm) = cond b (some (some s, gm)) (X (97, 22, [aR 80, aI t, aI (s + (-1)), aI (bi b), aI x], [], gm)) := fun b0 hb => by
    obtain ⟨b', x, z1, z2⟩ := m_overL (N := Z 24) (s := s) hn t0 (by rw [M3.1]) a3 (Z 24).toNat 0 b0 (by omega) (by omega)
    have e : b' = b := by
      have q : b' = true ↔ b = true := by
        rw [z2, a4, hb, r3]
        exact ⟨fun z p p0 p1 => ⟨z.2 p p0 p1, z.1 p p0 p1⟩, fun z => ⟨fun p p0 p1 => (z p p0 p1).2, fun p p0 p1 => (z p p0 p1).1⟩⟩
      cases b <;> cases b' <;> first | rfl | exact absurd (q.mp rfl) (by decide) | exact absurd (q.mpr rfl) (by decide)
    subst e
    exact ⟨x, z1⟩
  have FN : FrN hm gm := FrN_t (FrN_up hm s (by decide)) (FrN_m a2)
  by_cases c : r = 0
  · obtain ⟨x, k1⟩ := key true ⟨fun _ => c, fun _ => rfl⟩
    refine ⟨gm, x, ?_, FN, M3⟩
    rw [e97_22, wr_id (x := s) (by omega) (by omega), cd_f (by omega), a1, bV_some, r1, bI_some, wr_id (x := r) (by omega) (by omega), cd_f (by omega)]
    exact k1
  · obtain ⟨x, k1⟩ := key false ⟨fun z => absurd z (by decide), fun z => absurd z c⟩
    refine ⟨gm, x, ?_, FN, M3⟩
    rw [e97_22, wr_id (x := s) (by omega) (by omega), cd_f (by omega), a1, bV_some, r1, bI_some, wr_id (x := r) (by omega) (by omega), cd_t c]
    exact k1
theorem m_skip {Z : Int → Int} (hZ : ZD Z) {t : Int} (t0 : 1 ≤ t ∧ t < 240) : ∀ (k : Nat) (s sh : Int) (hm : Hp) (w3 w4 : AV), 0 ≤ s - k → s ≤ 240 → (∀ x, s - k < x → x ≤ s → VS Z t x false) → MP hm Z 0 (Z 7) (Z 5) sh (-4) → ∃ gm sh' w3' w4', X (97, 22, [aR 80, aI t, aI s, w3, w4], [], hm) = X (97, 22, [aR 80, aI t, aI (s - k), w3', w4'], [], gm) ∧ FrN hm gm ∧ MP gm Z 0 (Z 7) (Z 5) sh' (-4)
  | 0, s, sh, hm, w3, w4, h0, h1, hV, M => ⟨hm, sh, w3, w4, by rw [show s - ((0 : Nat) : Int) = s by omega], ⟨fun _ _ => rfl, rfl, rfl⟩, M⟩
  | k + 1, s, sh, hm, w3, w4, h0, h1, hV, M => by
    obtain ⟨gm, x, a1, a2, a3⟩ := m_shut hZ (s := s) (by omega) t0 (hV s (by omega) (by omega)) M w3 w4
    rw [cond_f] at a1
    obtain ⟨gm2, sh', w3', w4', b1, b2, b3⟩ := m_skip hZ t0 k (s + (-1)) s gm (aI (bi false)) (aI x) (by omega) (by omega) (fun y y0 y1 => hV y (by omega) (by omega)) a3
    rw [show s + (-1) - (k : Int) = s - ((k + 1 : Nat) : Int) by omega] at b1
    exact ⟨gm2, sh', w3', w4', a1.trans b1, FrN_t a2 b2, b3⟩
theorem last_both {Z : Int → Int} (hZ : ZD Z) {t : Int} (t0 : 1 ≤ t ∧ t < 240) : ∀ (m : Nat) (s v3 : Int) (io : Int → Int) (n : Int) (g : Hp), 0 ≤ s → s ≤ 240 → KB Z s io n g → n ≤ m → 0 ≤ v3 → v3 + m ≤ 12 → ∃ gf r, X (19, 31, [aR 0, aI t, aI s, aI v3], [], g) = some (some r, gf) ∧ (∀ p, (p < 27 ∨ 52 < p) → gf p = g p) ∧ ∀ hm sh w3 w4, MP hm Z 0 (Z 7) (Z 5) sh (-4) → ∃ gm, X (97, 22, [aR 80, aI t, aI s, w3, w4], [], hm) = some (some r, gm) ∧ FrN hm gm
  | m, s, v3, io, n, g, s0, s1, K, hm, h0, h12 => by
    have hn := K.1.1
    obtain ⟨gc, b, a1, a2, a3, a4⟩ := verdict hZ ⟨s0, s1⟩ t0 K
    have g45 : gc 45 4 = n := by rw [a2 45 (by omega)]; exact K.1.2.1
    cases hb : b
    · subst hb
      -- someone comes
      have n1 : 1 ≤ n := by
        apply Classical.byContradiction
        intro c
        rw [e150_0 (by decide), e150_2 (by decide), show gc (27 + 18) 4 = n from g45, wr_id (x := n) (by omega) (by omega), cd_t (show n ≤ wr 0 by rw [wr_0]; omega)] at a3
        exact absurd (res_inj a3) (by decide)
      obtain ⟨m', rfl⟩ : ∃ m', m = m' + 1 := ⟨m - 1, by omega⟩
      have Dc : Dat 27 io n Z 0 (Z 7) (Z 5) gc := Dat_c (fun p p1 p2 => a2 p (by omega)) K.1
      have mn : ∀ i : Int, 0 ≤ i → i < n → gc 46 i = zmn Z (io i) := fun i i0 i1 => (Dc.2.2.1 i i0 i1).2.1
      have rz : ∀ i : Int, 0 ≤ i → i < n → 0 ≤ zmn Z (io i) ∧ zmn Z (io i) < 240 := fun i i0 i1 => (zd_row hZ (K.1.2.2.1 i i0 i1).1.1 (K.1.2.2.1 i i0 i1).1.2).1
      have lt := s_lateL (n := n) (h := gc) hn g45 (fun i i0 i1 => by rw [mn i i0 i1]; have := rz i i0 i1; omega) n.toNat 0 (by omega)
      rw [Nat.zero_add] at lt
      have lt : X (160, 4, [aR 45, aI 0, aI 0], [], gc) = _ := lt
      obtain ⟨x1, x2⟩ := mx_at (f := fun i => gc 46 i) n.toNat (fun p p0 p1 => by show 0 ≤ gc 46 p; rw [mn p p0 (by omega)]; exact (rz p p0 (by omega)).1)
      obtain ⟨j, j0, j1, j2⟩ := x2 (by omega)
      have j2 : mx (fun i => gc 46 i) n.toNat = gc 46 j := j2
      rw [mn j j0 (by omega)] at j2
      generalize mx (fun i => gc 46 i) n.toNat = s2 at lt x1 j2
      have rj := rz j j0 (by omega)
      have kj := K.2.2 j j0 (by omega)
      have x1 : ∀ i, 0 ≤ i → i < n → zmn Z (io i) ≤ s2 := fun i i0 i1 => by rw [← mn i i0 i1]; exact x1 i i0 (by omega)
      obtain ⟨g2, io', n', k1, k2, k3, k4, k5⟩ := s_keepL hZ (s := s2) (by omega) n.toNat io n gc (by omega) Dc (fun p p0 p1 p2 => K.2.1 p p0 p1 (by omega)) (fun i i0 i1 => by omega)
      rw [show ((n.toNat : Nat) : Int) - 1 = n - 1 by omega] at k1
      have k5 := k5 ⟨j, j0, by omega, by omega⟩
      obtain ⟨gf, r, f1, f2, f3⟩ := last_both hZ t0 m' s2 (v3 + 1) io' n' g2 (by omega) (by omega) k3 (by omega) (by omega) (by omega)
      refine ⟨gf, r, ?_, fun p hp => by rw [f2 p hp, k2 p (by omega), a2 p (by omega)], fun hm sh w3 w4 M => ?_⟩
      · rw [e19_31, wr_id (x := v3) (by omega) (by omega), cd_f (by omega), a1, bV_some, a3, bI_some, cd_t (by decide), e160_0 (by decide), lt, bI_some, e161_0 (by decide), g45, k1, bV_some, f1]
      · have hV : ∀ x, s - ((s - s2).toNat : Int) < x → x ≤ s → VS Z t x false := fun x x0 x2 => by
          have Kx : KB Z x io n g := ⟨K.1, fun p p0 p1 p2 => K.2.1 p p0 p1 (by omega), fun i i0 i1 => by have := x1 i i0 i1; omega⟩
          obtain ⟨gc', b', y1, y2, y3, y4⟩ := verdict hZ (s := x) (by omega) t0 Kx
          have eg : gc' = gc := res_inv (a1.symm.trans y1)
          subst eg
          have eb : bi b' = bi false := res_inj (a3.symm.trans y3)
          cases b'
          · exact y4
          · exact absurd eb (by decide)
        obtain ⟨gm, sh', w3', w4', z1, z2, z3⟩ := m_skip hZ t0 (s - s2).toNat s sh hm w3 w4 (by omega) s1 hV M
        rw [show s - ((s - s2).toNat : Int) = s2 by omega] at z1
        obtain ⟨gm2, u1, u2⟩ := f3 gm sh' w3' w4' z3
        exact ⟨gm2, z1.trans u1, FrN_t z2 u2⟩
    · subst hb
      refine ⟨gc, s, ?_, fun p hp => a2 p (by omega), fun hm sh w3 w4 M => ?_⟩
      · rw [e19_31, wr_id (x := v3) (by omega) (by omega), cd_f (by omega), a1, bV_some, a3, bI_some, cd_f (by decide)]
      · by_cases c : 1 ≤ s
        · obtain ⟨gm, x, y1, y2, y3⟩ := m_shut hZ ⟨c, s1⟩ t0 a4 M w3 w4
          exact ⟨gm, y1, y2⟩
        · have e : s = 0 := by omega
          subst e
          exact ⟨hm, by rw [e97_22, cd_t (by decide)], ⟨fun _ _ => rfl, rfl, rfl⟩⟩
termination_by m => m
theorem case_19 (L : Nat) (xs : Nat → Int32) : Cs_19 L xs := by
  intro h hI a1 r1
  have hS := hI.1
  have e1 : wr a1 = a1 := wr_id r1.1 r1.2
  have hZ : ZD (h 81) := zd_of hI.2.2.1
  have hn := zd_n hZ
  have qs := e19_0 a1 h
  rw [e1] at qs
  by_cases p1 : 1 ≤ a1 ∧ a1 < 240
  · rw [cd_f (by omega), cd_t (by omega)] at qs
    obtain ⟨g1, c1, c2, c3, c4⟩ := copy_trial hI
    have K : KB (h 81) 240 (fun i => i) (h 81 24) g1 := ⟨c4, fun p p0 p1 _ => ⟨p, p0, p1, rfl⟩, fun i i0 i1 => (zd_row hZ i0 i1).1.2⟩
    obtain ⟨gf, r, f1, f2, f3⟩ := last_both hZ p1 12 240 0 (fun i => i) (h 81 24) g1 (by omega) (by omega) K (by omega) (by omega) (by omega)
    have fa : ∀ p, (p < 27 ∨ 52 < p) → gf p = h p := fun p hp => by rw [f2 p hp, c2 p (by omega)]
    have M := tol_MP gf
    rw [fa 81 (by omega)] at M
    obtain ⟨gm, m1, m2⟩ := f3 (tol gf) 240 aN aN M
    rw [c1, bV_some, f1] at qs
    have qm := e97_0 a1 gf
    rw [s_inw gf (by omega) (by omega), bI_some, d_bi1, e1, show iin a1 1 239 = true from decide_eq_true (by omega), cond_t, m_asTold, bV_some, m1] at qm
    have FN := FrN_t (FrN_tol gf) m2
    exact ⟨r, gf, gm, qs, fun p hp => by rw [fa p (by omega)]; exact hS p hp, qm, inv_quiet hI (fun p hp => by rw [FN.1 p (by omega), fa p (by omega)]) ⟨by rw [FN.2.1, fa 80 (by omega)], by rw [FN.2.2, fa 80 (by omega)]⟩⟩
  · have qm := e97_0 a1 h
    rw [s_inw h (by omega) (by omega), bI_some, d_bi1, e1, show iin a1 1 239 = false from decide_eq_false (by omega), cond_f] at qm
    by_cases c : a1 < 1
    · rw [cd_t c] at qs
      exact ⟨-1, h, h, qs, hS, qm, hI⟩
    · rw [cd_f c, cd_f (by omega)] at qs
      exact ⟨-1, h, h, qs, hS, qm, hI⟩
