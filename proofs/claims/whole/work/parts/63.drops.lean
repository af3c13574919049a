/-! drops -/
theorem bhk_f {Z : Int → Int} {hd : Nat → Bool} {P : Nat} : ∀ k, (∀ i, i < k → hd i = false) → bhk Z hd P k = 0
  | 0, _ => rfl
  | k + 1, h => by
    show bhk Z hd P k ||| cond (hd k && P.testBit (wa Z k)) (2 ^ wb Z k) 0 = 0
    rw [bhk_f k (fun i hi => h i (by omega)), h k (by omega), Bool.false_and, cond_f, Nat.or_zero]
theorem tv_all (Z : Int → Int) (T n : Nat) : tv Z T n (2 ^ T - 1) = true := by
  unfold tv
  have z : ic Z (fun i => !(2 ^ T - 1).testBit i) T (2 ^ n - 1) 1 = 0 := by
    show _ &&& bhk Z (fun i => !(2 ^ T - 1).testBit i) (ic Z (fun i => !(2 ^ T - 1).testBit i) T (2 ^ n - 1) 0) T = 0
    rw [bhk_f T (fun i hi => by rw [ones_bit, decide_eq_true hi]; rfl), Nat.and_zero]
  exact decide_eq_true (ic_zero z (by omega))
theorem pc_pos {s : Nat} (hs : s < 4096) (h : pc s = 0) : s = 0 := by
  apply bits_ext
  intro i
  rw [Nat.zero_testBit]
  cases t : s.testBit i
  · rfl
  · have := pcb_lt (a := 0) (b := s) (fun j hj => by rw [Nat.zero_testBit] at hj; exact absurd hj (by decide)) (Nat.zero_testBit i) t 12 (bit_lt (n := 12) hs t)
    have e : pcb s 12 = pc s := rfl
    omega
theorem pcb_hi {s T : Nat} (h : s < 2 ^ T) : ∀ d, pcb s (T + d) = pcb s T
  | 0 => rfl
  | d + 1 => by
    show pcb s (T + d) + (if s.testBit (T + d) = true then 1 else 0) = pcb s T
    rw [pcb_hi h d, if_neg (fun t => by have := bit_lt h t; omega)]
    omega
theorem pc_le {s T : Nat} (h : s < 2 ^ T) (hT : T ≤ 12) : pc s ≤ T := by
  have a := pcb_hi h (12 - T)
  rw [show T + (12 - T) = 12 by omega] at a
  have b := pcb_le s T
  have e : pc s = pcb s 12 := rfl
  omega
theorem s_bits {s : Nat} (hs : s < 4096) (h : Hp) : X (186, 0, [aI s], [], h) = some (some (pc s : Int), h) := by
  have e := bc_n hs
  rw [← e]
  exact e186_0 s h
theorem m_onesL : ∀ (k s : Nat) (v0 c : Int) (h : Hp), s ≤ k → s < 4096 → X (107, 4, [aI v0, aI c, aI s], [], h) = some (some (c + pc s), h)
  | k, s, v0, c, h, hk, hs => by
    by_cases z : s = 0
    · subst z
      rw [e107_4, show wr ((0 : Nat) : Int) = 0 from wr_0, cd_t rfl, pc_0]
      congr 3
      omega
    · obtain ⟨l1, l2⟩ := low_n hs z
      have ej : jand (s : Int) ((s : Int) - 1) = ((s &&& (s - 1) : Nat) : Int) := by
        rw [show (s : Int) - 1 = ((s - 1 : Nat) : Int) by omega, jand_n (by omega) (by omega)]
      rw [e107_4, wr_id (x := (s : Int)) (by omega) (by omega), cd_f (by omega), ej]
      cases k with
      | zero => omega
      | succ k =>
        rw [m_onesL k (s &&& (s - 1)) v0 (c + 1) h (by omega) (by omega)]
        congr 3
        omega
theorem m_ones {s : Nat} (hs : s < 4096) (h : Hp) : X (107, 0, [aI s, aN, aN], [], h) = some (some (pc s : Int), h) := by
  rw [e107_0, m_onesL s s s 0 h (Nat.le_refl s) hs]
  congr 3
  omega
/-- the best set among those from lo on, below hi -/
def BD (Z : Int → Int) (T n lo hi b : Nat) : Prop := (lo ≤ b ∧ b < hi) ∧ tv Z T n b = true ∧ ∀ s, lo ≤ s → s < hi → tv Z T n s = true → pc b < pc s ∨ (pc b = pc s ∧ b ≤ s)
theorem BD_u {Z : Int → Int} {T n lo hi b b' : Nat} (H : BD Z T n lo hi b) (H' : BD Z T n lo hi b') : b' = b := by
  have x := H.2.2 b' H'.1.1 H'.1.2 H'.2.1
  have y := H'.2.2 b H.1.1 H.1.2 H.2.1
  omega
theorem s_dropsL {d : Nat} (hd' : d = 24 ∨ d = 50 ∨ d = 66) {Z : Int → Int} (hZ : ZD Z) {h : Hp} (W : WD d Z h) {T n : Nat} (hT : (T : Int) = Z 42) (hn : (n : Int) = Z 24) : ∀ (k s b f : Nat), s + k = 2 ^ T → ((∀ x, x < s → tv Z T n x = false) ∧ b = 2 ^ T - 1 ∧ f = T + 1) ∨ (BD Z T n 0 s b ∧ f = pc b) → ∃ r : Nat, X (128, 21, [aR d, aI ((2 ^ T - 1 : Nat) : Int), aI b, aI f, aI s], [], h) = some (some (r : Int), h) ∧ BD Z T n 0 (2 ^ T) r
  | k, s, b, f, hk, st => by
    have ht := zd_w hZ
    have p := p12 (n := T) (by omega)
    have p0 := Nat.two_pow_pos T
    have fb : f ≤ 13 := by
      rcases st with ⟨_, _, e⟩ | ⟨_, e⟩
      · omega
      · have := pc_12 b; omega
    have bb : b < 4096 := by
      rcases st with ⟨_, e, _⟩ | ⟨e, _⟩
      · omega
      · have := e.1; omega
    rw [e128_21 hd', wr_id (x := ((2 ^ T - 1 : Nat) : Int)) (by omega) (by omega), wr_id (x := (s : Int)) (by omega) (by omega), wr_id (x := (f : Int)) (by omega) (by omega)]
    cases k with
    | zero =>
      rw [cd_t (by omega)]
      rcases st with ⟨e, _, _⟩ | ⟨e, _⟩
      · have := e (2 ^ T - 1) (by omega)
        rw [tv_all] at this
        exact absurd this (by decide)
      · have : s = 2 ^ T := by omega
        subst this
        exact ⟨b, rfl, e⟩
    | succ k =>
      rw [cd_f (by omega)]
      by_cases f0 : f = 0
      · rw [cd_t (by omega)]
        rcases st with ⟨_, _, e⟩ | ⟨e, e2⟩
        · omega
        · have b0 := pc_pos bb (by omega)
          subst b0
          refine ⟨0, rfl, ⟨by omega, by omega⟩, e.2.1, fun x x0 x1 hx => ?_⟩
          rw [pc_0]
          omega
      · have sm : s < 4096 := by omega
        rw [cd_f (by omega), s_bits sm, bI_some, wr_id (x := (pc s : Int)) (by omega) (by have := pc_12 s; omega), show (s : Int) + 1 = ((s + 1 : Nat) : Int) by omega]
        have pl := pc_le (s := s) (T := T) (by omega) (by omega)
        by_cases c : f ≤ pc s
        · rw [cd_t (by omega)]
          refine s_dropsL hd' hZ W hT hn k (s + 1) b f (by omega) (Or.inr ?_)
          rcases st with ⟨_, _, e⟩ | ⟨e, e2⟩
          · omega
          · refine ⟨⟨⟨by omega, by have := e.1; omega⟩, e.2.1, fun x x0 x1 hx => ?_⟩, e2⟩
            by_cases es : x = s
            · subst es; have := e.1; omega
            · exact e.2.2 x x0 (by omega) hx
        · have dl := dif_lt (a := 2 ^ T - 1) (b := s) (by omega)
          have d12 : dif (2 ^ T - 1) s < 4096 := lt_of_bits (n := 12) (fun i hi => by
            rw [dif_bit, ones_bit, Bool.and_eq_true, decide_eq_true_eq] at hi
            omega)
          rw [cd_f (by omega), jdif_n (by omega), s_can hd' hZ W (s := s) d12 hT hn (fun i hi => by rw [dif_bit, ones_bit, decide_eq_true hi, Bool.true_and]), bI_some, d_bi0]
          cases t : tv Z T n s
          · rw [Bool.not_false, cond_t]
            refine s_dropsL hd' hZ W hT hn k (s + 1) b f (by omega) ?_
            rcases st with ⟨e, e1, e2⟩ | ⟨e, e2⟩
            · refine Or.inl ⟨fun x hx => ?_, e1, e2⟩
              by_cases es : x = s
              · rw [es]; exact t
              · exact e x (by omega)
            · refine Or.inr ⟨⟨⟨by omega, by have := e.1; omega⟩, e.2.1, fun x x0 x1 hx => ?_⟩, e2⟩
              by_cases es : x = s
              · subst es; rw [t] at hx; exact absurd hx (by decide)
              · exact e.2.2 x x0 (by omega) hx
          · rw [Bool.not_true, cond_f, s_bits sm, bI_some]
            refine s_dropsL hd' hZ W hT hn k (s + 1) s (pc s) (by omega) (Or.inr ⟨⟨⟨by omega, by omega⟩, t, fun x x0 x1 hx => ?_⟩, rfl⟩)
            by_cases es : x = s
            · subst es; omega
            · rcases st with ⟨e, _, _⟩ | ⟨e, e2⟩
              · have := e x (by omega)
                rw [this] at hx; exact absurd hx (by decide)
              · have := e.2.2 x x0 (by omega) hx
                omega
theorem s_drops {d : Nat} (hd' : d = 24 ∨ d = 50 ∨ d = 66) {Z : Int → Int} (hZ : ZD Z) {h : Hp} (W : WD d Z h) {T n : Nat} (hT : (T : Int) = Z 42) (hn : (n : Int) = Z 24) : ∃ r : Nat, X (128, 0, [aR d, aN, aN, aN, aN], [], h) = some (some (r : Int), h) ∧ BD Z T n 0 (2 ^ T) r := by
  have ht := zd_w hZ
  have p0 := Nat.two_pow_pos T
  obtain ⟨r, r1, r2⟩ := s_dropsL hd' hZ W hT hn (2 ^ T) 0 (2 ^ T - 1) (T + 1) (by omega) (Or.inl ⟨fun x hx => by omega, rfl, rfl⟩)
  refine ⟨r, ?_, r2⟩
  rw [e128_0 hd', W.1, ← hT, shl_n (by omega), show ((2 ^ T : Nat) : Int) - 1 = ((2 ^ T - 1 : Nat) : Int) by omega]
  exact r1
theorem m_dropsL {Z : Int → Int} (hZ : ZD Z) {h : Hp} (h81 : h 81 = Z) {T n : Nat} (hT : (T : Int) = Z 42) (hn : (n : Int) = Z 24) : ∀ (k b : Nat), k ≤ 2 ^ T → BD Z T n k (2 ^ T) b → ∃ r : Nat, X (108, 24, [aR 80, aI b, aI ((k : Int) - 1)], [], h) = some (some (r : Int), h) ∧ BD Z T n 0 (2 ^ T) r
  | 0, b, hk, B => ⟨b, by rw [e108_24, cd_t (by decide)], B⟩
  | k + 1, b, hk, B => by
    have ht := zd_w hZ
    have p := p12 (n := T) (by omega)
    have bb : b < 4096 := by have := B.1; omega
    have q1 := pc_12 k
    have q2 := pc_12 b
    rw [show ((k + 1 : Nat) : Int) - 1 = (k : Int) by omega, e108_24, wr_id (x := (k : Int)) (by omega) (by omega), cd_f (by omega), m_ones (by omega), bI_some, m_ones bb, bI_some, wr_id (x := (pc k : Int)) (by omega) (by omega), wr_id (x := (pc b : Int)) (by omega) (by omega), show (k : Int) + (-1) = (k : Int) - 1 by omega]
    have keep : (tv Z T n k = true → pc b < pc k) → BD Z T n k (2 ^ T) b := fun hh => ⟨⟨by have := B.1; omega, B.1.2⟩, B.2.1, fun x x0 x1 hx => by
      by_cases e : x = k
      · subst e; exact Or.inl (hh hx)
      · exact B.2.2 x (by omega) x1 hx⟩
    by_cases c : pc b < pc k
    · rw [cd_t (by omega)]
      exact m_dropsL hZ h81 hT hn k b (by omega) (keep (fun _ => c))
    · rw [cd_f (by omega), m_true hZ h81 (by omega) hT hn, bI_some, d_bi0]
      cases t : tv Z T n k
      · rw [Bool.not_false, cond_t]
        exact m_dropsL hZ h81 hT hn k b (by omega) (keep (fun z => by rw [t] at z; exact absurd z (by decide)))
      · rw [Bool.not_true, cond_f]
        refine m_dropsL hZ h81 hT hn k k (by omega) ⟨⟨by omega, by omega⟩, t, fun x x0 x1 hx => ?_⟩
        by_cases e : x = k
        · subst e; omega
        · have := B.2.2 x (by omega) x1 hx
          omega
theorem m_drops {Z : Int → Int} (hZ : ZD Z) {h : Hp} (h81 : h 81 = Z) {T n : Nat} (hT : (T : Int) = Z 42) (hn : (n : Int) = Z 24) : ∃ r : Nat, X (108, 0, [aR 80, aN, aN], [], h) = some (some (r : Int), h) ∧ BD Z T n 0 (2 ^ T) r := by
  have ht := zd_w hZ
  have p := p12 (n := T) (by omega)
  have p0 := Nat.two_pow_pos T
  have ta := tv_all Z T n
  have q1 := pc_12 (2 ^ T - 1)
  obtain ⟨r, r1, r2⟩ := m_dropsL hZ h81 hT hn (2 ^ T - 1) (2 ^ T - 1) (by omega) ⟨⟨by omega, by omega⟩, ta, fun x x0 x1 _ => by
    have : x = 2 ^ T - 1 := by omega
    subst this; omega⟩
  refine ⟨r, ?_, r2⟩
  rw [e108_0, h81, ← hT, shl_n (by omega), show ((2 ^ T : Nat) : Int) - 1 = ((2 ^ T - 1 : Nat) : Int) by omega, e108_24, wr_id (x := ((2 ^ T - 1 : Nat) : Int)) (by omega) (by omega), cd_f (by omega), m_ones (by omega), bI_some, m_ones (by omega), bI_some, cd_f (by omega), m_true hZ h81 (by omega) hT hn, bI_some, d_bi0, ta, Bool.not_true, cond_f, show ((2 ^ T - 1 : Nat) : Int) + (-1) = ((2 ^ T - 1 : Nat) : Int) - 1 by omega]
  exact r1
theorem wd_of {L : Nat} {xs : Nat → Int32} {h : Hp} (hI : Inv L xs h) : WD 24 (h 81) h := hI.2.1.2.2.2.2.2
/-- DROPS, as the class keeps them -/
theorem s_fewest {L : Nat} {xs : Nat → Int32} {h : Hp} (hI : Inv L xs h) {T n : Nat} (hT : (T : Int) = h 81 42) (hn : (n : Int) = h 81 24) : ∃ (r : Nat) (g : Hp), X (125, 0, [aR 24], [], h) = some (some (r : Int), g) ∧ BD (h 81) T n 0 (2 ^ T) r ∧ (∀ p, p ≠ 24 → g p = h p) ∧ (∀ j, j ≠ 3 → g 24 j = h 24 j) ∧ Inv L xs g := by
  have hZ : ZD (h 81) := zd_of hI.2.2.1
  have W := wd_of hI
  have ht := zd_w hZ
  have p := p12 (n := T) (by omega)
  have qs := e125_0 (d := 24) (by decide) h
  rcases hI.2.2.2.2.2.2.2 with a | ⟨a, b⟩ | ⟨g, d, a1, a2, a3, a4⟩
  · obtain ⟨r, r1, r2⟩ := s_drops (d := 24) (by decide) hZ W hT hn
    rw [a, wr_m1, cd_f (by decide), r1, bI_some, up_s] at qs
    have o : ∀ p, p ≠ 24 → up h 24 3 (r : Int) p = h p := fun p hp => up_n _ _ _ hp
    have oj : ∀ j, j ≠ 3 → up h 24 3 (r : Int) 24 j = h 24 j := fun j hj => up_o _ _ _ hj
    refine ⟨r, up h 24 3 r, qs, r2, o, oj, inv_words hI (fun p p1 _ _ _ => o p p1) (fun j _ => by rw [o 81 (by decide)]) ⟨⟨?_, ?_⟩, ?_⟩ (Or.inr (Or.inr ⟨h, 24, by decide, (oj 2 (by decide)).symm, fun w w0 w1 => ?_, ?_⟩))⟩
    · show up h 24 3 (r : Int) 24 2 = _
      rw [oj 2 (by decide), o 81 (by decide)]; exact W.1
    · intro w w0 w1
      show up h 24 3 (r : Int) 25 w = _ ∧ up h 24 3 (r : Int) 26 w = _
      rw [o 81 (by decide)] at w1 ⊢
      rw [o 25 (by decide), o 26 (by decide)]
      exact W.2 w w0 w1
    · have := hI.2.2.1.2.2.2.2.2
      unfold ZW at this ⊢
      rw [o 81 (by decide)]; exact this
    · show h 25 w = up h 24 3 (r : Int) 25 w ∧ h 26 w = up h 24 3 (r : Int) 26 w
      rw [o 25 (by decide), o 26 (by decide)]; exact ⟨rfl, rfl⟩
    · rw [up_s]; exact r1
  · have T0 : T = 0 := by have := W.1; omega
    subst T0
    rw [b, wr_0, cd_t (by decide)] at qs
    refine ⟨0, h, qs, ⟨⟨by omega, by decide⟩, tv_all (h 81) 0 n, fun x x0 x1 _ => ?_⟩, fun _ _ => rfl, fun _ _ => rfl, hI⟩
    have : x = 0 := by
      have : (2 : Nat) ^ 0 = 1 := rfl
      omega
    subst this
    exact Or.inr ⟨rfl, Nat.le_refl 0⟩
  · have Wg : WD d (h 81) g := ⟨by rw [a2]; exact W.1, fun w w0 w1 => by
      have y := a3 w w0 (by rw [W.1]; exact w1)
      rw [y.1, y.2]
      exact W.2 w w0 w1⟩
    obtain ⟨r, r1, r2⟩ := s_drops a1 hZ Wg hT hn
    have e : h 24 3 = (r : Int) := res_inj (r1.symm.trans a4)
    have rb := r2.1
    rw [e, wr_id (x := (r : Int)) (by omega) (by omega), cd_t (by omega)] at qs
    exact ⟨r, h, qs, r2, fun _ _ => rfl, fun _ _ => rfl, hI⟩
theorem case_25 (L : Nat) (xs : Nat → Int32) : Cs_25 L xs := by
  intro h hI
  have hS := hI.1
  have hZ : ZD (h 81) := zd_of hI.2.2.1
  have ht := zd_w hZ
  have hn := zd_n hZ
  obtain ⟨T, hT⟩ : ∃ T : Nat, (T : Int) = h 81 42 := ⟨(h 81 42).toNat, by omega⟩
  obtain ⟨n, hn'⟩ : ∃ n : Nat, (n : Int) = h 81 24 := ⟨(h 81 24).toNat, by omega⟩
  obtain ⟨r, g, a1, a2, a3, a4, a5⟩ := s_fewest hI hT hn'
  obtain ⟨r', b1, b2⟩ := m_drops (h := g) hZ (a3 81 (by decide)) hT hn'
  have e := BD_u a2 b2
  subst e
  refine ⟨r', g, g, ?_, a5.1, b1, a5⟩
  show X (25, 0, [aR 0], [], h) = _
  rw [e25_0, a1, bI_some]
theorem case_26 (L : Nat) (xs : Nat → Int32) : Cs_26 L xs := by
  intro h hI
  have hS := hI.1
  have hZ : ZD (h 81) := zd_of hI.2.2.1
  have ht := zd_w hZ
  have hn := zd_n hZ
  obtain ⟨T, hT⟩ : ∃ T : Nat, (T : Int) = h 81 42 := ⟨(h 81 42).toNat, by omega⟩
  obtain ⟨n, hn'⟩ : ∃ n : Nat, (n : Int) = h 81 24 := ⟨(h 81 24).toNat, by omega⟩
  have pT := p12 (n := T) (by omega)
  have pn := p12 (n := n) (by omega)
  have pT0 := Nat.two_pow_pos T
  have pn0 := Nat.two_pow_pos n
  obtain ⟨r, g, a1, a2, a3, a4, a5⟩ := s_fewest hI hT hn'
  have g81 : g 81 = h 81 := a3 81 (by decide)
  have W : WD 24 (h 81) g := by
    have := wd_of a5
    rw [g81] at this
    exact this
  have dl : dif (2 ^ T - 1) r < 4096 := lt_of_bits (n := 12) (fun i hi => by
    rw [dif_bit, ones_bit, Bool.and_eq_true, decide_eq_true_eq] at hi
    omega)
  have e126 : X (126, 0, [aR 24], [], h) = some (some ((dif (2 ^ T - 1) r : Nat) : Int), g) := by
    rw [e126_0 (by decide), a1, bI_some, (wd_of hI).1, ← hT, shl_n (by omega), show ((2 ^ T : Nat) : Int) - 1 = ((2 ^ T - 1 : Nat) : Int) by omega, jdif_n (by omega)]
  have g19 : h 19 4 = n := by
    rw [hn']
    exact hI.2.1.2.2.2.1.1
  have qs := e26_0 h
  have sb := s_behind (d := 24) (by decide) hZ W (H := dif (2 ^ T - 1) r) (P := 2 ^ n - 1) (by omega) (by omega) hT
  have bl := bhk_31 hZ (hd := fun i => (dif (2 ^ T - 1) r).testBit i) (P := 2 ^ n - 1) (k := T) (by omega)
  rw [e126, bI_some, g19, shl_n (by omega), show ((2 ^ n : Nat) : Int) - 1 = ((2 ^ n - 1 : Nat) : Int) by omega, sb, bI_some, jdif_n (by omega)] at qs
  obtain ⟨r', b1, b2⟩ := m_drops (h := g) hZ g81 hT hn'
  have e := BD_u a2 b2
  subst e
  have rb := b2.1
  have mb := m_behind hZ g81 (H := r') (P := 2 ^ n - 1) (by omega) (by omega) hT
  have qm := e109_0 g
  have bl2 := bhk_31 hZ (hd := fun i => !r'.testBit i) (P := 2 ^ n - 1) (k := T) (by omega)
  rw [m_all hZ g81 hn', bI_some, b1, bI_some, m_all hZ g81 hn', bI_some, mb, bI_some, jdif_n (by omega)] at qm
  have eb : bhk (h 81) (fun i => (dif (2 ^ T - 1) r').testBit i) (2 ^ n - 1) T = bhk (h 81) (fun i => !r'.testBit i) (2 ^ n - 1) T := bhk_c T (fun i hi => by rw [dif_bit, ones_bit, decide_eq_true hi, Bool.true_and]) (fun _ _ => rfl)
  rw [eb] at qs
  exact ⟨_, g, g, qs, a5.1, qm, a5⟩
