/-! words -/
theorem bit_b {a k : Nat} (ha : a < 2147483648) (hk : k < 32) : jand (jshr (a : Int) (k : Int)) 1 = bi (a.testBit k) := by
  rw [bit_n ha hk]
  cases a.testBit k <;> rfl
def wa (Z : Int → Int) (i : Nat) : Nat := (Z (43 + 2 * (i : Int))).toNat
def wb (Z : Int → Int) (i : Nat) : Nat := (Z (44 + 2 * (i : Int))).toNat
theorem w_r {Z : Int → Int} (hZ : ZD Z) {i : Nat} (hi : (i : Int) < Z 42) : Z (43 + 2 * (i : Int)) = (wa Z i : Int) ∧ Z (44 + 2 * (i : Int)) = (wb Z i : Int) ∧ (wa Z i : Int) < Z 24 ∧ (wb Z i : Int) < Z 24 := by
  have y := hZ.2.2.2.2.2.2 i (by omega) hi
  have y1 : 0 ≤ Z (43 + 2 * (i : Int)) ∧ Z (43 + 2 * (i : Int)) < Z 24 := y.1
  have y2 : 0 ≤ Z (44 + 2 * (i : Int)) ∧ Z (44 + 2 * (i : Int)) < Z 24 := y.2.1
  unfold wa wb
  omega
theorem zd_w {Z : Int → Int} (hZ : ZD Z) : 0 ≤ Z 42 ∧ Z 42 ≤ 12 := hZ.2.2.2.2.2.1
/-- who stands behind one of P by the words told of in hd -/
def bhk (Z : Int → Int) (hd : Nat → Bool) (P : Nat) : Nat → Nat
  | 0 => 0
  | k + 1 => bhk Z hd P k ||| cond (hd k && P.testBit (wa Z k)) (2 ^ wb Z k) 0
theorem bhk_c {Z : Int → Int} {hd hd' : Nat → Bool} {P P' : Nat} : ∀ k, (∀ i, i < k → hd i = hd' i) → (∀ i, i < k → P.testBit (wa Z i) = P'.testBit (wa Z i)) → bhk Z hd P k = bhk Z hd' P' k
  | 0, _, _ => rfl
  | k + 1, h1, h2 => by
    show bhk Z hd P k ||| cond (hd k && P.testBit (wa Z k)) (2 ^ wb Z k) 0 = bhk Z hd' P' k ||| cond (hd' k && P'.testBit (wa Z k)) (2 ^ wb Z k) 0
    rw [bhk_c k (fun i hi => h1 i (by omega)) (fun i hi => h2 i (by omega)), h1 k (by omega), h2 k (by omega)]
theorem bhk_lt {Z : Int → Int} (hZ : ZD Z) {hd : Nat → Bool} {P n : Nat} (hn : (n : Int) = Z 24) : ∀ k : Nat, (k : Int) ≤ Z 42 → bhk Z hd P k < 2 ^ n
  | 0, _ => Nat.two_pow_pos n
  | k + 1, h => by
    have y := w_r hZ (i := k) (by omega)
    show bhk Z hd P k ||| cond (hd k && P.testBit (wa Z k)) (2 ^ wb Z k) 0 < 2 ^ n
    refine Nat.or_lt_two_pow (bhk_lt hZ hn k (by omega)) ?_
    cases hd k && P.testBit (wa Z k)
    · exact Nat.two_pow_pos n
    · exact Nat.pow_lt_pow_right (by decide) (by omega)
theorem p12 {n : Nat} (hn : n ≤ 12) : 2 ^ n ≤ 4096 := by
  have := Nat.pow_le_pow_right (n := 2) (by decide) hn
  exact this
theorem bhk_31 {Z : Int → Int} (hZ : ZD Z) {hd : Nat → Bool} {P : Nat} {k : Nat} (hk : (k : Int) ≤ Z 42) : bhk Z hd P k < 4096 := by
  have hn := zd_n hZ
  have := bhk_lt hZ (hd := hd) (P := P) (n := (Z 24).toNat) (by omega) k hk
  have := p12 (n := (Z 24).toNat) (by omega)
  omega
/-- the class's words at d are those of Z -/
def WD (d : Nat) (Z : Int → Int) (h : Hp) : Prop := h d 2 = Z 42 ∧ ∀ w, 0 ≤ w → w < Z 42 → h (d + 1) w = Z (43 + 2 * w) ∧ h (d + 2) w = Z (44 + 2 * w)
theorem s_behindL {d : Nat} (hd' : d = 24 ∨ d = 50 ∨ d = 66) {Z : Int → Int} (hZ : ZD Z) {h : Hp} (W : WD d Z h) {H P T : Nat} (hH : H < 2147483648) (hP : P < 2147483648) (hT : (T : Int) = Z 42) : ∀ (k j : Nat), j + k = T → X (127, 5, [aR d, aI H, aI P, aI ((bhk Z (fun i => H.testBit i) P j : Nat) : Int), aI j], [], h) = some (some ((bhk Z (fun i => H.testBit i) P T : Nat) : Int), h)
  | 0, j, hk => by
    have e : j = T := by omega
    subst e
    have ht := zd_w hZ
    rw [e127_5 hd', W.1, ← hT, cd_t (Int.le_refl _)]
  | k + 1, j, hk => by
    have ht := zd_w hZ
    have ih := s_behindL hd' hZ W hH hP hT k (j + 1) (by omega)
    obtain ⟨y1, y2, y3, y4⟩ := w_r hZ (i := j) (by omega)
    have hn := zd_n hZ
    have wj := W.2 j (by omega) (by omega)
    have es : bhk Z (fun i => H.testBit i) P (j + 1) = bhk Z (fun i => H.testBit i) P j ||| cond (H.testBit j && P.testBit (wa Z j)) (2 ^ wb Z j) 0 := rfl
    have l := bhk_31 hZ (hd := fun i => H.testBit i) (P := P) (k := j) (by omega)
    rw [es] at ih
    rw [e127_5 hd', W.1, wr_id (x := Z 42) (by omega) (by omega), wr_id (x := (j : Int)) (by omega) (by omega), cd_f (by omega), bit_b hH (by omega), d_bi0, inb_t (by omega) (by omega) (by omega), wj.1, wj.2, y1, y2, bit_b hP (by omega), d_bi0, shl_n (by omega), jor_n (by omega) (pow_lt (by omega)), show (j : Int) + 1 = ((j + 1 : Nat) : Int) by omega]
    simp only [cond_t]
    cases t : H.testBit j
    · rw [t, Bool.false_and, cond_f, Nat.or_zero] at ih
      rw [Bool.not_false, cond_t]; exact ih
    · rw [Bool.not_true, cond_f]
      cases u : P.testBit (wa Z j)
      · rw [t, u, Bool.and_false, cond_f, Nat.or_zero] at ih
        rw [Bool.not_false, cond_t]; exact ih
      · rw [t, u, Bool.and_self, cond_t] at ih
        rw [Bool.not_true, cond_f]; exact ih
theorem s_behind {d : Nat} (hd' : d = 24 ∨ d = 50 ∨ d = 66) {Z : Int → Int} (hZ : ZD Z) {h : Hp} (W : WD d Z h) {H P T : Nat} (hH : H < 2147483648) (hP : P < 2147483648) (hT : (T : Int) = Z 42) : X (127, 0, [aR d, aI H, aI P, aN, aN], [], h) = some (some ((bhk Z (fun i => H.testBit i) P T : Nat) : Int), h) := by
  rw [e127_0 hd']
  exact s_behindL hd' hZ W hH hP hT T 0 (by omega)
theorem m_behindL {Z : Int → Int} (hZ : ZD Z) {h : Hp} (h81 : h 81 = Z) {H P T : Nat} (hH : H < 2147483648) (hP : P < 2147483648) (hT : (T : Int) = Z 42) : ∀ (k j : Nat) (w5 : AV), j + k = T → X (104, 5, [aR 80, aI H, aI P, aI ((bhk Z (fun i => !H.testBit i) P j : Nat) : Int), aI j, w5], [], h) = some (some ((bhk Z (fun i => !H.testBit i) P T : Nat) : Int), h)
  | 0, j, w5, hk => by
    have e : j = T := by omega
    subst e
    have ht := zd_w hZ
    rw [e104_5, h81, ← hT, cd_t (Int.le_refl _)]
  | k + 1, j, w5, hk => by
    have ht := zd_w hZ
    have ih := fun w5 => m_behindL hZ h81 hH hP hT k (j + 1) w5 (by omega)
    obtain ⟨y1, y2, y3, y4⟩ := w_r hZ (i := j) (by omega)
    have hn := zd_n hZ
    have es : bhk Z (fun i => !H.testBit i) P (j + 1) = bhk Z (fun i => !H.testBit i) P j ||| cond (!H.testBit j && P.testBit (wa Z j)) (2 ^ wb Z j) 0 := rfl
    have l := bhk_31 hZ (hd := fun i => !H.testBit i) (P := P) (k := j) (by omega)
    rw [es] at ih
    rw [e104_5, h81, wr_id (x := Z 42) (by omega) (by omega), wr_id (x := (j : Int)) (by omega) (by omega), cd_f (by omega), m_has hH (by omega), bI_some, d_bi1, inb_t (by omega) (by omega) (by omega), inb_t (by omega) (by omega) (by omega), h81, wr_id (x := 43 + 2 * (j : Int)) (by omega) (by omega), wr_id (x := 43 + 2 * (j : Int) + 1) (by omega) (by omega), show 43 + 2 * (j : Int) + 1 = 44 + 2 * (j : Int) by omega, y1, m_has hP (by omega), bI_some, d_bi0, h81, y2, shl_n (by omega), jor_n (by omega) (pow_lt (by omega)), show (j : Int) + 1 = ((j + 1 : Nat) : Int) by omega, show jor ((bhk Z (fun i => !H.testBit i) P j : Nat) : Int) 0 = (bhk Z (fun i => !H.testBit i) P j : Int) from by rw [show (0 : Int) = ((0 : Nat) : Int) from rfl, jor_n (by omega) (by omega), Nat.or_zero]]
    simp only [cond_t]
    cases t : H.testBit j
    · rw [cond_f]
      cases u : P.testBit (wa Z j)
      · rw [t, u, Bool.and_false, cond_f, Nat.or_zero] at ih
        rw [Bool.not_false, cond_t]; exact ih _
      · rw [t, u, Bool.not_false, Bool.and_self, cond_t] at ih
        rw [Bool.not_true, cond_f]; exact ih _
    · rw [t, Bool.not_true, Bool.false_and, cond_f, Nat.or_zero] at ih
      rw [cond_t]; exact ih _
theorem m_behind {Z : Int → Int} (hZ : ZD Z) {h : Hp} (h81 : h 81 = Z) {H P T : Nat} (hH : H < 2147483648) (hP : P < 2147483648) (hT : (T : Int) = Z 42) : X (104, 0, [aR 80, aI H, aI P, aN, aN, aN], [], h) = some (some ((bhk Z (fun i => !H.testBit i) P T : Nat) : Int), h) := by
  rw [e104_0]
  exact m_behindL hZ h81 hH hP hT T 0 aN (by omega)
/-! steps away -/
def ic (Z : Int → Int) (hd : Nat → Bool) (T A : Nat) : Nat → Nat
  | 0 => A
  | k + 1 => ic Z hd T A k &&& bhk Z hd (ic Z hd T A k) T
theorem ic_le (Z : Int → Int) (hd : Nat → Bool) (T A k : Nat) : ic Z hd T A k ≤ A := by
  induction k with
  | zero => exact Nat.le_refl A
  | succ k ih => exact Nat.le_trans Nat.and_le_left ih
theorem bhk_0 (Z : Int → Int) (hd : Nat → Bool) : ∀ k, bhk Z hd 0 k = 0
  | 0 => rfl
  | k + 1 => by
    show bhk Z hd 0 k ||| cond (hd k && (0 : Nat).testBit (wa Z k)) (2 ^ wb Z k) 0 = 0
    rw [bhk_0 Z hd k, Nat.zero_testBit, Bool.and_false, cond_f, Nat.or_zero]
theorem ic_stay {Z : Int → Int} {hd : Nat → Bool} {T A j : Nat} (h : ic Z hd T A (j + 1) = ic Z hd T A j) : ∀ d, ic Z hd T A (j + d) = ic Z hd T A j
  | 0 => rfl
  | d + 1 => by
    show ic Z hd T A (j + d) &&& bhk Z hd (ic Z hd T A (j + d)) T = _
    rw [ic_stay h d]; exact h
theorem ic_zero {Z : Int → Int} {hd : Nat → Bool} {T A j : Nat} (h : ic Z hd T A j = 0) {k : Nat} (hk : j ≤ k) : ic Z hd T A k = 0 := by
  have s : ic Z hd T A (j + 1) = ic Z hd T A j := by
    show ic Z hd T A j &&& bhk Z hd (ic Z hd T A j) T = _
    rw [h, Nat.zero_and]
  have := ic_stay s (k - j)
  rw [show j + (k - j) = k by omega, h] at this
  exact this
theorem pcb_mono {a b : Nat} (h : ∀ i, a.testBit i = true → b.testBit i = true) : ∀ k, pcb a k ≤ pcb b k
  | 0 => Nat.le_refl 0
  | k + 1 => by
    have ih := pcb_mono h k
    show pcb a k + (if a.testBit k = true then 1 else 0) ≤ pcb b k + (if b.testBit k = true then 1 else 0)
    by_cases c : a.testBit k = true
    · rw [if_pos c, if_pos (h k c)]; omega
    · rw [if_neg c]; omega
theorem pcb_lt {a b i : Nat} (h : ∀ i, a.testBit i = true → b.testBit i = true) (ha : a.testBit i = false) (hb : b.testBit i = true) : ∀ k, i < k → pcb a k + 1 ≤ pcb b k
  | 0, hk => by omega
  | k + 1, hk => by
    show pcb a k + (if a.testBit k = true then 1 else 0) + 1 ≤ pcb b k + (if b.testBit k = true then 1 else 0)
    by_cases e : i = k
    · subst e
      have := pcb_mono h i
      rw [ha, hb, if_neg (by decide), if_pos rfl]; omega
    · have ih := pcb_lt h ha hb k (by omega)
      by_cases c : a.testBit k = true
      · rw [if_pos c, if_pos (h k c)]; omega
      · rw [if_neg c]; omega
theorem pc_and {a b : Nat} (ha : a < 4096) (hne : a &&& b ≠ a) : pc (a &&& b) + 1 ≤ pc a := by
  have ex : ∃ i, (a &&& b).testBit i = false ∧ a.testBit i = true := by
    apply Classical.byContradiction
    intro no
    apply hne
    apply bits_ext
    intro i
    cases t : (a &&& b).testBit i
    · cases u : a.testBit i
      · rfl
      · exact absurd ⟨i, t, u⟩ no
    · rw [Nat.testBit_and, Bool.and_eq_true] at t
      exact t.1.symm
  obtain ⟨i, i1, i2⟩ := ex
  exact pcb_lt (fun j hj => by rw [Nat.testBit_and, Bool.and_eq_true] at hj; exact hj.1) i1 i2 12 (bit_lt (n := 12) ha i2)
/-- all words but some can be true -/
def tv (Z : Int → Int) (T n s : Nat) : Bool := decide (ic Z (fun i => !s.testBit i) T (2 ^ n - 1) 12 = 0)
theorem m_all {Z : Int → Int} (hZ : ZD Z) {h : Hp} (h81 : h 81 = Z) {n : Nat} (hn : (n : Int) = Z 24) : X (105, 0, [aR 80], [], h) = some (some ((2 ^ n - 1 : Nat) : Int), h) := by
  have b := zd_n hZ
  have := Nat.two_pow_pos n
  rw [e105_0, h81, ← hn, shl_n (by omega)]
  congr 3
  omega
theorem m_trueL {Z : Int → Int} (hZ : ZD Z) {h : Hp} (h81 : h 81 = Z) {s T n : Nat} (hs : s < 4096) (hT : (T : Int) = Z 42) (hn : (n : Int) = Z 24) : ∀ (k j : Nat) (w : AV), pc (ic Z (fun i => !s.testBit i) T (2 ^ n - 1) j) ≤ k → j + pc (ic Z (fun i => !s.testBit i) T (2 ^ n - 1) j) ≤ 12 → X (106, 7, [aR 80, aI s, aI ((ic Z (fun i => !s.testBit i) T (2 ^ n - 1) j : Nat) : Int), aI 1, w], [], h) = some (some (bi (tv Z T n s)), h)
  | k, j, w, hk, h12 => by
    have b := zd_n hZ
    have pn := p12 (n := n) (by omega)
    have le := ic_le Z (fun i => !s.testBit i) T (2 ^ n - 1) j
    have es : ic Z (fun i => !s.testBit i) T (2 ^ n - 1) (j + 1) = ic Z (fun i => !s.testBit i) T (2 ^ n - 1) j &&& bhk Z (fun i => !s.testBit i) (ic Z (fun i => !s.testBit i) T (2 ^ n - 1) j) T := rfl
    have bl := bhk_31 hZ (hd := fun i => !s.testBit i) (P := ic Z (fun i => !s.testBit i) T (2 ^ n - 1) j) (k := T) (by omega)
    rw [e106_7, wr_1, cd_f (by decide), wr_id (x := ((ic Z (fun i => !s.testBit i) T (2 ^ n - 1) j : Nat) : Int)) (by omega) (by omega), m_behind hZ h81 (by omega) (by omega) hT, bI_some, jand_n (by omega) (by omega), ← es]
    have le1 := ic_le Z (fun i => !s.testBit i) T (2 ^ n - 1) (j + 1)
    rw [wr_id (x := ((ic Z (fun i => !s.testBit i) T (2 ^ n - 1) (j + 1) : Nat) : Int)) (by omega) (by omega)]
    by_cases c : ic Z (fun i => !s.testBit i) T (2 ^ n - 1) j = 0
    · rw [cd_t (by omega), cd_f (by omega)]
      unfold tv
      rw [decide_eq_true (ic_zero c (by omega))]; rfl
    · rw [cd_f (by omega)]
      by_cases e : ic Z (fun i => !s.testBit i) T (2 ^ n - 1) (j + 1) = ic Z (fun i => !s.testBit i) T (2 ^ n - 1) j
      · rw [cd_t (by omega), e106_7, wr_0, cd_t rfl, wr_id (x := ((ic Z (fun i => !s.testBit i) T (2 ^ n - 1) (j + 1) : Nat) : Int)) (by omega) (by omega), cd_t (by omega)]
        unfold tv
        have := ic_stay e (12 - j)
        rw [show j + (12 - j) = 12 by omega] at this
        rw [decide_eq_false (by omega)]; rfl
      · rw [cd_f (by omega)]
        have p := pc_and (a := ic Z (fun i => !s.testBit i) T (2 ^ n - 1) j) (by omega) (by rw [← es]; exact e)
        rw [← es] at p
        cases k with
        | zero => omega
        | succ k => exact m_trueL hZ h81 hs hT hn k (j + 1) _ (by omega) (by omega)
theorem pc_12 (a : Nat) : pc a ≤ 12 := pcb_le a 12
theorem m_true {Z : Int → Int} (hZ : ZD Z) {h : Hp} (h81 : h 81 = Z) {s T n : Nat} (hs : s < 4096) (hT : (T : Int) = Z 42) (hn : (n : Int) = Z 24) : X (106, 0, [aR 80, aI s, aN, aN, aN], [], h) = some (some (bi (tv Z T n s)), h) := by
  rw [e106_0, m_all hZ h81 hn, bI_some]
  exact m_trueL hZ h81 hs hT hn 12 0 aN (pc_12 _) (by have := pc_12 (ic Z (fun i => !s.testBit i) T (2 ^ n - 1) 0); omega)
theorem s_canL {d : Nat} (hd' : d = 24 ∨ d = 50 ∨ d = 66) {Z : Int → Int} (hZ : ZD Z) {h : Hp} (W : WD d Z h) {H s T n : Nat} (hH : H < 4096) (hT : (T : Int) = Z 42) (hn : (n : Int) = Z 24) (he : ∀ i, i < T → H.testBit i = !s.testBit i) : ∀ (k j : Nat), j + k = 12 → X (129, 6, [aR d, aI H, aI ((ic Z (fun i => !s.testBit i) T (2 ^ n - 1) j : Nat) : Int), aI j], [], h) = some (some (bi (tv Z T n s)), h)
  | 0, j, hk => by
    have e : j = 12 := by omega
    subst e
    have b := zd_n hZ
    have pn := p12 (n := n) (by omega)
    have le := ic_le Z (fun i => !s.testBit i) T (2 ^ n - 1) 12
    rw [e129_6 hd', cd_t (by decide), wr_id (x := ((ic Z (fun i => !s.testBit i) T (2 ^ n - 1) 12 : Nat) : Int)) (by omega) (by omega)]
    unfold tv
    by_cases c : ic Z (fun i => !s.testBit i) T (2 ^ n - 1) 12 = 0
    · rw [cd_f (by omega), decide_eq_true c]; rfl
    · rw [cd_t (by omega), decide_eq_false c]; rfl
  | k + 1, j, hk => by
    have b := zd_n hZ
    have pn := p12 (n := n) (by omega)
    have le := ic_le Z (fun i => !s.testBit i) T (2 ^ n - 1) j
    have ih := s_canL hd' hZ W hH hT hn he k (j + 1) (by omega)
    have bl := bhk_31 hZ (hd := fun i => H.testBit i) (P := ic Z (fun i => !s.testBit i) T (2 ^ n - 1) j) (k := T) (by omega)
    have es : ic Z (fun i => !s.testBit i) T (2 ^ n - 1) (j + 1) = ic Z (fun i => !s.testBit i) T (2 ^ n - 1) j &&& bhk Z (fun i => H.testBit i) (ic Z (fun i => !s.testBit i) T (2 ^ n - 1) j) T := by
      show _ &&& bhk Z (fun i => !s.testBit i) (ic Z (fun i => !s.testBit i) T (2 ^ n - 1) j) T = _
      rw [bhk_c T (fun i hi => (he i hi).symm) (fun _ _ => rfl)]
    rw [e129_6 hd', wr_id (x := (j : Int)) (by omega) (by omega), cd_f (by omega), wr_id (x := ((ic Z (fun i => !s.testBit i) T (2 ^ n - 1) j : Nat) : Int)) (by omega) (by omega), s_behind hd' hZ W (by omega) (by omega) hT, bI_some, jand_n (by omega) (by omega), ← es, show (j : Int) + 1 = ((j + 1 : Nat) : Int) by omega, ih]
    by_cases c : ic Z (fun i => !s.testBit i) T (2 ^ n - 1) j = 0
    · rw [cd_t (by omega), cd_f (by omega)]
      unfold tv
      rw [decide_eq_true (ic_zero c (by omega))]; rfl
    · rw [cd_f (by omega)]
theorem s_can {d : Nat} (hd' : d = 24 ∨ d = 50 ∨ d = 66) {Z : Int → Int} (hZ : ZD Z) {h : Hp} (W : WD d Z h) {H s T n : Nat} (hH : H < 4096) (hT : (T : Int) = Z 42) (hn : (n : Int) = Z 24) (he : ∀ i, i < T → H.testBit i = !s.testBit i) : X (129, 0, [aR d, aI H, aN, aN], [], h) = some (some (bi (tv Z T n s)), h) := by
  have b := zd_n hZ
  have pn := p12 (n := n) (by omega)
  have bl := bhk_31 hZ (hd := fun i => H.testBit i) (P := 4095) (k := T) (by omega)
  have ih := s_canL hd' hZ W hH hT hn he 11 1 (by omega)
  have e1 : 4095 &&& bhk Z (fun i => H.testBit i) 4095 T = ic Z (fun i => !s.testBit i) T (2 ^ n - 1) 1 := by
    show _ = (2 ^ n - 1) &&& bhk Z (fun i => !s.testBit i) (2 ^ n - 1) T
    have ones : ∀ i, (4095 : Nat).testBit i = decide (i < 12) := fun i => ones_bit 12 i
    have eb : bhk Z (fun i => H.testBit i) 4095 T = bhk Z (fun i => !s.testBit i) (2 ^ n - 1) T := bhk_c T he (fun i hi => by
      have y := w_r hZ (i := i) (by omega)
      rw [ones, ones_bit, decide_eq_true (show wa Z i < 12 by omega), decide_eq_true (show wa Z i < n by omega)])
    rw [eb]
    have lt := bhk_lt hZ (hd := fun i => !s.testBit i) (P := 2 ^ n - 1) hn T (by omega)
    apply bits_ext
    intro i
    rw [Nat.testBit_and, Nat.testBit_and, ones, ones_bit]
    cases t : (bhk Z (fun i => !s.testBit i) (2 ^ n - 1) T).testBit i
    · rw [Bool.and_false, Bool.and_false]
    · have := bit_lt lt t
      rw [decide_eq_true (show i < 12 by omega), decide_eq_true this]
  have e0 : X (129, 6, [aR d, aI H, aI 4095, aI 0], [], h) = X (129, 6, [aR d, aI H, aI ((ic Z (fun i => !s.testBit i) T (2 ^ n - 1) 1 : Nat) : Int), aI ((1 : Nat) : Int)], [], h) := by
    have sb := s_behind hd' hZ W (H := H) (P := 4095) (by omega) (by omega) hT
    have sb : X (127, 0, [aR d, aI H, aI 4095, aN, aN], [], h) = _ := sb
    rw [e129_6 hd', cd_f (by decide), cd_f (by decide), sb, bI_some, show (4095 : Int) = ((4095 : Nat) : Int) from rfl, jand_n (by omega) (by omega), e1]
    rfl
  rw [e129_0 hd', e0, ih]
