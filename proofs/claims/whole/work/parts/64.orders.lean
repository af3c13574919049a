/-! orders -/
theorem racc_bit (b : Nat → Bool) : ∀ n i, (racc b n).testBit i = (decide (i < n) && b i)
  | 0, i => by
    show (0 : Nat).testBit i = _
    rw [Nat.zero_testBit, decide_eq_false (by omega)]; rfl
  | n + 1, i => by
    show (racc b n ||| cond (b n) (2 ^ n) 0).testBit i = _
    rw [Nat.testBit_or, racc_bit b n i]
    by_cases e : i = n
    · subst e
      rw [decide_eq_false (by omega), decide_eq_true (by omega)]
      cases t : b i
      · rw [cond_f, Nat.zero_testBit]; rfl
      · rw [cond_t, pow_bit, decide_eq_true rfl]; rfl
    · have z : (cond (b n) (2 ^ n) 0).testBit i = false := by
        cases b n
        · rw [cond_f, Nat.zero_testBit]
        · rw [cond_t, pow_bit, decide_eq_false (fun q => e q.symm)]
      rw [z, Bool.or_false]
      by_cases c : i < n
      · rw [decide_eq_true c, decide_eq_true (by omega)]
      · rw [decide_eq_false c, decide_eq_false (by omega)]
theorem bhk_bit (Z : Int → Int) (hd : Nat → Bool) (P : Nat) : ∀ k y, (bhk Z hd P k).testBit y = true ↔ ∃ w, w < k ∧ hd w = true ∧ P.testBit (wa Z w) = true ∧ wb Z w = y
  | 0, y => by
    show (0 : Nat).testBit y = true ↔ _
    rw [Nat.zero_testBit]
    exact ⟨fun z => absurd z (by decide), fun ⟨w, a, _⟩ => by omega⟩
  | k + 1, y => by
    show (bhk Z hd P k ||| cond (hd k && P.testBit (wa Z k)) (2 ^ wb Z k) 0).testBit y = true ↔ _
    rw [Nat.testBit_or, Bool.or_eq_true, bhk_bit Z hd P k y]
    constructor
    · rintro (⟨w, a, b⟩ | z)
      · exact ⟨w, by omega, b⟩
      · cases t : hd k && P.testBit (wa Z k)
        · rw [t, cond_f, Nat.zero_testBit] at z; exact absurd z (by decide)
        · rw [t, cond_t, pow_bit, decide_eq_true_eq] at z
          rw [Bool.and_eq_true] at t
          exact ⟨k, by omega, t.1, t.2, z⟩
    · rintro ⟨w, a, b, c, d⟩
      by_cases e : w = k
      · subst e
        refine Or.inr ?_
        rw [b, c, Bool.and_self, cond_t, pow_bit, decide_eq_true_eq]; exact d
      · exact Or.inl ⟨w, by omega, b, c, d⟩
theorem dif_le (a b : Nat) : dif a b ≤ a := by
  have e : dif a b &&& a = dif a b := bits_ext (fun i => by
    rw [Nat.testBit_and, dif_bit]
    cases a.testBit i <;> cases b.testBit i <;> rfl)
  have := Nat.and_le_right (n := dif a b) (m := a)
  omega
theorem dif_eq {a k : Nat} : dif a (2 ^ k) = a ↔ a.testBit k = false := by
  constructor
  · intro h
    have := dif_bit a (2 ^ k) k
    rw [h, pow_bit, decide_eq_true rfl] at this
    cases t : a.testBit k
    · rfl
    · rw [t] at this; exact absurd this (by decide)
  · intro h
    apply bits_ext
    intro i
    rw [dif_bit, pow_bit]
    by_cases e : k = i
    · subst e; rw [h]; rfl
    · rw [decide_eq_false e]; cases a.testBit i <;> rfl
theorem dif_0 {a b : Nat} : dif a b = 0 ↔ ∀ i, a.testBit i = true → b.testBit i = true := by
  constructor
  · intro h i hi
    have := dif_bit a b i
    rw [h, Nat.zero_testBit, hi] at this
    cases t : b.testBit i
    · rw [t] at this; exact absurd this (by decide)
    · rfl
  · intro h
    apply bits_ext
    intro i
    rw [dif_bit, Nat.zero_testBit]
    cases t : a.testBit i
    · rfl
    · rw [h i t]; rfl
theorem pcb_s (p k : Nat) : pcb p (k + 1) = pcb p k + (if p.testBit k = true then 1 else 0) := rfl
theorem pcb_up (p : Nat) : ∀ (d k : Nat), pcb p k ≤ pcb p (k + d)
  | 0, k => Nat.le_refl _
  | d + 1, k => by
    have := pcb_up p d k
    have e : pcb p (k + (d + 1)) = pcb p (k + d) + (if p.testBit (k + d) = true then 1 else 0) := rfl
    omega
/-- the j-th of a set -/
def mq (p j : Nat) : Nat → Nat
  | 0 => 0
  | k + 1 => if p.testBit k = true ∧ pcb p k = j then k else mq p j k
theorem mq_ok {p j : Nat} : ∀ k, j < pcb p k → p.testBit (mq p j k) = true ∧ mq p j k < k ∧ pcb p (mq p j k) = j
  | 0, h => by
    have : pcb p 0 = 0 := rfl
    omega
  | k + 1, h => by
    have e : mq p j (k + 1) = if p.testBit k = true ∧ pcb p k = j then k else mq p j k := rfl
    rw [e]
    by_cases c : p.testBit k = true ∧ pcb p k = j
    · rw [if_pos c]; exact ⟨c.1, by omega, c.2⟩
    · rw [if_neg c]
      rw [pcb_s] at h
      have h' : j < pcb p k := by
        by_cases t : p.testBit k = true
        · rw [if_pos t] at h
          have : pcb p k ≠ j := fun z => c ⟨t, z⟩
          omega
        · rw [if_neg t] at h; omega
      obtain ⟨a, b, d⟩ := mq_ok k h'
      exact ⟨a, by omega, d⟩
def mm (p j : Nat) : Nat := mq p j 12
theorem mm_ok {p j : Nat} (h : j < pc p) : p.testBit (mm p j) = true ∧ mm p j < 12 ∧ pcb p (mm p j) = j := mq_ok 12 h
theorem mm_of {p x : Nat} (hp : p < 4096) (h : p.testBit x = true) : pcb p x < pc p ∧ mm p (pcb p x) = x := by
  have x12 : x < 12 := bit_lt (n := 12) hp h
  have a : pcb p x < pc p := by
    have u := pcb_up p (12 - (x + 1)) (x + 1)
    rw [show x + 1 + (12 - (x + 1)) = 12 by omega, pcb_s, if_pos h] at u
    have e : pc p = pcb p 12 := rfl
    omega
  refine ⟨a, ?_⟩
  obtain ⟨b, c, d⟩ := mm_ok a
  by_cases e : mm p (pcb p x) < x
  · have u := pcb_up p (x - (mm p (pcb p x) + 1)) (mm p (pcb p x) + 1)
    rw [show mm p (pcb p x) + 1 + (x - (mm p (pcb p x) + 1)) = x by omega, pcb_s, if_pos b, d] at u
    omega
  · by_cases e2 : x < mm p (pcb p x)
    · have u := pcb_up p (mm p (pcb p x) - (x + 1)) (x + 1)
      rw [show x + 1 + (mm p (pcb p x) - (x + 1)) = mm p (pcb p x) by omega, pcb_s, if_pos h, d] at u
      omega
    · omega
theorem s_choose {p : Nat} (hp : p < 4096) (h8 : pc p ≤ 8) : ∀ (k i : Nat) (h : Hp), i + k = 12 → (∀ x, x < i → p.testBit x = true → h 77 (pcb p x : Nat) = (x : Int)) → ∃ g, X (169, 4, [aR 76, aI p, aI ((pcb p i : Nat) : Int), aI i], [], h) = some (some (pc p : Int), g) ∧ (∀ q, q ≠ 77 → g q = h q) ∧ ∀ x, p.testBit x = true → g 77 (pcb p x : Nat) = (x : Int)
  | 0, i, h, hk, H => by
    have e : i = 12 := by omega
    subst e
    refine ⟨h, ?_, fun _ _ => rfl, fun x hx => H x (bit_lt (n := 12) hp hx) hx⟩
    rw [e169_4, cd_t (by decide)]; rfl
  | k + 1, i, h, hk, H => by
    have up1 := pcb_up p (12 - (i + 1)) (i + 1)
    rw [show i + 1 + (12 - (i + 1)) = 12 by omega, pcb_s] at up1
    have ep : pc p = pcb p 12 := rfl
    have pi : pcb p i ≤ 8 := by omega
    rw [e169_4, wr_id (x := (i : Int)) (by omega) (by omega), cd_f (by omega), wr_id (x := ((pcb p i : Nat) : Int)) (by omega) (by omega), bit_b (by omega) (by omega), d_bi0]
    by_cases f8 : 8 ≤ pcb p i
    · rw [cd_t (by omega)]
      have e8 : pcb p i = pc p := by omega
      refine ⟨h, by rw [e8], fun _ _ => rfl, fun x hx => ?_⟩
      by_cases xi : x < i
      · exact H x xi hx
      · exfalso
        have a := (mm_of hp hx).1
        have u := pcb_up p (x - i) i
        rw [show i + (x - i) = x by omega] at u
        omega
    · rw [cd_f (by omega)]
      have es := pcb_s p i
      cases t : p.testBit i
      · have es : pcb p (i + 1) = pcb p i := by rw [pcb_s, t, if_neg (by decide)]; rfl
        rw [Bool.not_false, cond_t, show (i : Int) + 1 = ((i + 1 : Nat) : Int) by omega, ← es]
        exact s_choose hp h8 k (i + 1) h (by omega) (fun x hx hb => by
          by_cases e : x = i
          · subst e; rw [t] at hb; exact absurd hb (by decide)
          · exact H x (by omega) hb)
      · rw [t, if_pos rfl] at es
        rw [Bool.not_true, cond_f, inb_t (by omega) (by omega) (by omega), cond_t, show (i : Int) + 1 = ((i + 1 : Nat) : Int) by omega, show ((pcb p i : Nat) : Int) + 1 = ((pcb p (i + 1) : Nat) : Int) by omega]
        obtain ⟨g, g1, g2, g3⟩ := s_choose hp h8 k (i + 1) (up h 77 (pcb p i : Nat) i) (by omega) (fun x hx hb => by
          by_cases e : x = i
          · subst e; rw [up_s]
          · have u := pcb_up p (i - (x + 1)) (x + 1)
            rw [show x + 1 + (i - (x + 1)) = i by omega, pcb_s, if_pos hb] at u
            rw [up_o _ _ _ (by omega)]
            exact H x (by omega) hb)
        exact ⟨g, g1, fun q hq => by rw [g2 q hq, up_n _ _ _ hq], g3⟩
theorem m_who {Z : Int → Int} (hZ : ZD Z) {p n : Nat} {v2 : Int} (hn : (n : Int) = Z 24) (hp : p < 2 ^ n) (h8 : pc p ≤ 8) : ∀ (k i : Nat) (h : Hp), i + k = n → h 81 = Z → (∀ x, x < i → p.testBit x = true → h 93 (pcb p x : Nat) = (x : Int)) → ∃ g, X (110, 35, [aR 80, aI p, aI v2, aI ((pcb p i : Nat) : Int), aI i, aN, aN, aN], [], h) = X (110, 76, [aR 80, aI p, aI v2, aI (pc p : Int), aI 0, aN, aN, aN], [], g) ∧ (∀ q, q ≠ 93 → g q = h q) ∧ ∀ x, p.testBit x = true → g 93 (pcb p x : Nat) = (x : Int)
  | 0, i, h, hk, h81, H => by
    have e : i = n := by omega
    subst e
    have b := zd_n hZ
    have e12 : pc p = pcb p i := by
      have := pcb_hi hp (12 - i)
      rw [show i + (12 - i) = 12 by omega] at this
      exact this
    refine ⟨h, ?_, fun _ _ => rfl, fun x hx => H x (bit_lt hp hx) hx⟩
    rw [e110_35, h81, ← hn, cd_t (Int.le_refl _), e12]
  | k + 1, i, h, hk, h81, H => by
    have b := zd_n hZ
    have pn := p12 (n := n) (by omega)
    have up1 := pcb_up p (12 - (i + 1)) (i + 1)
    rw [show i + 1 + (12 - (i + 1)) = 12 by omega, pcb_s] at up1
    have ep : pc p = pcb p 12 := rfl
    rw [e110_35, h81, ← hn, wr_id (x := (n : Int)) (by omega) (by omega), wr_id (x := (i : Int)) (by omega) (by omega), cd_f (by omega), m_has (by omega) (by omega), bI_some, d_bi0]
    have es := pcb_s p i
    cases t : p.testBit i
    · have es : pcb p (i + 1) = pcb p i := by rw [pcb_s, t, if_neg (by decide)]; rfl
      rw [Bool.not_false, cond_t, show (i : Int) + 1 = ((i + 1 : Nat) : Int) by omega, ← es]
      exact m_who hZ hn hp h8 k (i + 1) h (by omega) h81 (fun x hx hb => by
        by_cases e : x = i
        · subst e; rw [t] at hb; exact absurd hb (by decide)
        · exact H x (by omega) hb)
    · rw [t, if_pos rfl] at es up1
      rw [Bool.not_true, cond_f, inb_t (by omega) (by omega) (by omega), cond_t, wr_id (x := ((pcb p i : Nat) : Int)) (by omega) (by omega), show (i : Int) + 1 = ((i + 1 : Nat) : Int) by omega, show ((pcb p i : Nat) : Int) + 1 = ((pcb p (i + 1) : Nat) : Int) by omega]
      obtain ⟨g, g1, g2, g3⟩ := m_who hZ (v2 := v2) hn hp h8 k (i + 1) (up h 93 (pcb p i : Nat) i) (by omega) (by rw [up_n _ _ _ (by decide)]; exact h81) (fun x hx hb => by
        by_cases e : x = i
        · subst e; rw [up_s]
        · have u := pcb_up p (i - (x + 1)) (x + 1)
          rw [show x + 1 + (i - (x + 1)) = i by omega, pcb_s, if_pos hb] at u
          rw [up_o _ _ _ (by omega)]
          exact H x (by omega) hb)
      exact ⟨g, g1, fun q hq => by rw [g2 q hq, up_n _ _ _ hq], g3⟩
/-- whom i must have ahead, among the m told -/
def nd (Z : Int → Int) (hd : Nat → Bool) (T p m i : Nat) : Nat := racc (fun k => (bhk Z hd (2 ^ mm p k) T).testBit (mm p i)) m
theorem nd_lt (Z : Int → Int) (hd : Nat → Bool) (T p m i : Nat) (hm : m ≤ 8) : nd Z hd T p m i < 256 := lt_of_bits (n := 8) (fun j hj => by
  unfold nd at hj
  rw [racc_bit, Bool.and_eq_true, decide_eq_true_eq] at hj
  omega)
theorem s_needL {Z : Int → Int} (hZ : ZD Z) {h : Hp} (W : WD 24 Z h) {H p T i : Nat} (hH : H < 4096) (hT : (T : Int) = Z 42) (h8 : pc p ≤ 8) (hi : i < pc p) (hm : ∀ j, j < pc p → h 77 (j : Nat) = (mm p j : Int)) : ∀ (k j : Nat), j + k = pc p → X (170, 6, [aR 76, aI i, aI (pc p : Int), aI H, aR 24, aI ((racc (fun k => (bhk Z (fun i => H.testBit i) (2 ^ mm p k) T).testBit (mm p i)) j : Nat) : Int), aI j], [], h) = some (some ((nd Z (fun i => H.testBit i) T p (pc p) i : Nat) : Int), h)
  | 0, j, hk => by
    have e : j = pc p := by omega
    rw [e, e170_6 (by decide), cd_t (Int.le_refl _)]; rfl
  | k + 1, j, hk => by
    have ih := s_needL hZ W hH hT h8 hi hm k (j + 1) (by omega)
    have mj := mm_ok (p := p) (j := j) (by omega)
    have mi := mm_ok (p := p) (j := i) hi
    have pl : 2 ^ mm p j < 2147483648 := pow_lt (by omega)
    have bl := bhk_31 hZ (hd := fun i => H.testBit i) (P := 2 ^ mm p j) (k := T) (by omega)
    have rl := racc_lt (fun k => (bhk Z (fun i => H.testBit i) (2 ^ mm p k) T).testBit (mm p i)) j (by omega)
    have es : racc (fun k => (bhk Z (fun i => H.testBit i) (2 ^ mm p k) T).testBit (mm p i)) (j + 1) = racc (fun k => (bhk Z (fun i => H.testBit i) (2 ^ mm p k) T).testBit (mm p i)) j ||| cond ((bhk Z (fun i => H.testBit i) (2 ^ mm p j) T).testBit (mm p i)) (2 ^ j) 0 := rfl
    rw [es] at ih
    rw [e170_6 (by decide), wr_id (x := (pc p : Int)) (by omega) (by omega), wr_id (x := (j : Int)) (by omega) (by omega), cd_f (by omega), inb_t (i := (j : Int)) (by omega) (by omega) (by omega), cond_t, hm j (by omega), shl_n (by omega), s_behind (by decide) hZ W (by omega) pl hT, bI_some, inb_t (i := (i : Int)) (by omega) (by omega) (by omega), cond_t, wr_id (x := (i : Int)) (by omega) (by omega), hm i hi, bit_b (by omega) (by omega), d_bi0, shl_n (by omega), jor_n rl (pow_lt (by omega)), show (j : Int) + 1 = ((j + 1 : Nat) : Int) by omega]
    cases t : (bhk Z (fun i => H.testBit i) (2 ^ mm p j) T).testBit (mm p i)
    · rw [t, cond_f, Nat.or_zero] at ih
      rw [Bool.not_false, cond_t]; exact ih
    · rw [t, cond_t] at ih
      rw [Bool.not_true, cond_f]; exact ih
theorem s_needs {Z : Int → Int} (hZ : ZD Z) {H p T : Nat} {a1 : Int} (hH : H < 4096) (hT : (T : Int) = Z 42) (h8 : pc p ≤ 8) : ∀ (k j : Nat) (h : Hp), j + k = pc p → WD 24 Z h → (∀ i, i < pc p → h 77 (i : Nat) = (mm p i : Int)) → (∀ i, i < j → h 78 (i : Nat) = ((nd Z (fun i => H.testBit i) T p (pc p) i : Nat) : Int)) → ∃ g, X (168, 15, [aR 76, aI a1, aR 24, aI (pc p : Int), aI H, aI j, aN, aN, aN, aN], [], h) = X (168, 61, [aR 76, aI a1, aR 24, aI (pc p : Int), aI H, aI ((2 ^ pc p - 1 : Nat) : Int), aI 1, aN, aN, aN], [], g) ∧ (∀ q, q ≠ 78 → q ≠ 79 → g q = h q) ∧ g 79 0 = 1 ∧ ∀ i, i < pc p → g 78 (i : Nat) = ((nd Z (fun i => H.testBit i) T p (pc p) i : Nat) : Int)
  | 0, j, h, hk, W, hm, hd => by
    have e : j = pc p := by omega
    have p0 := Nat.two_pow_pos (pc p)
    refine ⟨up h 79 0 1, ?_, fun q _ q2 => up_n _ _ _ q2, up_s _ _ _ _, fun i hi => by rw [up_n _ _ _ (by decide)]; exact hd i (by omega)⟩
    rw [e, e168_15 (by decide), cd_t (Int.le_refl _), shl_n (by omega), show ((2 ^ pc p : Nat) : Int) - 1 = ((2 ^ pc p - 1 : Nat) : Int) by omega]
  | k + 1, j, h, hk, W, hm, hd => by
    have s0 := s_needL hZ W hH hT h8 (i := j) (by omega) hm (pc p) 0 (by omega)
    have s0 : X (170, 6, [aR 76, aI j, aI (pc p : Int), aI H, aR 24, aI 0, aI 0], [], h) = _ := s0
    obtain ⟨g, g1, g2, g3, g4⟩ := s_needs hZ (a1 := a1) hH hT h8 k (j + 1) (up h 78 (j : Nat) ((nd Z (fun i => H.testBit i) T p (pc p) j : Nat) : Int)) (by omega) (by
      unfold WD at W ⊢
      rw [up_n _ _ _ (by decide), up_n _ _ _ (by decide), up_n _ _ _ (by decide)]
      exact W) (fun i hi => by rw [up_n _ _ _ (by decide)]; exact hm i hi) (fun i hi => by
      by_cases e : i = j
      · subst e; rw [up_s]
      · rw [up_o _ _ _ (by omega)]; exact hd i (by omega))
    refine ⟨g, ?_, fun q q1 q2 => by rw [g2 q q1 q2, up_n _ _ _ q1], g3, g4⟩
    rw [e168_15 (by decide), wr_id (x := (pc p : Int)) (by omega) (by omega), wr_id (x := (j : Int)) (by omega) (by omega), cd_f (by omega), e170_0 (by decide), s0, bI_some, inb_t (by omega) (by omega) (by omega), cond_t, show (j : Int) + 1 = ((j + 1 : Nat) : Int) by omega]
    exact g1
def suz (c : Nat → Bool) (f : Nat → Int) : Nat → Int
  | 0 => 0
  | k + 1 => suz c f k + cond (c k) (f k) 0
theorem suz_c {c d : Nat → Bool} {f g : Nat → Int} : ∀ k, (∀ i, i < k → c i = d i) → (∀ i, i < k → c i = true → f i = g i) → suz c f k = suz d g k
  | 0, _, _ => rfl
  | k + 1, h1, h2 => by
    show suz c f k + cond (c k) (f k) 0 = suz d g k + cond (d k) (g k) 0
    rw [suz_c k (fun i hi => h1 i (by omega)) (fun i hi => h2 i (by omega)), ← h1 k (by omega)]
    cases t : c k
    · rfl
    · rw [cond_t, cond_t, h2 k (by omega) t]
/-- i may be the last of s -/
def cs (Z : Int → Int) (hd : Nat → Bool) (T p m s i : Nat) : Bool := s.testBit i && decide (dif (nd Z hd T p m i) (dif s (2 ^ i)) = 0)
theorem s_sumL {h : Hp} {Z : Int → Int} {hd : Nat → Bool} {T p s : Nat} {a1 a4 a5 : Int} (h8 : pc p ≤ 8) (hs : s < 256) (hn : ∀ i, i < pc p → h 78 (i : Nat) = ((nd Z hd T p (pc p) i : Nat) : Int)) : ∀ (k j : Nat) (w9 : AV), j + k = pc p → ∃ w : AV, X (168, 74, [aR 76, aI a1, aR 24, aI (pc p : Int), aI a4, aI a5, aI s, aI (suz (cs Z hd T p (pc p) s) (fun i => h 79 (dif s (2 ^ i) : Nat)) j), aI j, w9], [], h) = X (168, 61, [aR 76, aI a1, aR 24, aI (pc p : Int), aI a4, aI a5, aI ((s + 1 : Nat) : Int), aI (suz (cs Z hd T p (pc p) s) (fun i => h 79 (dif s (2 ^ i) : Nat)) (pc p)), aI (pc p : Int), w], [], up h 79 (s : Nat) (suz (cs Z hd T p (pc p) s) (fun i => h 79 (dif s (2 ^ i) : Nat)) (pc p)))
  | 0, j, w9, hk => by
    have e : j = pc p := by omega
    refine ⟨w9, ?_⟩
    rw [e, e168_74 (by decide), cd_t (Int.le_refl _), inb_t (by omega) (by omega) (by omega), cond_t, wr_id (x := (s : Int)) (by omega) (by omega)]
    rfl
  | k + 1, j, w9, hk => by
    have ih := fun w9 => s_sumL (a1 := a1) (a4 := a4) (a5 := a5) h8 hs hn k (j + 1) w9 (by omega)
    have es : suz (cs Z hd T p (pc p) s) (fun i => h 79 (dif s (2 ^ i) : Nat)) (j + 1) = suz (cs Z hd T p (pc p) s) (fun i => h 79 (dif s (2 ^ i) : Nat)) j + cond (cs Z hd T p (pc p) s j) (h 79 (dif s (2 ^ j) : Nat)) 0 := rfl
    rw [es] at ih
    have dl := dif_le s (2 ^ j)
    have nl := nd_lt Z hd T p (pc p) j h8
    have nd2 := dif_le (nd Z hd T p (pc p) j) (dif s (2 ^ j))
    rw [e168_74 (by decide), wr_id (x := (pc p : Int)) (by omega) (by omega), wr_id (x := (j : Int)) (by omega) (by omega), cd_f (by omega), shl_n (by omega), jdif_n (by omega), wr_id (x := ((dif s (2 ^ j) : Nat) : Int)) (by omega) (by omega), wr_id (x := (s : Int)) (by omega) (by omega), inb_t (i := (j : Int)) (by omega) (by omega) (by omega), cond_t, hn j (by omega), jdif_n (by omega), wr_id (x := ((dif (nd Z hd T p (pc p) j) (dif s (2 ^ j)) : Nat) : Int)) (by omega) (by omega), inb_t (i := ((dif s (2 ^ j) : Nat) : Int)) (by omega) (by omega) (by omega), cond_t, show (j : Int) + 1 = ((j + 1 : Nat) : Int) by omega]
    unfold cs at ih
    by_cases t : s.testBit j = true
    · have ne : dif s (2 ^ j) ≠ s := fun z => by rw [dif_eq.mp z] at t; exact absurd t (by decide)
      rw [cd_f (by omega)]
      by_cases z : dif (nd Z hd T p (pc p) j) (dif s (2 ^ j)) = 0
      · rw [t, decide_eq_true z, Bool.and_self, cond_t] at ih
        rw [cd_f (by omega)]; exact ih _
      · rw [t, decide_eq_false z, Bool.and_false, cond_f, Int.add_zero] at ih
        rw [cd_t (by omega)]; exact ih _
    · have t : s.testBit j = false := by
        cases q : s.testBit j
        · rfl
        · exact absurd q t
      have ee := dif_eq.mpr t
      rw [t, Bool.false_and, cond_f, Int.add_zero] at ih
      rw [cd_t (by omega)]
      exact ih _
/-- the counts by sets, up to one -/
def VW (V : Int → Int) (Z : Int → Int) (hd : Nat → Bool) (T p hi : Nat) : Prop := V 0 = 1 ∧ ∀ s : Nat, 1 ≤ s → s < hi → V s = suz (cs Z hd T p (pc p) s) (fun i => V (dif s (2 ^ i) : Nat)) (pc p)
theorem s_ways {Z : Int → Int} {hd : Nat → Bool} {T p : Nat} {a1 a4 : Int} (h8 : pc p ≤ 8) : ∀ (k s : Nat) (w7 w8 w9 : AV) (h : Hp), s + k = 2 ^ pc p → 1 ≤ s → (∀ i, i < pc p → h 78 (i : Nat) = ((nd Z hd T p (pc p) i : Nat) : Int)) → VW (h 79) Z hd T p s → ∃ g, X (168, 61, [aR 76, aI a1, aR 24, aI (pc p : Int), aI a4, aI ((2 ^ pc p - 1 : Nat) : Int), aI s, w7, w8, w9], [], h) = some (some (g 79 ((2 ^ pc p - 1 : Nat) : Int)), g) ∧ (∀ q, q ≠ 79 → g q = h q) ∧ VW (g 79) Z hd T p (2 ^ pc p)
  | k, s, w7, w8, w9, h, hk, s1, hn, V => by
    have p256 : 2 ^ pc p ≤ 256 := Nat.pow_le_pow_right (n := 2) (by decide) h8
    rw [e168_61 (by decide), wr_id (x := ((2 ^ pc p - 1 : Nat) : Int)) (by omega) (by omega), wr_id (x := (s : Int)) (by omega) (by omega), inb_t (by omega) (by omega) (by omega), cond_t]
    cases k with
    | zero =>
      have e : s = 2 ^ pc p := by omega
      rw [cd_t (by omega)]
      exact ⟨h, rfl, fun _ _ => rfl, by rw [← e]; exact V⟩
    | succ k =>
      rw [cd_f (by omega)]
      obtain ⟨w, a1'⟩ := s_sumL (a1 := a1) (a4 := a4) (a5 := ((2 ^ pc p - 1 : Nat) : Int)) (s := s) h8 (by omega) hn (pc p) 0 w9 (by omega)
      have a1' : X (168, 74, [aR 76, aI a1, aR 24, aI (pc p : Int), aI a4, aI ((2 ^ pc p - 1 : Nat) : Int), aI s, aI 0, aI 0, w9], [], h) = _ := a1'
      generalize hq : suz (cs Z hd T p (pc p) s) (fun i => h 79 (dif s (2 ^ i) : Nat)) (pc p) = q at a1'
      have o : ∀ x : Nat, x < s → up h 79 (s : Nat) q 79 (x : Nat) = h 79 (x : Nat) := fun x hx => up_o _ _ _ (by omega)
      obtain ⟨g, g1, g2, g3⟩ := s_ways (Z := Z) (hd := hd) (T := T) (a1 := a1) (a4 := a4) h8 k (s + 1) (aI q) (aI (pc p : Int)) w (up h 79 (s : Nat) q) (by omega) (by omega) (fun i hi => by rw [up_n _ _ _ (by decide)]; exact hn i hi) ⟨by rw [up_o _ _ _ (by omega)]; exact V.1, fun x x0 x1 => by
        have sub : ∀ i, i < pc p → cs Z hd T p (pc p) x i = true → up h 79 (s : Nat) q 79 (dif x (2 ^ i) : Nat) = h 79 (dif x (2 ^ i) : Nat) := fun i hi hc => by
          refine o _ ?_
          have dl := dif_le x (2 ^ i)
          unfold cs at hc
          rw [Bool.and_eq_true] at hc
          have ne : dif x (2 ^ i) ≠ x := fun z => by
            have := dif_eq.mp z
            rw [hc.1] at this; exact absurd this (by decide)
          omega
        by_cases e : x = s
        · subst e
          rw [up_s]
          exact hq.symm.trans (suz_c _ (fun _ _ => rfl) (fun i hi hc => (sub i hi hc).symm))
        · rw [o x (by omega), V.2 x x0 (by omega)]
          exact suz_c _ (fun _ _ => rfl) (fun i hi hc => (sub i hi hc).symm)⟩
      exact ⟨g, a1'.trans g1, fun r hr => by rw [g2 r hr, up_n _ _ _ hr], g3⟩
theorem vw_u {V U : Int → Int} {Z : Int → Int} {hd : Nat → Bool} {T p hi : Nat} (H : VW V Z hd T p hi) (H' : VW U Z hd T p hi) : ∀ s : Nat, s < hi → U s = V s := by
  intro s
  induction s using Nat.strongRecOn with
  | _ s ih =>
    intro hs
    by_cases z : s = 0
    · subst z
      show U 0 = V 0
      rw [H.1, H'.1]
    · rw [H.2 s (by omega) hs, H'.2 s (by omega) hs]
      refine suz_c _ (fun _ _ => rfl) (fun i hi hc => ?_)
      have dl := dif_le s (2 ^ i)
      unfold cs at hc
      rw [Bool.and_eq_true] at hc
      have ne : dif s (2 ^ i) ≠ s := fun z => by
        have := dif_eq.mp z
        rw [hc.1] at this; exact absurd this (by decide)
      exact ih _ (by omega) (by omega)
