/-! rounds -/
def wP (e : Nat → Nat → Bool) : Nat → Nat → Nat → Bool
  | 0, a, b => e a b
  | t + 1, a, b => wP e t a b || (wP e t a t && wP e t t b)
theorem wP_s {e : Nat → Nat → Bool} {t a b : Nat} : wP e (t + 1) a b = true ↔ wP e t a b = true ∨ (wP e t a t = true ∧ wP e t t b = true) := by
  show (wP e t a b || (wP e t a t && wP e t t b)) = true ↔ _
  rw [Bool.or_eq_true, Bool.and_eq_true]
theorem wP_e {e : Nat → Nat → Bool} {a b : Nat} (h : e a b = true) : ∀ t, wP e t a b = true
  | 0 => h
  | t + 1 => wP_s.mpr (Or.inl (wP_e h t))
theorem wP_tr {e : Nat → Nat → Bool} : ∀ (t a m b : Nat), m < t → wP e t a m = true → wP e t m b = true → wP e t a b = true
  | 0, a, m, b, h, _, _ => by omega
  | t + 1, a, m, b, h, h1, h2 => by
    have h1 := wP_s.mp h1
    have h2 := wP_s.mp h2
    apply wP_s.mpr
    by_cases c : m = t
    · subst c
      have x1 : wP e m a m = true := by
        rcases h1 with y | y
        · exact y
        · exact y.1
      have x2 : wP e m m b = true := by
        rcases h2 with y | y
        · exact y
        · exact y.2
      exact Or.inr ⟨x1, x2⟩
    · have hm : m < t := by omega
      rcases h1 with y | ⟨y1, y2⟩
      · rcases h2 with z | ⟨z1, z2⟩
        · exact Or.inl (wP_tr t a m b hm y z)
        · exact Or.inr ⟨wP_tr t a m t hm y z1, z2⟩
      · rcases h2 with z | ⟨z1, z2⟩
        · exact Or.inr ⟨y1, wP_tr t t m b hm y2 z⟩
        · exact Or.inr ⟨y1, z2⟩
/-- a pass over the pairs -/
def pp (Z : Int → Int) (q : Nat) : Nat → Nat → Nat
  | 0, S => S
  | k + 1, S => if Z (26 + 2 * (k : Int)) = q ∨ (pp Z q k S).testBit (Z (26 + 2 * (k : Int))).toNat = true then pp Z q k S ||| 2 ^ (Z (27 + 2 * (k : Int))).toNat else pp Z q k S
theorem pp_s (Z : Int → Int) (q k S : Nat) : pp Z q (k + 1) S = if Z (26 + 2 * (k : Int)) = q ∨ (pp Z q k S).testBit (Z (26 + 2 * (k : Int))).toNat = true then pp Z q k S ||| 2 ^ (Z (27 + 2 * (k : Int))).toNat else pp Z q k S := rfl
theorem pp_st {Z : Int → Int} {q k S i : Nat} (h : (pp Z q k S).testBit i = true) : (pp Z q (k + 1) S).testBit i = true := by
  rw [pp_s]
  split
  · rw [Nat.testBit_or, h]; rfl
  · exact h
theorem pp_mono {Z : Int → Int} {q S i : Nat} : ∀ (d k : Nat), (pp Z q k S).testBit i = true → (pp Z q (k + d) S).testBit i = true
  | 0, k, h => h
  | d + 1, k, h => by
    have := pp_mono d k h
    exact pp_st this
theorem pp_lt {Z : Int → Int} (hZ : ZD Z) {q S : Nat} (hS : S < 64) : ∀ k : Nat, (k : Int) ≤ Z 25 → pp Z q k S < 64
  | 0, _ => hS
  | k + 1, h => by
    have ih := pp_lt hZ (q := q) hS k (by omega)
    have y := (hZ.2.2.2.2.1.2 k (by omega) (show (k : Int) < Z 25 by omega)).2
    have y : 0 ≤ Z (27 + 2 * (k : Int)) ∧ Z (27 + 2 * (k : Int)) < 6 := y
    rw [pp_s]
    split
    · exact Nat.or_lt_two_pow (n := 6) ih (Nat.pow_lt_pow_right (by decide) (by omega))
    · exact ih
def eZ (Z : Int → Int) (a b : Nat) : Bool := zP Z a b
theorem pp_sound {Z : Int → Int} (hZ : ZD Z) {q S : Nat} (hS : S < 64) (hq : q < 6) (h : ∀ i, S.testBit i = true → wP (eZ Z) 6 q i = true) : ∀ k : Nat, (k : Int) ≤ Z 25 → ∀ i, (pp Z q k S).testBit i = true → wP (eZ Z) 6 q i = true
  | 0, _, i, hi => h i hi
  | k + 1, hk, i, hi => by
    have ih := pp_sound hZ hS hq h k (by omega)
    have y := hZ.2.2.2.2.1.2 k (by omega) (show (k : Int) < Z 25 by omega)
    have y1 : 0 ≤ Z (26 + 2 * (k : Int)) ∧ Z (26 + 2 * (k : Int)) < 6 := y.1
    have y2 : 0 ≤ Z (27 + 2 * (k : Int)) ∧ Z (27 + 2 * (k : Int)) < 6 := y.2
    rw [pp_s] at hi
    by_cases c : Z (26 + 2 * (k : Int)) = q ∨ (pp Z q k S).testBit (Z (26 + 2 * (k : Int))).toNat = true
    · rw [if_pos c, Nat.testBit_or, Bool.or_eq_true, pow_bit, decide_eq_true_eq] at hi
      rcases hi with hi | hi
      · exact ih i hi
      · have ed : eZ Z (Z (26 + 2 * (k : Int))).toNat i = true := by
          unfold eZ
          refine (zP_iff hZ).mpr ⟨k, by omega, by omega, by omega, by omega⟩
        rcases c with c | c
        · rw [show (Z (26 + 2 * (k : Int))).toNat = q by omega] at ed
          exact wP_e ed 6
        · exact wP_tr 6 q _ i (by omega) (ih _ c) (wP_e ed 6)
    · rw [if_neg c] at hi
      exact ih i hi
theorem pp_closed {Z : Int → Int} {q N S : Nat} (h : pp Z q N S = S) {k : Nat} (hk : k < N) (c : Z (26 + 2 * (k : Int)) = q ∨ S.testBit (Z (26 + 2 * (k : Int))).toNat = true) : S.testBit (Z (27 + 2 * (k : Int))).toNat = true := by
  have up1 : ∀ j, j ≤ N → ∀ i, (pp Z q j S).testBit i = true → S.testBit i = true := fun j hj i hi => by
    have := pp_mono (N - j) j hi
    rw [show j + (N - j) = N by omega, h] at this
    exact this
  have c' : Z (26 + 2 * (k : Int)) = q ∨ (pp Z q k S).testBit (Z (26 + 2 * (k : Int))).toNat = true := c.imp id (fun z => by
    have := pp_mono (Z := Z) (q := q) (S := S) k 0 z
    rw [Nat.zero_add] at this
    exact this)
  refine up1 (k + 1) (by omega) _ ?_
  rw [pp_s, if_pos c', Nat.testBit_or, pow_bit, decide_eq_true rfl, Bool.or_true]
def tu (Z : Int → Int) (q N : Nat) : Nat → Nat
  | 0 => 0
  | n + 1 => pp Z q N (tu Z q N n)
theorem pc_st : ∀ a, a < 64 → ∀ b, b < 64 → a &&& b = a → a ≠ b → pc a + 1 ≤ pc b := by decide +kernel
theorem pc_6 : ∀ a, a < 64 → 6 ≤ pc a → a = 63 := by decide +kernel
theorem tu_lt {Z : Int → Int} (hZ : ZD Z) {q N : Nat} (hN : (N : Int) ≤ Z 25) : ∀ n, tu Z q N n < 64
  | 0 => by show 0 < 64; omega
  | n + 1 => pp_lt hZ (tu_lt hZ hN n) N hN
theorem tu_fix {Z : Int → Int} (hZ : ZD Z) {q N : Nat} (hN : (N : Int) ≤ Z 25) : ∀ n, pp Z q N (tu Z q N n) = tu Z q N n ∨ n ≤ pc (tu Z q N n)
  | 0 => Or.inr (Nat.zero_le _)
  | n + 1 => by
    by_cases c : pp Z q N (tu Z q N n) = tu Z q N n
    · have e : tu Z q N (n + 1) = tu Z q N n := c
      rw [e]; exact Or.inl c
    · have ih := (tu_fix hZ hN n).resolve_left c
      have l1 := tu_lt (q := q) hZ hN n
      have l2 := tu_lt (q := q) hZ hN (n + 1)
      have sub : tu Z q N n &&& tu Z q N (n + 1) = tu Z q N n := bits_ext (fun i => by
        rw [Nat.testBit_and]
        cases t : (tu Z q N n).testBit i
        · rfl
        · have := pp_mono (Z := Z) (q := q) (S := tu Z q N n) N 0 t
          rw [Nat.zero_add] at this
          have e : tu Z q N (n + 1) = pp Z q N (tu Z q N n) := rfl
          rw [e, this]; rfl)
      have := pc_st _ l1 _ l2 sub (fun z => c z.symm)
      exact Or.inr (by omega)
theorem tu_6 {Z : Int → Int} (hZ : ZD Z) {q N : Nat} (hN : (N : Int) ≤ Z 25) : pp Z q N (tu Z q N 6) = tu Z q N 6 := by
  rcases tu_fix (q := q) hZ hN 6 with h | h
  · exact h
  · have e := pc_6 _ (tu_lt hZ hN 6) h
    have l := pp_lt (q := q) hZ (tu_lt (q := q) hZ hN 6) N hN
    apply bits_ext
    intro i
    rw [e] at l ⊢
    by_cases c : i < 6
    · have t : (63 : Nat).testBit i = true := by
        have := ones_bit 6 i
        rw [show 2 ^ 6 - 1 = 63 from rfl, decide_eq_true c] at this
        exact this
      have := pp_mono (Z := Z) (q := q) (S := 63) N 0 t
      rw [Nat.zero_add] at this
      rw [this, t]
    · have t : (63 : Nat).testBit i = false := by
        have := ones_bit 6 i
        rw [show 2 ^ 6 - 1 = 63 from rfl, decide_eq_false c] at this
        exact this
      rw [t]
      cases z : (pp Z q N 63).testBit i
      · rfl
      · exact absurd (bit_lt (n := 6) l z) c
theorem tu_sound {Z : Int → Int} (hZ : ZD Z) {q N : Nat} (hN : (N : Int) ≤ Z 25) (hq : q < 6) : ∀ n i, (tu Z q N n).testBit i = true → wP (eZ Z) 6 q i = true
  | 0, i, h => by
    have h : (0 : Nat).testBit i = true := h
    rw [Nat.zero_testBit] at h
    exact absurd h (by decide)
  | n + 1, i, h => pp_sound hZ (tu_lt hZ hN n) hq (tu_sound hZ hN hq n) N hN i h
theorem tu_full {Z : Int → Int} (hZ : ZD Z) {q N : Nat} (hN : (N : Int) = Z 25) (hq : q < 6) : ∀ t, t ≤ 6 → ∀ a b, a < 6 → b < 6 → wP (eZ Z) t a b = true → (a = q ∨ (tu Z q N 6).testBit a = true) → (tu Z q N 6).testBit b = true
  | 0, _, a, b, ha, hb, h, c => by
    have h : zP Z a b = true := h
    obtain ⟨k, k0, k1, k2, k3⟩ := (zP_iff hZ).mp h
    obtain ⟨kn, rfl⟩ : ∃ kn : Nat, k = kn := ⟨k.toNat, by omega⟩
    have := pp_closed (tu_6 (q := q) hZ (by omega : (N : Int) ≤ Z 25)) (k := kn) (by omega) (by
      rw [k2]
      exact c.imp (fun z => by rw [z]) (fun z => by rw [show ((a : Int)).toNat = a by omega]; exact z))
    rw [k3, show ((b : Int)).toNat = b by omega] at this
    exact this
  | t + 1, ht, a, b, ha, hb, h, c => by
    rcases wP_s.mp h with y | ⟨y1, y2⟩
    · exact tu_full hZ hN hq t (by omega) a b ha hb y c
    · have := tu_full hZ hN hq t (by omega) a t ha (by omega) y1 c
      exact tu_full hZ hN hq t (by omega) t b (by omega) hb y2 (Or.inr this)
theorem tu_iff {Z : Int → Int} (hZ : ZD Z) {q N : Nat} (hN : (N : Int) = Z 25) (hq : q < 6) : (tu Z q N 6).testBit q = wP (eZ Z) 6 q q := by
  cases t : (tu Z q N 6).testBit q
  · cases s : wP (eZ Z) 6 q q
    · rfl
    · have := tu_full hZ hN hq 6 (Nat.le_refl 6) q q hq hq s (Or.inl rfl)
      rw [this] at t; exact absurd t (by decide)
  · exact (tu_sound hZ (by omega) hq 6 q t).symm
def racc (b : Nat → Bool) : Nat → Nat
  | 0 => 0
  | n + 1 => racc b n ||| cond (b n) (2 ^ n) 0
theorem racc_lt (b : Nat → Bool) : ∀ n, n ≤ 30 → racc b n < 2147483648
  | 0, _ => by show 0 < _; omega
  | n + 1, h => by
    show racc b n ||| cond (b n) (2 ^ n) 0 < _
    refine or_lt (racc_lt b n (by omega)) ?_
    cases b n
    · show 0 < _; omega
    · exact pow_lt (by omega)
theorem racc_c {b c : Nat → Bool} : ∀ n, (∀ i, i < n → b i = c i) → racc b n = racc c n
  | 0, _ => rfl
  | n + 1, h => by
    show racc b n ||| cond (b n) (2 ^ n) 0 = racc c n ||| cond (c n) (2 ^ n) 0
    rw [racc_c n (fun i hi => h i (by omega)), h n (by omega)]
theorem and_pow (x n : Nat) : x &&& 2 ^ n = cond (x.testBit n) (2 ^ n) 0 := by
  apply bits_ext
  intro i
  rw [Nat.testBit_and, pow_bit]
  by_cases c : n = i
  · subst c
    rw [decide_eq_true rfl, Bool.and_true]
    cases t : x.testBit n
    · rw [cond_f, Nat.zero_testBit]
    · rw [cond_t, pow_bit, decide_eq_true rfl]
  · rw [decide_eq_false c, Bool.and_false]
    cases x.testBit n
    · rw [cond_f, Nat.zero_testBit]
    · rw [cond_t, pow_bit, decide_eq_false c]
/-- rows of the class's reach -/
def WR (w : Nat → Nat → Bool) (h : Hp) : Prop := ∀ a : Nat, a < 6 → ∃ x : Nat, h 18 a = x ∧ x < 64 ∧ ∀ b, b < 6 → x.testBit b = w a b
def wn (w : Nat → Nat → Bool) (t a b : Nat) : Bool := w a b || (w a t && w t b)
def wm (w : Nat → Nat → Bool) (t v a b : Nat) : Bool := if a < v then wn w t a b else w a b
theorem wm_t {w : Nat → Nat → Bool} {t v a b : Nat} (h : a < v) : wm w t v a b = wn w t a b := if_pos h
theorem wm_f {w : Nat → Nat → Bool} {t v a b : Nat} (h : ¬ a < v) : wm w t v a b = w a b := if_neg h
theorem s_warIn {w : Nat → Nat → Bool} {t : Nat} (ht : t < 6) : ∀ (k v : Nat) (h : Hp), v + k = 6 → (WR (wm w t v) h) → ∃ h', X (167, 25, [aR 16, aI t, aI v], [], h) = X (167, 17, [aR 16, aI ((t + 1 : Nat) : Int), aI 6], [], h') ∧ (∀ q, q ≠ 18 → h' q = h q) ∧ WR (wn w t) h'
  | 0, v, h, hk, W => by
    have e : v = 6 := by omega
    subst e
    refine ⟨h, ?_, fun _ _ => rfl, fun a ha => ?_⟩
    · rw [e167_25 (by decide), cd_t (by decide), show (t : Int) + 1 = ((t + 1 : Nat) : Int) by omega]; rfl
    · obtain ⟨x, x1, x2, x3⟩ := W a ha
      refine ⟨x, x1, x2, fun b hb => ?_⟩
      rw [x3 b hb, wm_t ha]
  | k + 1, v, h, hk, W => by
    obtain ⟨x, x1, x2, x3⟩ := W v (by omega)
    obtain ⟨y, y1, y2, y3⟩ := W t ht
    have X3 : ∀ b, b < 6 → x.testBit b = w v b := fun b hb => by rw [x3 b hb, wm_f (by omega)]
    have Y3 : ∀ b, b < 6 → y.testBit b = w t b := fun b hb => by
      rw [y3 b hb]
      by_cases c : t < v
      · rw [wm_t c]; unfold wn; cases w t b <;> cases w t t <;> rfl
      · rw [wm_f c]
    have ec := e167_25 (d := 16) (by decide) (t : Int) (v : Int) h
    rw [wr_id (x := (v : Int)) (by omega) (by omega), cd_f (by omega), inb_t (i := (v : Int)) (by omega) (by omega) (by omega), inb_t (i := (t : Int)) (by omega) (by omega) (by omega), wr_id (x := (t : Int)) (by omega) (by omega), show 16 + 2 = 18 from rfl, x1, y1, bit_n (by omega) (by omega), X3 t ht, jor_n (by omega) (by omega)] at ec
    simp only [cond_t] at ec
    rw [show (v : Int) + 1 = ((v + 1 : Nat) : Int) by omega] at ec
    by_cases c : w v t = true
    · rw [if_pos c, wr_1, cd_f (by decide)] at ec
      obtain ⟨h', g1, g2, g3⟩ := s_warIn (w := w) ht k (v + 1) (up h 18 v ((x ||| y : Nat) : Int)) (by omega) (fun a ha => by
        by_cases ea : a = v
        · subst ea
          refine ⟨x ||| y, up_s _ _ _ _, Nat.or_lt_two_pow (n := 6) x2 y2, fun b hb => ?_⟩
          rw [Nat.testBit_or, X3 b hb, Y3 b hb, wm_t (by omega)]
          unfold wn
          rw [c, Bool.true_and]
        · obtain ⟨z, z1, z2, z3⟩ := W a ha
          refine ⟨z, by rw [up_o _ _ _ (by omega)]; exact z1, z2, fun b hb => ?_⟩
          rw [z3 b hb]
          by_cases d : a < v
          · rw [wm_t d, wm_t (by omega)]
          · rw [wm_f d, wm_f (by omega)])
      exact ⟨h', ec.trans g1, fun q hq => by rw [g2 q hq, up_n _ _ _ hq], g3⟩
    · rw [if_neg c, wr_0, cd_t rfl] at ec
      obtain ⟨h', g1, g2, g3⟩ := s_warIn (w := w) ht k (v + 1) h (by omega) (fun a ha => by
        obtain ⟨z, z1, z2, z3⟩ := W a ha
        refine ⟨z, z1, z2, fun b hb => ?_⟩
        rw [z3 b hb]
        by_cases ea : a = v
        · subst ea
          have c' : w a t = false := by
            cases q : w a t
            · rfl
            · exact absurd q c
          rw [wm_f (by omega), wm_t (by omega)]
          unfold wn
          rw [c', Bool.false_and, Bool.or_false]
        · by_cases d : a < v
          · rw [wm_t d, wm_t (by omega)]
          · rw [wm_f d, wm_f (by omega)])
      exact ⟨h', ec.trans g1, g2, g3⟩
theorem s_war {e : Nat → Nat → Bool} : ∀ (k t : Nat) (w2 : AV) (h : Hp), t + k = 6 → WR (wP e t) h → ∃ h', X (167, 17, [aR 16, aI t, w2], [], h) = X (167, 75, [aR 16, aI 0, aI 0], [], h') ∧ (∀ q, q ≠ 18 → h' q = h q) ∧ WR (wP e 6) h'
  | 0, t, w2, h, hk, W => by
    have q : t = 6 := by omega
    subst q
    refine ⟨h, ?_, fun _ _ => rfl, W⟩
    rw [e167_17 (by decide), cd_t (by decide)]
  | k + 1, t, w2, h, hk, W => by
    obtain ⟨h1, a1, a2, a3⟩ := s_warIn (w := wP e t) (t := t) (by omega) 6 0 h (by omega) (fun a ha => by
      obtain ⟨x, x1, x2, x3⟩ := W a ha
      exact ⟨x, x1, x2, fun b hb => by rw [x3 b hb, wm_f (by omega)]⟩)
    obtain ⟨h2, b1, b2, b3⟩ := s_war (e := e) k (t + 1) (aI 6) h1 (by omega) a3
    refine ⟨h2, ?_, fun q hq => by rw [b2 q hq, a2 q hq], b3⟩
    rw [e167_17 (by decide), wr_id (x := (t : Int)) (by omega) (by omega), cd_f (by omega)]
    exact a1.trans b1
theorem s_rset {w : Nat → Nat → Bool} {h : Hp} (W : WR w h) : ∀ (k v : Nat), v + k = 6 → X (167, 75, [aR 16, aI ((racc (fun n => w n n) v : Nat) : Int), aI v], [], h) = some (some ((racc (fun n => w n n) 6 : Nat) : Int), h)
  | 0, v, hk => by
    have e : v = 6 := by omega
    subst e
    rw [e167_75 (by decide), cd_t (by decide)]
  | k + 1, v, hk => by
    have ih := s_rset W k (v + 1) (by omega)
    obtain ⟨x, x1, x2, x3⟩ := W v (by omega)
    have al : x &&& 2 ^ v < 2147483648 := and_lt (by omega)
    rw [e167_75 (by decide), wr_id (x := (v : Int)) (by omega) (by omega), cd_f (by omega), inb_t (by omega) (by omega) (by omega), cond_t, show 16 + 2 = 18 from rfl, x1, shl_n (by omega), jand_n (by omega) (pow_lt (by omega)), jor_n (racc_lt _ v (by omega)) al, and_pow, x3 v (by omega), show (v : Int) + 1 = ((v + 1 : Nat) : Int) by omega]
    exact ih
theorem m_has {a k : Nat} (ha : a < 2147483648) (hk : k < 32) (h : Hp) : X (42, 0, [aI a, aI k], [], h) = some (some (bi (a.testBit k)), h) := by
  rw [e42_0, bit_n ha hk]
  cases a.testBit k
  · rw [if_neg (by decide), wr_0, cd_t (by decide)]; rfl
  · rw [if_pos rfl, wr_1, cd_f (by decide)]; rfl
theorem m_pairs {Z : Int → Int} (hZ : ZD Z) {h : Hp} (h81 : h 81 = Z) {q S N : Nat} {v1 v4 : Int} (hq : q < 6) (hS : S < 64) (hN : (N : Int) = Z 25) : ∀ (k j : Nat) (w6 : AV), j + k = N → ∃ w : AV, X (64, 23, [aR 80, aI v1, aI q, aI ((pp Z q j S : Nat) : Int), aI v4, aI j, w6], [], h) = X (64, 14, [aR 80, aI v1, aI q, aI ((pp Z q N S : Nat) : Int), aI (v4 + 1), aI N, w], [], h)
  | 0, j, w6, hk => by
    have e : j = N := by omega
    subst e
    have hm := zd_m hZ
    refine ⟨w6, ?_⟩
    rw [e64_23, h81, ← hN, cd_t (Int.le_refl _)]
  | k + 1, j, w6, hk => by
    have hm := zd_m hZ
    have y := hZ.2.2.2.2.1.2 j (by omega) (show (j : Int) < Z 25 by omega)
    have y1 : 0 ≤ Z (26 + 2 * (j : Int)) ∧ Z (26 + 2 * (j : Int)) < 6 := y.1
    have y2 : 0 ≤ Z (27 + 2 * (j : Int)) ∧ Z (27 + 2 * (j : Int)) < 6 := y.2
    have l := pp_lt (q := q) hZ hS j (by omega)
    have ih := fun w6 => m_pairs hZ h81 (v1 := v1) (v4 := v4) hq hS hN k (j + 1) w6 (by omega)
    have ep := pp_s Z q j S
    generalize pp Z q j S = T at l ep
    obtain ⟨x, hx⟩ : ∃ x : Nat, Z (26 + 2 * (j : Int)) = x := ⟨(Z (26 + 2 * (j : Int))).toNat, by omega⟩
    obtain ⟨z, hz⟩ : ∃ z : Nat, Z (27 + 2 * (j : Int)) = z := ⟨(Z (27 + 2 * (j : Int))).toNat, by omega⟩
    rw [hx, hz, show ((x : Int)).toNat = x by omega, show ((z : Int)).toNat = z by omega] at ep
    rw [e64_23, h81, wr_id (x := Z 25) (by omega) (by omega), wr_id (x := (j : Int)) (by omega) (by omega), cd_f (by omega), inb_t (by omega) (by omega) (by omega), inb_t (by omega) (by omega) (by omega), wr_id (x := 26 + 2 * (j : Int)) (by omega) (by omega), wr_id (x := 26 + 2 * (j : Int) + 1) (by omega) (by omega), show 26 + 2 * (j : Int) + 1 = 27 + 2 * (j : Int) by omega, hx, wr_id (x := (x : Int)) (by omega) (by omega), wr_id (x := (q : Int)) (by omega) (by omega), m_has (by omega) (by omega), bI_some, d_bi0, h81, hz, shl_n (by omega), jor_n (by omega) (pow_lt (by omega)), show jor ((T : Nat) : Int) 0 = (T : Int) from by rw [show (0 : Int) = ((0 : Nat) : Int) from rfl, jor_n (by omega) (by omega), Nat.or_zero], show (j : Int) + 1 = ((j + 1 : Nat) : Int) by omega]
    simp only [cond_t]
    by_cases c : (x : Int) = q
    · rw [if_pos (Or.inl c)] at ep
      rw [ep] at ih
      rw [cd_t c]; exact ih _
    · rw [cd_f c]
      cases t : T.testBit x
      · rw [if_neg (fun y => y.elim c (fun y => by rw [t] at y; exact absurd y (by decide)))] at ep
        rw [ep] at ih
        rw [Bool.not_false, cond_t]; exact ih _
      · rw [if_pos (Or.inr t)] at ep
        rw [ep] at ih
        rw [Bool.not_true, cond_f]; exact ih _
theorem m_turns {Z : Int → Int} (hZ : ZD Z) {h : Hp} (h81 : h 81 = Z) {q N A : Nat} (hA : A < 2147483648) (hq : q < 6) (hN : (N : Int) = Z 25) : ∀ (k n : Nat) (w5 w6 : AV), n + k = 6 → ∃ v3 v4 : Int, ∃ w w' : AV, X (64, 14, [aR 80, aI A, aI q, aI ((tu Z q N n : Nat) : Int), aI n, w5, w6], [], h) = X (64, 4, [aR 80, aI ((A ||| cond (wP (eZ Z) 6 q q) (2 ^ q) 0 : Nat) : Int), aI ((q + 1 : Nat) : Int), aI v3, aI v4, w, w'], [], h)
  | 0, n, w5, w6, hk => by
    have e : n = 6 := by omega
    subst e
    have l := tu_lt (q := q) hZ (show (N : Int) ≤ Z 25 by omega) 6
    refine ⟨((tu Z q N 6 : Nat) : Int), ((6 : Nat) : Int), w5, w6, ?_⟩
    rw [e64_14, cd_t (by decide), m_has (by omega) (by omega), bI_some, d_bi0, tu_iff hZ hN hq, shl_n (by omega), jor_n hA (pow_lt (by omega)), show jor ((A : Nat) : Int) 0 = (A : Int) from by rw [show (0 : Int) = ((0 : Nat) : Int) from rfl, jor_n hA (by omega), Nat.or_zero], show (q : Int) + 1 = ((q + 1 : Nat) : Int) by omega]
    cases wP (eZ Z) 6 q q
    · rw [Bool.not_false, cond_t, cond_f, Nat.or_zero]
    · rw [Bool.not_true, cond_f, cond_t]
  | k + 1, n, w5, w6, hk => by
    have l := tu_lt (q := q) hZ (show (N : Int) ≤ Z 25 by omega) n
    obtain ⟨w, a1⟩ := m_pairs hZ h81 (v1 := (A : Int)) (v4 := (n : Int)) (S := tu Z q N n) hq l hN N 0 w6 (by omega)
    obtain ⟨v3, v4, u, u', ih⟩ := m_turns hZ h81 hA hq hN k (n + 1) (aI N) w (by omega)
    refine ⟨v3, v4, u, u', ?_⟩
    rw [e64_14, wr_id (x := (n : Int)) (by omega) (by omega), cd_f (by omega)]
    rw [show (n : Int) + 1 = ((n + 1 : Nat) : Int) by omega] at a1
    exact a1.trans ih
theorem m_kinds {Z : Int → Int} (hZ : ZD Z) {h : Hp} (h81 : h 81 = Z) {N : Nat} (hN : (N : Int) = Z 25) : ∀ (k q : Nat) (w3 w4 w5 w6 : AV), q + k = 6 → X (64, 4, [aR 80, aI ((racc (fun n => wP (eZ Z) 6 n n) q : Nat) : Int), aI q, w3, w4, w5, w6], [], h) = some (some ((racc (fun n => wP (eZ Z) 6 n n) 6 : Nat) : Int), h)
  | 0, q, w3, w4, w5, w6, hk => by
    have e : q = 6 := by omega
    subst e
    rw [e64_4, cd_t (by decide)]
  | k + 1, q, w3, w4, w5, w6, hk => by
    obtain ⟨v3, v4, u, u', a1⟩ := m_turns hZ h81 (q := q) (racc_lt (fun n => wP (eZ Z) 6 n n) q (by omega)) (by omega) hN 6 0 w5 w6 (by omega)
    have ih := m_kinds hZ h81 hN k (q + 1) (aI v3) (aI v4) u u' (by omega)
    rw [e64_4, wr_id (x := (q : Int)) (by omega) (by omega), cd_f (by omega)]
    exact a1.trans ih
theorem case_9 (L : Nat) (xs : Nat → Int32) : Cs_9 L xs := by
  intro h hI
  have hS := hI.1
  have hZ : ZD (h 81) := zd_of hI.2.2.1
  have hm := zd_m hZ
  have D := Dat_of (d := 1) hI.2.1 hI.2.2.1
  have hR := hI.2.1.2.2.2.2.1
  have c18 : ∀ i, 0 ≤ i → i < 6 → cpy h (16 + 1) (16 + 2) 0 0 6 18 i = h 17 i := fun i i0 i1 => cpy_i h 17 18 i0 i1
  have co : ∀ q, q ≠ 18 → cpy h (16 + 1) (16 + 2) 0 0 6 q = h q := fun q hq => cpy_o _ _ _ _ hq
  have W0 : WR (wP (eZ (h 81)) 0) (cpy h (16 + 1) (16 + 2) 0 0 6) := fun a ha => by
    have y := hR.2 a (by omega) (by omega)
    have y1 : 0 ≤ h 17 a := y.1
    have y2 : h 17 a < 64 := y.2.1
    refine ⟨(h 17 a).toNat, by rw [c18 a (by omega) (by omega)]; omega, by omega, fun b hb => ?_⟩
    have q := D.2.2.2.2.2.2.2 a b (by omega) (by omega) (by omega) (by omega)
    have q : jand (jshr (h 17 a) b) 1 = 1 ↔ zP (h 81) a b = true := q
    rw [show h 17 a = (((h 17 a).toNat : Nat) : Int) by omega, bit_n (by omega) (by omega)] at q
    show ((h 17 a).toNat).testBit b = zP (h 81) a b
    cases t : ((h 17 a).toNat).testBit b
    · rw [t, if_neg (by decide)] at q
      cases s : zP (h 81) a b
      · rfl
      · exact absurd (q.mpr s) (by decide)
    · rw [t, if_pos rfl] at q
      exact (q.mp rfl).symm
  generalize hc : cpy h (16 + 1) (16 + 2) 0 0 6 = g0 at W0 co
  obtain ⟨g, a1, a2, a3⟩ := s_war 6 0 aN g0 (by omega) W0
  have b1 := s_rset a3 6 0 (by omega)
  have qs := e9_0 h
  have e1 : X (167, 0, [aR 16, aN, aN], [], h) = some (some ((racc (fun n => wP (eZ (h 81)) 6 n n) 6 : Nat) : Int), g) := by
    rw [e167_0 (by decide), hc]
    exact a1.trans b1
  rw [e1, bI_some] at qs
  have fg : ∀ q, q ≠ 18 → g q = h q := fun q hq => by rw [a2 q hq, co q hq]
  have qm := m_kinds (h := g) (Z := h 81) hZ (fg 81 (by decide)) (N := (h 81 25).toNat) (by omega) 6 0 aN aN aN aN (by omega)
  have qm : X (64, 4, [aR 80, aI 0, aI 0, aN, aN, aN, aN], [], g) = _ := qm
  exact ⟨_, g, g, qs, fun p hp => by rw [fg p (by omega)]; exact hS p hp, (e64_0 g).trans qm, inv_quiet hI (fun p hp => fg p (by omega)) ⟨by rw [fg 80 (by decide)], by rw [fg 80 (by decide)]⟩⟩
