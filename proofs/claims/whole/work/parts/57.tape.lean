/-! the tape, read by both -/
theorem cdi {P : Prop} {i : Decidable P} (a b : Int) (h : Hp) : cond (decide P) (some (some a, h) : Res) (some (some b, h)) = some (some (if P then a else b), h) := by
  by_cases c : P
  · rw [cd_t c, if_pos c]
  · rw [cd_f c, if_neg c]
def CT (h : Hp) (l : Int) (f : Int → Int) (s : Int) : Prop := h 70 1 = l ∧ h 70 2 = s ∧ ∀ i, 0 ≤ i → i < l → h 71 i = f i
def MT (g : Hp) (l : Int) (f : Int → Int) (s : Int) : Prop := g 80 2 = l ∧ g 80 3 = s ∧ ∀ i, 0 ≤ i → i < l → g 82 i = f i
def FT (l : Int) (f : Int → Int) : Prop := (0 ≤ l ∧ l ≤ 80) ∧ ∀ i, 0 ≤ i → i < l → 32 ≤ f i ∧ f i ≤ 126
def ps (f : Int → Int) (l : Int) : Nat → Int → Int
  | 0, s => s
  | k + 1, s => if l ≤ s then s else if f s = 32 then ps f l k (s + 1) else s
def nx (f : Int → Int) (l s : Int) : Int := ps f l 80 s
def bta (f : Int → Int) (l p : Int) : Int := if p < l then f p else -1
theorem ps_r {f : Int → Int} {l : Int} : ∀ (k : Nat) (s : Int), s ≤ l → s ≤ ps f l k s ∧ ps f l k s ≤ l
  | 0, s, h => ⟨Int.le_refl _, h⟩
  | k + 1, s, h => by
    have e : ps f l (k + 1) s = if l ≤ s then s else if f s = 32 then ps f l k (s + 1) else s := rfl
    rw [e]
    by_cases c : l ≤ s
    · rw [if_pos c]; omega
    · rw [if_neg c]
      by_cases d : f s = 32
      · rw [if_pos d]
        have := ps_r (f := f) (l := l) k (s + 1) (by omega)
        omega
      · rw [if_neg d]; omega
theorem ps_ne {f : Int → Int} {l : Int} : ∀ (k : Nat) (s : Int), l - s ≤ k → ps f l k s < l → f (ps f l k s) ≠ 32
  | 0, s, h, a => by
    have e : ps f l 0 s = s := rfl
    rw [e] at a
    omega
  | k + 1, s, h, a => by
    have e : ps f l (k + 1) s = if l ≤ s then s else if f s = 32 then ps f l k (s + 1) else s := rfl
    rw [e] at a ⊢
    by_cases c : l ≤ s
    · rw [if_pos c] at a; omega
    · rw [if_neg c] at a ⊢
      by_cases d : f s = 32
      · rw [if_pos d] at a ⊢
        exact ps_ne k (s + 1) (by omega) a
      · rw [if_neg d]; exact d
theorem nx_r {f : Int → Int} {l s : Int} (h : s ≤ l) : s ≤ nx f l s ∧ nx f l s ≤ l := ps_r 80 s h
theorem nx_id {f : Int → Int} {l s : Int} (h0 : 0 ≤ s) (h : s ≤ l) (hl : l ≤ 80) : nx f l (nx f l s) = nx f l s := by
  have r := nx_r (f := f) h
  have ne : nx f l s < l → f (nx f l s) ≠ 32 := ps_ne (f := f) (l := l) 80 s (by omega)
  have e : nx f l (nx f l s) = if l ≤ nx f l s then nx f l s else if f (nx f l s) = 32 then ps f l 79 (nx f l s + 1) else nx f l s := rfl
  rw [e]
  by_cases c : l ≤ nx f l s
  · rw [if_pos c]
  · rw [if_neg c, if_neg (ne (by omega))]
theorem bta_r {f : Int → Int} {l p : Int} (hT : FT l f) (h0 : 0 ≤ p) : -1 ≤ bta f l p ∧ bta f l p ≤ 126 := by
  unfold bta
  by_cases c : p < l
  · rw [if_pos c]; have := hT.2 p h0 c; omega
  · rw [if_neg c]; omega
theorem bta_lt {f : Int → Int} {l p : Int} (h : bta f l p ≠ -1) : p < l := by
  unfold bta at h
  by_cases c : p < l
  · exact c
  · rw [if_neg c] at h; exact absurd rfl h
theorem s_peekL {f : Int → Int} {l : Int} (hT : FT l f) : ∀ (k : Nat) (s : Int) (h : Hp), CT h l f s → 0 ≤ s → s ≤ l → l - s ≤ k → ∃ h', X (183, 0, [aR 70], [], h) = some (some (bta f l (ps f l k s)), h') ∧ CT h' l f (ps f l k s) ∧ (∀ q, q ≠ 70 → h' q = h q) ∧ (∀ j, j ≠ 2 → h' 70 j = h 70 j)
  | k, s, h, C, s0, s1, hk => by
    have hl := hT.1
    obtain ⟨c1, c2, c3⟩ := C
    by_cases e : l ≤ s
    · have es : s = l := by omega
      have ep : ps f l k s = s := by
        cases k with
        | zero => rfl
        | succ k => exact if_pos e
      refine ⟨h, ?_, by rw [ep]; exact ⟨c1, c2, c3⟩, fun _ _ => rfl, fun _ _ => rfl⟩
      rw [e183_0, c1, c2, wr_id (x := l) (by omega) (by omega), wr_id (x := s) (by omega) (by omega), cd_t e, cd_t e, ep]
      unfold bta
      rw [if_neg (by omega)]
    · cases k with
      | zero => omega
      | succ k =>
        have b := hT.2 s s0 (by omega)
        have ep : ps f l (k + 1) s = if f s = 32 then ps f l k (s + 1) else s := if_neg e
        rw [e183_0, c1, c2, wr_id (x := l) (by omega) (by omega), wr_id (x := s) (by omega) (by omega), cd_f e, inb_t s0 (by omega) (by omega), cond_t, cond_t, c3 s s0 (by omega), wr_id (x := f s) (by omega) (by omega), ep]
        by_cases d : f s = 32
        · rw [cd_f (by omega), if_pos d]
          obtain ⟨h', h1, h2, h3, h4⟩ := s_peekL hT k (s + 1) (up h 70 2 (s + 1)) ⟨by rw [up_o _ _ _ (by decide)]; exact c1, up_s _ _ _ _, fun i i0 i1 => by rw [up_n _ _ _ (by decide)]; exact c3 i i0 i1⟩ (by omega) (by omega) (by omega)
          exact ⟨h', h1, h2, fun q hq => by rw [h3 q hq, up_n _ _ _ hq], fun j hj => by rw [h4 j hj, up_o _ _ _ hj]⟩
        · rw [cd_t d, cd_f e, if_neg d]
          refine ⟨h, ?_, ⟨c1, c2, c3⟩, fun _ _ => rfl, fun _ _ => rfl⟩
          unfold bta
          rw [if_pos (by omega)]
theorem m_peekL {f : Int → Int} {l : Int} (hT : FT l f) : ∀ (k : Nat) (s : Int) (h : Hp), MT h l f s → 0 ≤ s → s ≤ l → l - s ≤ k → ∃ h', X (56, 0, [aR 80], [], h) = some (some (bta f l (ps f l k s)), h') ∧ MT h' l f (ps f l k s) ∧ (∀ q, q ≠ 80 → h' q = h q) ∧ (∀ j, j ≠ 3 → h' 80 j = h 80 j)
  | k, s, h, C, s0, s1, hk => by
    have hl := hT.1
    obtain ⟨c1, c2, c3⟩ := C
    by_cases e : l ≤ s
    · have es : s = l := by omega
      have ep : ps f l k s = s := by
        cases k with
        | zero => rfl
        | succ k => exact if_pos e
      refine ⟨h, ?_, by rw [ep]; exact ⟨c1, c2, c3⟩, fun _ _ => rfl, fun _ _ => rfl⟩
      rw [e56_0, c1, c2, wr_id (x := l) (by omega) (by omega), wr_id (x := s) (by omega) (by omega), cd_t e, cd_t e, ep]
      unfold bta
      rw [if_neg (by omega)]
    · cases k with
      | zero => omega
      | succ k =>
        have b := hT.2 s s0 (by omega)
        have ep : ps f l (k + 1) s = if f s = 32 then ps f l k (s + 1) else s := if_neg e
        rw [e56_0, c1, c2, wr_id (x := l) (by omega) (by omega), wr_id (x := s) (by omega) (by omega), cd_f e, inb_t s0 (by omega) (by omega), cond_t, cond_t, c3 s s0 (by omega), wr_id (x := f s) (by omega) (by omega), ep]
        by_cases d : f s = 32
        · rw [cd_f (by omega), if_pos d]
          obtain ⟨h', h1, h2, h3, h4⟩ := m_peekL hT k (s + 1) (up h 80 3 (s + 1)) ⟨by rw [up_o _ _ _ (by decide)]; exact c1, up_s _ _ _ _, fun i i0 i1 => by rw [up_n _ _ _ (by decide)]; exact c3 i i0 i1⟩ (by omega) (by omega) (by omega)
          exact ⟨h', h1, h2, fun q hq => by rw [h3 q hq, up_n _ _ _ hq], fun j hj => by rw [h4 j hj, up_o _ _ _ hj]⟩
        · rw [cd_t d, cd_f e, if_neg d]
          refine ⟨h, ?_, ⟨c1, c2, c3⟩, fun _ _ => rfl, fun _ _ => rfl⟩
          unfold bta
          rw [if_pos (by omega)]
theorem s_peek {f : Int → Int} {l s : Int} (hT : FT l f) {h : Hp} (C : CT h l f s) (s0 : 0 ≤ s) (s1 : s ≤ l) : ∃ h', X (183, 0, [aR 70], [], h) = some (some (bta f l (nx f l s)), h') ∧ CT h' l f (nx f l s) ∧ (∀ q, q ≠ 70 → h' q = h q) ∧ (∀ j, j ≠ 2 → h' 70 j = h 70 j) := s_peekL hT 80 s h C s0 s1 (by have := hT.1; omega)
theorem m_peek {f : Int → Int} {l s : Int} (hT : FT l f) {h : Hp} (C : MT h l f s) (s0 : 0 ≤ s) (s1 : s ≤ l) : ∃ h', X (56, 0, [aR 80], [], h) = some (some (bta f l (nx f l s)), h') ∧ MT h' l f (nx f l s) ∧ (∀ q, q ≠ 80 → h' q = h q) ∧ (∀ j, j ≠ 3 → h' 80 j = h 80 j) := m_peekL hT 80 s h C s0 s1 (by have := hT.1; omega)
theorem CT_up {h : Hp} {l s : Int} {f : Int → Int} (C : CT h l f s) (t : Int) : CT (up h 70 2 t) l f t := ⟨by rw [up_o _ _ _ (by decide)]; exact C.1, up_s _ _ _ _, fun i i0 i1 => by rw [up_n _ _ _ (by decide)]; exact C.2.2 i i0 i1⟩
theorem MT_up {h : Hp} {l s : Int} {f : Int → Int} (C : MT h l f s) (t : Int) : MT (up h 80 3 t) l f t := ⟨by rw [up_o _ _ _ (by decide)]; exact C.1, up_s _ _ _ _, fun i i0 i1 => by rw [up_n _ _ _ (by decide)]; exact C.2.2 i i0 i1⟩
theorem CT_c {h g : Hp} {l s : Int} {f : Int → Int} (e : g 70 = h 70 ∧ g 71 = h 71) (C : CT h l f s) : CT g l f s := by
  unfold CT at C ⊢
  rw [e.1, e.2]; exact C
theorem MT_c {h g : Hp} {l s : Int} {f : Int → Int} (e : g 80 2 = h 80 2 ∧ g 80 3 = h 80 3) (e2 : g 82 = h 82) (C : MT h l f s) : MT g l f s := by
  unfold MT at C ⊢
  rw [e.1, e.2, e2]; exact C
def kd (c : Int) : Int := if c = 99 then 1 else if c = 103 then 2 else if c = 108 then 4 else if c = 111 then 3 else if c = 112 then 0 else if c = 116 then 5 else -1
theorem kd_r (c : Int) : -1 ≤ kd c ∧ kd c ≤ 5 := by
  unfold kd
  split
  · decide
  · split
    · decide
    · split
      · decide
      · split
        · decide
        · split
          · decide
          · split <;> decide
theorem kd_m : kd (-1) = -1 := by decide
theorem s_kind {c : Int} (hc : -1 ≤ c ∧ c ≤ 126) (h : Hp) : X (185, 0, [aI c], [], h) = some (some (kd c), h) := by
  rw [e185_0, wr_id (x := c) (by omega) (by omega)]
  simp only [cdi]
  unfold kd
  congr 3
  repeat' split
  all_goals omega
theorem m_kind {f : Int → Int} {l s a : Int} (hT : FT l f) {g : Hp} (C : MT g l f s) (s0 : 0 ≤ s) (s1 : s ≤ l) (ha : -4 ≤ a ∧ a ≤ 5) : ∃ g', X (59, 0, [aR 80, aI a, aN, aN], [], g) = some (some (if kd (bta f l (nx f l s)) = a then -1 else kd (bta f l (nx f l s))), g') ∧ MT g' l f (if kd (bta f l (nx f l s)) = a ∨ kd (bta f l (nx f l s)) = -1 then nx f l s else nx f l s + 1) ∧ (∀ q, q ≠ 80 → g' q = g q) ∧ (∀ j, j ≠ 3 → g' 80 j = g 80 j) := by
  obtain ⟨g1, p1, p2, p3, p4⟩ := m_peek hT C s0 s1
  have r := nx_r (f := f) s1
  have b := bta_r hT (p := nx f l s) (by omega)
  generalize nx f l s = p at p1 p2 b
  generalize bta f l p = c at p1 b
  have y : ∃ g', (some (some (kd c), up g1 80 3 (g1 80 3 + 1)) : Res) = some (some (kd c), g') ∧ MT g' l f (p + 1) ∧ (∀ q, q ≠ 80 → g' q = g q) ∧ (∀ j, j ≠ 3 → g' 80 j = g 80 j) := ⟨_, rfl, by rw [p2.2.1]; exact MT_up p2 _, fun q hq => by rw [up_n _ _ _ hq, p3 q hq], fun j hj => by rw [up_o _ _ _ hj, p4 j hj]⟩
  have n : ∃ g', (some (some (-1), g1) : Res) = some (some (-1), g') ∧ MT g' l f p ∧ (∀ q, q ≠ 80 → g' q = g q) ∧ (∀ j, j ≠ 3 → g' 80 j = g 80 j) := ⟨g1, rfl, p2, p3, p4⟩
  rw [e59_0, p1, bI_some, wr_id (x := c) (by omega) (by omega), wr_id (x := a) (by omega) (by omega)]
  by_cases c1 : c = 112
  · subst c1
    rw [cd_f (by decide), show kd 112 = 0 from rfl]
    by_cases e : 0 ≠ a
    · rw [cd_t e, if_neg e, if_neg (by omega)]; exact y
    · rw [cd_f e, if_pos (by omega), if_pos (by omega)]; exact n
  rw [cd_t c1]
  by_cases c2 : c = 99
  · subst c2
    rw [cd_f (by decide), show kd 99 = 1 from rfl]
    by_cases e : 1 ≠ a
    · rw [cd_t e, if_neg e, if_neg (by omega)]; exact y
    · rw [cd_f e, if_pos (by omega), if_pos (by omega)]; exact n
  rw [cd_t c2]
  by_cases c3 : c = 103
  · subst c3
    rw [cd_f (by decide), show kd 103 = 2 from rfl]
    by_cases e : 2 ≠ a
    · rw [cd_t e, if_neg e, if_neg (by omega)]; exact y
    · rw [cd_f e, if_pos (by omega), if_pos (by omega)]; exact n
  rw [cd_t c3]
  by_cases c4 : c = 111
  · subst c4
    rw [cd_f (by decide), show kd 111 = 3 from rfl]
    by_cases e : 3 ≠ a
    · rw [cd_t e, if_neg e, if_neg (by omega)]; exact y
    · rw [cd_f e, if_pos (by omega), if_pos (by omega)]; exact n
  rw [cd_t c4]
  by_cases c5 : c = 108
  · subst c5
    rw [cd_f (by decide), show kd 108 = 4 from rfl]
    by_cases e : 4 ≠ a
    · rw [cd_t e, if_neg e, if_neg (by omega)]; exact y
    · rw [cd_f e, if_pos (by omega), if_pos (by omega)]; exact n
  rw [cd_t c5]
  by_cases c6 : c = 116
  · subst c6
    rw [cd_f (by decide), show kd 116 = 5 from rfl]
    by_cases e : 5 ≠ a
    · rw [cd_t e, if_neg e, if_neg (by omega)]; exact y
    · rw [cd_f e, if_pos (by omega), if_pos (by omega)]; exact n
  rw [cd_t c6]
  have k0 : kd c = -1 := by
    unfold kd
    rw [if_neg c2, if_neg c3, if_neg c5, if_neg c4, if_neg c1, if_neg c6]
  rw [k0, if_pos (Or.inr rfl), show (if (-1 : Int) = a then (-1 : Int) else -1) = -1 by split <;> rfl]
  exact n
/-! manners -/
def HB (P : Int → Int) (v : Int) (h : Hp) : Prop := h 42 2 = v ∧ ∀ a : Int, 0 ≤ a → a < 6 → ∃ x : Nat, h 43 a = x ∧ x < 64 ∧ ∀ b : Nat, b < 6 → (x.testBit b = true ↔ ∃ k, 0 ≤ k ∧ k < v ∧ P (2 * k) = a ∧ P (2 * k + 1) = b)
def FrR (g g' : Hp) : Prop := (∀ q, q ≠ 80 → q ≠ 83 → g' q = g q) ∧ (∀ j, j ≠ 3 → j ≠ 4 → g' 80 j = g 80 j)
theorem FrR_t {a b c : Hp} (H : FrR a b) (K : FrR b c) : FrR a c := ⟨fun q q1 q2 => by rw [K.1 q q1 q2, H.1 q q1 q2], fun j j1 j2 => by rw [K.2 j j1 j2, H.2 j j1 j2]⟩
theorem FrR_p {g g' : Hp} (e : ∀ q, q ≠ 80 → g' q = g q) (e2 : ∀ j, j ≠ 3 → g' 80 j = g 80 j) : FrR g g' := ⟨fun q q1 _ => e q q1, fun j j1 _ => e2 j j1⟩
theorem FrR_83 (g : Hp) (k x : Int) : FrR g (up g 83 k x) := ⟨fun q _ q2 => up_n _ _ _ q2, fun j _ _ => by rw [up_n _ _ _ (by decide)]⟩
theorem FrR_80 (g : Hp) {k : Int} (x : Int) (hk : k = 3 ∨ k = 4) : FrR g (up g 80 k x) := ⟨fun q q1 _ => up_n _ _ _ q1, fun j j1 j2 => up_o _ _ _ (by omega)⟩
theorem HB_add {P : Int → Int} {v a b : Int} {h : Hp} (v0 : 0 ≤ v) (a0 : 0 ≤ a ∧ a < 6) (b0 : 0 ≤ b ∧ b < 6) (H : HB P v h) : ∃ h', X (164, 0, [aR 42, aI a, aI b], [], h) = some (none, h') ∧ (∀ q, q ≠ 42 → q ≠ 43 → h' q = h q) ∧ HB (fun j => if j = 2 * v then a else if j = 2 * v + 1 then b else P j) (v + 1) h' := by
  obtain ⟨h1, h2⟩ := H
  obtain ⟨x, x1, x2, x3⟩ := h2 a a0.1 a0.2
  obtain ⟨bn, rfl⟩ : ∃ bn : Nat, b = bn := ⟨b.toNat, by omega⟩
  have e := e164_0 (d := 42) (by decide) a (bn : Int) h
  have pl : 2 ^ bn < 2147483648 := pow_lt (by omega)
  rw [inb_t a0.1 (by omega) (by omega), wr_id (x := a) (by omega) (by omega), up_n h a _ (by decide : 42 ≠ 42 + 1), h1, show 42 + 1 = 43 from rfl, x1, shl_n (by omega), jor_n (by omega) pl] at e
  simp only [cond_t] at e
  refine ⟨_, e, fun q q1 q2 => by rw [up_n _ _ _ q1, up_n _ _ _ q2], up_s _ _ _ _, fun a' a1 a2 => ?_⟩
  rw [up_n _ _ _ (by decide : 43 ≠ 42)]
  have old : ∀ (a'' : Int) (k : Int), 0 ≤ k → k < v → (if 2 * k = 2 * v then a else if 2 * k = 2 * v + 1 then (bn : Int) else P (2 * k)) = P (2 * k) ∧ (if 2 * k + 1 = 2 * v then a else if 2 * k + 1 = 2 * v + 1 then (bn : Int) else P (2 * k + 1)) = P (2 * k + 1) := fun _ k k0 k1 => ⟨by rw [if_neg (by omega), if_neg (by omega)], by rw [if_neg (by omega), if_neg (by omega)]⟩
  have new : (if 2 * v = 2 * v then a else if 2 * v = 2 * v + 1 then (bn : Int) else P (2 * v)) = a ∧ (if 2 * v + 1 = 2 * v then a else if 2 * v + 1 = 2 * v + 1 then (bn : Int) else P (2 * v + 1)) = bn := ⟨if_pos rfl, by rw [if_neg (by omega), if_pos rfl]⟩
  by_cases ea : a' = a
  · subst ea
    refine ⟨x ||| 2 ^ bn, up_s _ _ _ _, Nat.or_lt_two_pow (n := 6) x2 (Nat.pow_lt_pow_right (by decide) (by omega)), fun c hc => ?_⟩
    rw [Nat.testBit_or, pow_bit, Bool.or_eq_true, decide_eq_true_eq, x3 c hc]
    constructor
    · rintro (⟨k, k0, k1, k2, k3⟩ | z)
      · exact ⟨k, k0, by omega, by show (if 2 * k = 2 * v then a' else if 2 * k = 2 * v + 1 then (bn : Int) else P (2 * k)) = a'; rw [(old a' k k0 k1).1]; exact k2, by show (if 2 * k + 1 = 2 * v then a' else if 2 * k + 1 = 2 * v + 1 then (bn : Int) else P (2 * k + 1)) = _; rw [(old a' k k0 k1).2]; exact k3⟩
      · exact ⟨v, v0, by omega, new.1, by rw [← z]; exact new.2⟩
    · rintro ⟨k, k0, k1, k2, k3⟩
      by_cases ek : k = v
      · subst ek
        have k3 : (if 2 * k + 1 = 2 * k then a' else if 2 * k + 1 = 2 * k + 1 then (bn : Int) else P (2 * k + 1)) = c := k3
        rw [new.2] at k3
        exact Or.inr (by omega)
      · have k2 : (if 2 * k = 2 * v then a' else if 2 * k = 2 * v + 1 then (bn : Int) else P (2 * k)) = a' := k2
        have k3 : (if 2 * k + 1 = 2 * v then a' else if 2 * k + 1 = 2 * v + 1 then (bn : Int) else P (2 * k + 1)) = c := k3
        rw [(old a' k k0 (by omega)).1] at k2
        rw [(old a' k k0 (by omega)).2] at k3
        exact Or.inl ⟨k, k0, by omega, k2, k3⟩
  · obtain ⟨y, y1, y2, y3⟩ := h2 a' a1 a2
    refine ⟨y, by rw [up_o _ _ _ ea]; exact y1, y2, fun c hc => (y3 c hc).trans ⟨?_, ?_⟩⟩
    · rintro ⟨k, k0, k1, k2, k3⟩
      exact ⟨k, k0, by omega, by show (if 2 * k = 2 * v then a else if 2 * k = 2 * v + 1 then (bn : Int) else P (2 * k)) = a'; rw [(old a' k k0 k1).1]; exact k2, by show (if 2 * k + 1 = 2 * v then a else if 2 * k + 1 = 2 * v + 1 then (bn : Int) else P (2 * k + 1)) = _; rw [(old a' k k0 k1).2]; exact k3⟩
    · rintro ⟨k, k0, k1, k2, k3⟩
      have k2 : (if 2 * k = 2 * v then a else if 2 * k = 2 * v + 1 then (bn : Int) else P (2 * k)) = a' := k2
      have k3 : (if 2 * k + 1 = 2 * v then a else if 2 * k + 1 = 2 * v + 1 then (bn : Int) else P (2 * k + 1)) = c := k3
      by_cases ek : k = v
      · subst ek
        rw [new.1] at k2
        exact absurd k2.symm ea
      · rw [(old a' k k0 (by omega)).1] at k2
        rw [(old a' k k0 (by omega)).2] at k3
        exact ⟨k, k0, by omega, k2, k3⟩
