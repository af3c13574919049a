/-- the told but those of s -/
def rs (p s : Nat) : Nat → Nat
  | 0 => p
  | k + 1 => cond (s.testBit k) (dif (rs p s k) (2 ^ mm p k)) (rs p s k)
theorem rs_le (p s : Nat) : ∀ k, rs p s k ≤ p
  | 0 => Nat.le_refl p
  | k + 1 => by
    have ih := rs_le p s k
    have d := dif_le (rs p s k) (2 ^ mm p k)
    show cond (s.testBit k) (dif (rs p s k) (2 ^ mm p k)) (rs p s k) ≤ p
    cases s.testBit k
    · exact ih
    · rw [cond_t]; omega
theorem rs_bit (p s : Nat) : ∀ k x, (rs p s k).testBit x = true ↔ p.testBit x = true ∧ ∀ j, j < k → s.testBit j = true → mm p j ≠ x
  | 0, x => ⟨fun h => ⟨h, fun j hj => by omega⟩, fun h => h.1⟩
  | k + 1, x => by
    have ih := rs_bit p s k x
    show (cond (s.testBit k) (dif (rs p s k) (2 ^ mm p k)) (rs p s k)).testBit x = true ↔ _
    cases t : s.testBit k
    · rw [cond_f, ih]
      refine ⟨fun h => ⟨h.1, fun j hj hs => ?_⟩, fun h => ⟨h.1, fun j hj hs => h.2 j (by omega) hs⟩⟩
      by_cases e : j = k
      · subst e; rw [t] at hs; exact absurd hs (by decide)
      · exact h.2 j (by omega) hs
    · rw [cond_t, dif_bit, Bool.and_eq_true, ih, pow_bit]
      constructor
      · rintro ⟨⟨a, b⟩, c⟩
        refine ⟨a, fun j hj hs => ?_⟩
        by_cases e : j = k
        · subst e
          intro z
          rw [decide_eq_true z] at c
          exact absurd c (by decide)
        · exact b j (by omega) hs
      · rintro ⟨a, b⟩
        refine ⟨⟨a, fun j hj hs => b j (by omega) hs⟩, ?_⟩
        rw [decide_eq_false (b k (by omega) t)]; rfl
def cmz (Z : Int → Int) (hd : Nat → Bool) (T p s i : Nat) : Bool := s.testBit i && !(bhk Z hd (rs p s (pc p)) T).testBit (mm p i)
theorem cs_cm {Z : Int → Int} (hZ : ZD Z) {hd : Nat → Bool} {T p s i : Nat} (hT : (T : Int) = Z 42) (hp : p < 4096) (hi : i < pc p) : cs Z hd T p (pc p) s i = cmz Z hd T p s i := by
  unfold cs cmz
  cases t : s.testBit i
  · rfl
  · rw [Bool.true_and, Bool.true_and]
    have mi := mm_ok hi
    have key : dif (nd Z hd T p (pc p) i) (dif s (2 ^ i)) = 0 ↔ ¬ (bhk Z hd (rs p s (pc p)) T).testBit (mm p i) = true := by
      rw [dif_0, bhk_bit]
      constructor
      · rintro H ⟨w, w1, w2, w3, w4⟩
        obtain ⟨r1, r2⟩ := (rs_bit p s (pc p) (wa Z w)).mp w3
        obtain ⟨q1, q2⟩ := mm_of hp r1
        have nb : (nd Z hd T p (pc p) i).testBit (pcb p (wa Z w)) = true := by
          unfold nd
          rw [racc_bit, decide_eq_true q1, Bool.true_and, bhk_bit]
          exact ⟨w, w1, w2, by rw [q2, pow_bit, decide_eq_true rfl], w4⟩
        have := H _ nb
        rw [dif_bit, Bool.and_eq_true] at this
        exact r2 _ q1 this.1 q2
      · intro H k hk
        unfold nd at hk
        rw [racc_bit, Bool.and_eq_true, decide_eq_true_eq, bhk_bit] at hk
        obtain ⟨k1, w, w1, w2, w3, w4⟩ := hk
        rw [pow_bit, decide_eq_true_eq] at w3
        have mk := mm_ok k1
        rw [dif_bit, pow_bit, Bool.and_eq_true]
        refine ⟨?_, ?_⟩
        · cases u : s.testBit k
          · exfalso
            apply H
            refine ⟨w, w1, w2, ?_, w4⟩
            rw [← w3, rs_bit]
            refine ⟨mk.1, fun j hj hs z => ?_⟩
            have mj := mm_ok hj
            have : j = k := by rw [← mj.2.2, ← mk.2.2, z]
            subst this
            rw [u] at hs; exact absurd hs (by decide)
          · rfl
        · rw [decide_eq_false]
          · rfl
          · intro e
            subst e
            have y := hZ.2.2.2.2.2.2 w (by omega) (show (w : Int) < Z 42 by omega)
            have y3 : Z (43 + 2 * (w : Int)) ≠ Z (44 + 2 * (w : Int)) := y.2.2
            have r := w_r hZ (i := w) (by omega)
            apply y3
            rw [r.1, r.2.1, w4, ← w3]
    cases u : (bhk Z hd (rs p s (pc p)) T).testBit (mm p i)
    · rw [decide_eq_true (key.mpr (by rw [u]; decide))]; rfl
    · rw [decide_eq_false (fun z => key.mp z u)]; rfl
theorem jand_m1 {a : Nat} (ha : a < 2147483648) : jand (a : Int) (-1) = (a : Int) := by
  have e := jdif_n (b := 0) ha
  rw [show jxor ((0 : Nat) : Int) (-1) = -1 by decide] at e
  rw [e]
  have : dif a 0 = a := bits_ext (fun i => by rw [dif_bit, Nat.zero_testBit]; cases a.testBit i <;> rfl)
  rw [this]
theorem m_restL {h : Hp} {p s : Nat} {v1 v2 : Int} (hp : p < 4096) (hs : s < 256) (h8 : pc p ≤ 8) (hm : ∀ j, j < pc p → h 93 (j : Nat) = (mm p j : Int)) : ∀ (k j : Nat) (w7 : AV), j + k = pc p → X (110, 107, [aR 80, aI v1, aI v2, aI (pc p : Int), aI s, aI ((rs p s j : Nat) : Int), aI j, w7], [], h) = X (110, 152, [aR 80, aI v1, aI v2, aI (pc p : Int), aI s, aI ((rs p s (pc p) : Nat) : Int), aI 0, w7], [], h)
  | 0, j, w7, hk => by
    have e : j = pc p := by omega
    rw [e, e110_107, cd_t (Int.le_refl _)]
  | k + 1, j, w7, hk => by
    have ih := m_restL (v1 := v1) (v2 := v2) hp hs h8 hm k (j + 1) w7 (by omega)
    have es : rs p s (j + 1) = cond (s.testBit j) (dif (rs p s j) (2 ^ mm p j)) (rs p s j) := rfl
    have mj := mm_ok (p := p) (j := j) (by omega)
    have rl := rs_le p s j
    rw [es] at ih
    rw [e110_107, wr_id (x := (pc p : Int)) (by omega) (by omega), wr_id (x := (j : Int)) (by omega) (by omega), cd_f (by omega), m_has (by omega) (by omega), bI_some, d_bi0, jand_m1 (by omega), inb_t (by omega) (by omega) (by omega), cond_t, hm j (by omega), shl_n (by omega), jdif_n (by omega), show (j : Int) + 1 = ((j + 1 : Nat) : Int) by omega]
    cases t : s.testBit j
    · rw [t, cond_f] at ih
      rw [Bool.not_false, cond_t]; exact ih
    · rw [t, cond_t] at ih
      rw [Bool.not_true, cond_f]; exact ih
theorem m_sumL {Z : Int → Int} (hZ : ZD Z) {p s T r : Nat} {v1 base : Int} {F : Nat → Int} (hp : p < 4096) (hr : r < 4096) (hs : s < 256) (hT : (T : Int) = Z 42) (h8 : pc p ≤ 8) : ∀ (k j : Nat) (w7 : AV) (h : Hp), j + k = pc p → h 81 = Z → (∀ j, j < pc p → h 93 (j : Nat) = (mm p j : Int)) → (∀ x : Nat, x < s → h 92 (x : Nat) = F x) → h 92 (s : Nat) = base + suz (cmz Z (fun i => !r.testBit i) T p s) (fun i => F (dif s (2 ^ i))) j → ∃ (g : Hp) (w : AV), X (110, 152, [aR 80, aI v1, aI r, aI (pc p : Int), aI s, aI ((rs p s (pc p) : Nat) : Int), aI j, w7], [], h) = X (110, 76, [aR 80, aI v1, aI r, aI (pc p : Int), aI ((s + 1 : Nat) : Int), aI ((rs p s (pc p) : Nat) : Int), aI (pc p : Int), w], [], g) ∧ (∀ q, q ≠ 92 → g q = h q) ∧ (∀ x, x ≠ (s : Int) → g 92 x = h 92 x) ∧ g 92 (s : Nat) = base + suz (cmz Z (fun i => !r.testBit i) T p s) (fun i => F (dif s (2 ^ i))) (pc p)
  | 0, j, w7, h, hk, h81, hm, hF, hv => by
    have e : j = pc p := by omega
    subst e
    refine ⟨h, w7, ?_, fun _ _ => rfl, fun _ _ => rfl, hv⟩
    rw [e110_152, cd_t (Int.le_refl _)]
    rfl
  | k + 1, j, w7, h, hk, h81, hm, hF, hv => by
    have es : suz (cmz Z (fun i => !r.testBit i) T p s) (fun i => F (dif s (2 ^ i))) (j + 1) = suz (cmz Z (fun i => !r.testBit i) T p s) (fun i => F (dif s (2 ^ i))) j + cond (cmz Z (fun i => !r.testBit i) T p s j) (F (dif s (2 ^ j))) 0 := rfl
    have mj := mm_ok (p := p) (j := j) (by omega)
    have rl := rs_le p s (pc p)
    have is : inb 256 (s : Int) = true := inb_t (by omega) (by omega) (by omega)
    have ht := zd_w hZ
    have bl := bhk_31 hZ (hd := fun i => !r.testBit i) (P := rs p s (pc p)) (k := T) (by omega)
    have go : ∀ (x : Int) (w : AV), x = cond (cmz Z (fun i => !r.testBit i) T p s j) (F (dif s (2 ^ j))) 0 → ∃ (g : Hp) (w' : AV), X (110, 152, [aR 80, aI v1, aI r, aI (pc p : Int), aI s, aI ((rs p s (pc p) : Nat) : Int), aI ((j + 1 : Nat) : Int), w], [], up h 92 (s : Nat) (h 92 (s : Nat) + x)) = X (110, 76, [aR 80, aI v1, aI r, aI (pc p : Int), aI ((s + 1 : Nat) : Int), aI ((rs p s (pc p) : Nat) : Int), aI (pc p : Int), w'], [], g) ∧ (∀ q, q ≠ 92 → g q = h q) ∧ (∀ x, x ≠ (s : Int) → g 92 x = h 92 x) ∧ g 92 (s : Nat) = base + suz (cmz Z (fun i => !r.testBit i) T p s) (fun i => F (dif s (2 ^ i))) (pc p) := fun x w hx => by
      obtain ⟨g, w', a1, a2, a3, a4⟩ := m_sumL hZ (v1 := v1) (base := base) (F := F) hp hr hs hT h8 k (j + 1) w (up h 92 (s : Nat) (h 92 (s : Nat) + x)) (by omega) (by rw [up_n _ _ _ (by decide)]; exact h81) (fun i hi => by rw [up_n _ _ _ (by decide)]; exact hm i hi) (fun y hy => by rw [up_o _ _ _ (by omega)]; exact hF y hy) (by rw [up_s, hv, es, hx]; omega)
      exact ⟨g, w', a1, fun q hq => by rw [a2 q hq, up_n _ _ _ hq], fun y hy => by rw [a3 y hy, up_o _ _ _ hy], a4⟩
    have dl := dif_le s (2 ^ j)
    rw [e110_152, wr_id (x := (pc p : Int)) (by omega) (by omega), wr_id (x := (j : Int)) (by omega) (by omega), cd_f (by omega), m_has (by omega) (by omega), bI_some, d_bi0, is, m_behind hZ h81 (by omega) (by omega) hT, bI_some, inb_t (i := (j : Int)) (by omega) (by omega) (by omega), hm j (by omega), m_has (by omega) (by omega), bI_some, d_bi1, shl_n (by omega), jdif_n (by omega), inb_t (i := ((dif s (2 ^ j) : Nat) : Int)) (by omega) (by omega) (by omega), wr_id (x := (s : Int)) (by omega) (by omega), wr_id (x := ((dif s (2 ^ j) : Nat) : Int)) (by omega) (by omega), show (j : Int) + 1 = ((j + 1 : Nat) : Int) by omega]
    simp only [cond_t]
    cases t : s.testBit j
    · rw [Bool.not_false, cond_t]
      refine go 0 _ ?_
      unfold cmz
      rw [t, Bool.false_and, cond_f]
    · rw [Bool.not_true, cond_f]
      cases u : (bhk Z (fun i => !r.testBit i) (rs p s (pc p)) T).testBit (mm p j)
      · rw [cond_f]
        have ne : dif s (2 ^ j) ≠ s := fun z => by
          have := dif_eq.mp z
          rw [t] at this; exact absurd this (by decide)
        refine go (h 92 (dif s (2 ^ j) : Nat)) _ ?_
        unfold cmz
        rw [t, u, Bool.not_false, Bool.and_self, cond_t, hF _ (by omega)]
      · rw [cond_t]
        refine go 0 _ ?_
        unfold cmz
        rw [t, u, Bool.not_true, Bool.and_false, cond_f]
def VM (V : Int → Int) (Z : Int → Int) (hd : Nat → Bool) (T p hi : Nat) : Prop := ∀ s : Nat, s < hi → V s = (if s = 0 then 1 else 0) + suz (cmz Z hd T p s) (fun i => V (dif s (2 ^ i) : Nat)) (pc p)
theorem m_ways {Z : Int → Int} (hZ : ZD Z) {p T r : Nat} (hp : p < 4096) (hr : r < 4096) (hT : (T : Int) = Z 42) (h8 : pc p ≤ 8) : ∀ (k s : Nat) (w5 w6 w7 : AV) (h : Hp), s + k = 2 ^ pc p → h 81 = Z → (∀ j, j < pc p → h 93 (j : Nat) = (mm p j : Int)) → VM (h 92) Z (fun i => !r.testBit i) T p s → ∃ g, X (110, 76, [aR 80, aI p, aI r, aI (pc p : Int), aI s, w5, w6, w7], [], h) = some (some (g 92 ((2 ^ pc p - 1 : Nat) : Int)), g) ∧ (∀ q, q ≠ 92 → g q = h q) ∧ VM (g 92) Z (fun i => !r.testBit i) T p (2 ^ pc p)
  | k, s, w5, w6, w7, h, hk, h81, hm, V => by
    have p256 : 2 ^ pc p ≤ 256 := Nat.pow_le_pow_right (n := 2) (by decide) h8
    have p0 := Nat.two_pow_pos (pc p)
    rw [e110_76, shl_n (by omega), wr_id (x := ((2 ^ pc p : Nat) : Int)) (by omega) (by omega), wr_id (x := (s : Int)) (by omega) (by omega), show ((2 ^ pc p : Nat) : Int) - 1 = ((2 ^ pc p - 1 : Nat) : Int) by omega, inb_t (i := ((2 ^ pc p - 1 : Nat) : Int)) (by omega) (by omega) (by omega), wr_id (x := ((2 ^ pc p - 1 : Nat) : Int)) (by omega) (by omega)]
    cases k with
    | zero =>
      have e : s = 2 ^ pc p := by omega
      rw [cd_t (by omega), cond_t]
      exact ⟨h, rfl, fun _ _ => rfl, by rw [← e]; exact V⟩
    | succ k =>
      rw [cd_f (by omega), inb_t (i := (s : Int)) (by omega) (by omega) (by omega)]
      simp only [cond_t]
      have go : ∀ base : Int, base = (if s = 0 then 1 else 0) → ∃ g, X (110, 107, [aR 80, aI p, aI r, aI (pc p : Int), aI s, aI p, aI 0, w7], [], up h 92 (s : Nat) base) = some (some (g 92 ((2 ^ pc p - 1 : Nat) : Int)), g) ∧ (∀ q, q ≠ 92 → g q = h q) ∧ VM (g 92) Z (fun i => !r.testBit i) T p (2 ^ pc p) := fun base hb => by
        have b93 : ∀ j, j < pc p → up h 92 (s : Nat) base 93 (j : Nat) = (mm p j : Int) := fun j hj => by rw [up_n _ _ _ (by decide)]; exact hm j hj
        have e1 := m_restL (v1 := (p : Int)) (v2 := (r : Int)) (s := s) hp (by omega) h8 b93 (pc p) 0 w7 (by omega)
        have e1 : X (110, 107, [aR 80, aI p, aI r, aI (pc p : Int), aI s, aI p, aI 0, w7], [], up h 92 (s : Nat) base) = _ := e1
        obtain ⟨g1, w, a1, a2, a3, a4⟩ := m_sumL hZ (v1 := (p : Int)) (base := base) (F := fun x => h 92 (x : Nat)) (s := s) hp hr (by omega) hT h8 (pc p) 0 w7 (up h 92 (s : Nat) base) (by omega) (by rw [up_n _ _ _ (by decide)]; exact h81) b93 (fun x hx => up_o _ _ _ (by omega)) (by rw [up_s]; show base = base + 0; omega)
        have a1 : X (110, 152, [aR 80, aI p, aI r, aI (pc p : Int), aI s, aI ((rs p s (pc p) : Nat) : Int), aI 0, w7], [], up h 92 (s : Nat) base) = _ := a1
        have lo : ∀ x : Nat, x < s → g1 92 (x : Nat) = h 92 (x : Nat) := fun x hx => by rw [a3 _ (by omega), up_o _ _ _ (by omega)]
        obtain ⟨g, b1, b2, b3⟩ := m_ways hZ hp hr hT h8 k (s + 1) (aI ((rs p s (pc p) : Nat) : Int)) (aI (pc p : Int)) w g1 (by omega) (by rw [a2 81 (by decide), up_n _ _ _ (by decide)]; exact h81) (fun j hj => by rw [a2 93 (by decide)]; exact b93 j hj) (fun x hx => by
          have sub : ∀ i, i < pc p → cmz Z (fun i => !r.testBit i) T p x i = true → h 92 (dif x (2 ^ i) : Nat) = g1 92 (dif x (2 ^ i) : Nat) := fun i hi hc => by
            refine (lo _ ?_).symm
            have dl := dif_le x (2 ^ i)
            unfold cmz at hc
            rw [Bool.and_eq_true] at hc
            have ne : dif x (2 ^ i) ≠ x := fun z => by
              have := dif_eq.mp z
              rw [hc.1] at this; exact absurd this (by decide)
            omega
          by_cases e : x = s
          · subst e
            rw [a4, hb]
            congr 1
            exact suz_c _ (fun _ _ => rfl) sub
          · rw [lo x (by omega), V x (by omega)]
            congr 1
            exact suz_c _ (fun _ _ => rfl) sub)
        exact ⟨g, e1.trans (a1.trans b1), fun q hq => by rw [b2 q hq, a2 q hq, up_n _ _ _ hq], b3⟩
      by_cases z : s = 0
      · rw [cd_f (by omega)]
        exact go 1 (by rw [if_pos z])
      · rw [cd_t (by omega)]
        exact go 0 (by rw [if_neg z])
theorem suz_f {c : Nat → Bool} {f : Nat → Int} : ∀ k, (∀ i, i < k → c i = false) → suz c f k = 0
  | 0, _ => rfl
  | k + 1, h => by
    show suz c f k + cond (c k) (f k) 0 = 0
    rw [suz_f k (fun i hi => h i (by omega)), h k (by omega)]; rfl
theorem vw_m {V : Int → Int} {Z : Int → Int} (hZ : ZD Z) {hd : Nat → Bool} {T p : Nat} (hT : (T : Int) = Z 42) (hp : p < 4096) (H : VM V Z hd T p (2 ^ pc p)) : VW V Z hd T p (2 ^ pc p) := by
  have p0 := Nat.two_pow_pos (pc p)
  refine ⟨?_, fun s s0 s1 => ?_⟩
  · have := H 0 p0
    rw [if_pos rfl, suz_f _ (fun i _ => by unfold cmz; rw [Nat.zero_testBit, Bool.false_and])] at this
    exact this
  · have := H s s1
    rw [if_neg (by omega), Int.zero_add] at this
    rw [this]
    exact suz_c _ (fun i hi => (cs_cm hZ hT hp hi).symm) (fun _ _ _ => rfl)
theorem vw_c {V : Int → Int} {Z : Int → Int} {hd hd' : Nat → Bool} {T p hi : Nat} (he : ∀ i, i < T → hd i = hd' i) (H : VW V Z hd T p hi) : VW V Z hd' T p hi := by
  refine ⟨H.1, fun s s0 s1 => ?_⟩
  rw [H.2 s s0 s1]
  refine suz_c _ (fun i _ => ?_) (fun _ _ _ => rfl)
  have e : nd Z hd T p (pc p) i = nd Z hd' T p (pc p) i := racc_c _ (fun k _ => by rw [bhk_c T he (fun _ _ => rfl)])
  unfold cs
  rw [e]
theorem case_27 (L : Nat) (xs : Nat → Int32) : Cs_27 L xs := by
  intro h hI a1 r1
  have hS := hI.1
  have e1 : wr a1 = a1 := wr_id r1.1 r1.2
  have hZ : ZD (h 81) := zd_of hI.2.2.1
  have ht := zd_w hZ
  have hn := zd_n hZ
  obtain ⟨T, hT⟩ : ∃ T : Nat, (T : Int) = h 81 42 := ⟨(h 81 42).toNat, by omega⟩
  obtain ⟨n, hn'⟩ : ∃ n : Nat, (n : Int) = h 81 24 := ⟨(h 81 24).toNat, by omega⟩
  have pT := p12 (n := T) (by omega)
  have pn := p12 (n := n) (by omega)
  have pT0 := Nat.two_pow_pos T
  have pn0 := Nat.two_pow_pos n
  have h19 : h 19 4 = n := by
    rw [hn']
    exact hI.2.1.2.2.2.1.1
  have qs := e27_0 a1 h
  rw [e1, h19, shl_n (by omega), show ((2 ^ n : Nat) : Int) - 1 = ((2 ^ n - 1 : Nat) : Int) by omega] at qs
  have qm : ∀ g, g 81 = h 81 → X (110, 0, [aR 80, aI a1, aN, aN, aN, aN, aN, aN], [], g) = cond (decide (1 ≤ a1 ∧ a1 ≤ ((2 ^ n - 1 : Nat) : Int))) (bI (X (107, 0, [aI a1, aN, aN], [], g)) (fun r3 h3 => cond (decide ((wr r3) ≤ 8)) (bI (X (108, 0, [aR 80, aN, aN], [], h3)) (fun r4 h4 => X (110, 35, [aR 80, aI a1, aI r4, aI 0, aI 0, aN, aN, aN], [], h4))) (some (some (-1), h3)))) (some (some (-1), g)) := fun g g81 => by
    rw [e110_0, m_all hZ g81 hn', bI_some, wr_id (x := ((2 ^ n - 1 : Nat) : Int)) (by omega) (by omega), s_inw g (by omega) (by omega), bI_some, d_bi0, e1]
    show cond (!decide (1 ≤ a1 ∧ a1 ≤ ((2 ^ n - 1 : Nat) : Int))) _ _ = _
    by_cases c : 1 ≤ a1 ∧ a1 ≤ ((2 ^ n - 1 : Nat) : Int)
    · rw [decide_eq_true c, Bool.not_true, cond_f, cond_t]
    · rw [decide_eq_false c, Bool.not_false, cond_t, cond_f]
  by_cases pos : a1 ≤ 0
  · rw [cd_t pos] at qs
    have m := qm h rfl
    rw [cd_f (by omega)] at m
    exact ⟨-1, h, h, qs, hS, m, hI⟩
  · rw [cd_f pos] at qs
    obtain ⟨p, rfl⟩ : ∃ p : Nat, a1 = p := ⟨a1.toNat, by omega⟩
    have p31 : p < 2147483648 := by have := r1.2; omega
    have dl := dif_lt (a := p) (b := 2 ^ n - 1) p31
    rw [jdif_n p31, wr_id (x := ((dif p (2 ^ n - 1) : Nat) : Int)) (by omega) (by omega)] at qs
    by_cases inn : p < 2 ^ n
    · have z : dif p (2 ^ n - 1) = 0 := dif_0.mpr (fun i hi => by rw [ones_bit, decide_eq_true (bit_lt inn hi)])
      have p40 : p < 4096 := by omega
      have q12 := pc_12 p
      rw [z, cd_f (by omega), s_bits p40, bI_some, wr_id (x := (pc p : Int)) (by omega) (by omega)] at qs
      by_cases h8 : pc p ≤ 8
      · rw [cd_t (by omega)] at qs
        obtain ⟨g1, c1, c2, c3⟩ := s_choose p40 h8 12 0 h (by omega) (fun x hx => by omega)
        have c1 : X (169, 0, [aR 76, aI p, aN, aN], [], h) = some (some (pc p : Int), g1) := (e169_0 p h).trans c1
        have I1 : Inv L xs g1 := inv_quiet hI (fun q hq => c2 q (by omega)) ⟨by rw [c2 80 (by decide)], by rw [c2 80 (by decide)]⟩
        have y81 : g1 81 = h 81 := c2 81 (by decide)
        obtain ⟨r, g2, d1, d2, d3, d4, d5⟩ := s_fewest I1 (T := T) (n := n) (by rw [y81]; exact hT) (by rw [y81]; exact hn')
        rw [y81] at d2
        have z81 : g2 81 = h 81 := by rw [d3 81 (by decide), y81]
        have W2 : WD 24 (h 81) g2 := by
          have := wd_of d5
          rw [z81] at this
          exact this
        have W1 := wd_of I1
        rw [y81] at W1
        have Hl : dif (2 ^ T - 1) r < 4096 := lt_of_bits (n := 12) (fun i hi => by
          rw [dif_bit, ones_bit, Bool.and_eq_true, decide_eq_true_eq] at hi
          omega)
        have e126 : X (126, 0, [aR 24], [], g1) = some (some ((dif (2 ^ T - 1) r : Nat) : Int), g2) := by
          rw [e126_0 (by decide), d1, bI_some, W1.1, ← hT, shl_n (by omega), show ((2 ^ T : Nat) : Int) - 1 = ((2 ^ T - 1 : Nat) : Int) by omega, jdif_n (by omega)]
        have mem : ∀ j, j < pc p → g2 77 (j : Nat) = (mm p j : Int) := fun j hj => by
          have mj := mm_ok hj
          rw [d3 77 (by decide)]
          have := c3 _ mj.1
          rw [mj.2.2] at this
          exact this
        obtain ⟨g3, f1, f2, f3, f4⟩ := s_needs hZ (a1 := (p : Int)) Hl hT h8 (pc p) 0 g2 (by omega) W2 mem (fun i hi => by omega)
        have f1 : X (168, 15, [aR 76, aI p, aR 24, aI (pc p : Int), aI ((dif (2 ^ T - 1) r : Nat) : Int), aI 0, aN, aN, aN, aN], [], g2) = _ := f1
        have m0 := Nat.two_pow_pos (pc p)
        obtain ⟨g4, k1, k2, k3⟩ := s_ways (a1 := (p : Int)) (a4 := ((dif (2 ^ T - 1) r : Nat) : Int)) h8 (2 ^ pc p - 1) 1 aN aN aN g3 (by omega) (by omega) f4 ⟨f3, fun s s0 s1 => by omega⟩
        have k1 : X (168, 61, [aR 76, aI p, aR 24, aI (pc p : Int), aI ((dif (2 ^ T - 1) r : Nat) : Int), aI ((2 ^ pc p - 1 : Nat) : Int), aI 1, aN, aN, aN], [], g3) = _ := k1
        rw [e168_0 (by decide), c1, bI_some, e126, bI_some, f1, k1, bI_some] at qs
        have fr : ∀ q, q ≠ 78 → q ≠ 79 → g4 q = g2 q := fun q q1 q2 => by rw [k2 q q2, f2 q q1 q2]
        have I4 : Inv L xs g4 := inv_quiet d5 (fun q hq => fr q (by omega) (by omega)) ⟨by rw [fr 80 (by decide) (by decide)], by rw [fr 80 (by decide) (by decide)]⟩
        have x81 : g4 81 = h 81 := by rw [fr 81 (by decide) (by decide), z81]
        obtain ⟨r', b1, b2⟩ := m_drops (h := g4) hZ x81 hT hn'
        have er := BD_u d2 b2
        subst er
        have rb := b2.1
        obtain ⟨g5, u1, u2, u3⟩ := m_who hZ (v2 := (r' : Int)) hn' inn h8 n 0 g4 (by omega) x81 (fun x hx => by omega)
        have u1 : X (110, 35, [aR 80, aI p, aI r', aI 0, aI 0, aN, aN, aN], [], g4) = _ := u1
        have who : ∀ j, j < pc p → g5 93 (j : Nat) = (mm p j : Int) := fun j hj => by
          have mj := mm_ok hj
          have := u3 _ mj.1
          rw [mj.2.2] at this
          exact this
        obtain ⟨g6, v1, v2, v3⟩ := m_ways hZ p40 (r := r') (by omega) hT h8 (2 ^ pc p) 0 aN aN aN g5 (by omega) (by rw [u2 81 (by decide)]; exact x81) who (fun s hs => by omega)
        have v1 : X (110, 76, [aR 80, aI p, aI r', aI (pc p : Int), aI 0, aN, aN, aN], [], g5) = _ := v1
        have m := qm g4 x81
        rw [cd_t (by omega), m_ones p40, bI_some, wr_id (x := (pc p : Int)) (by omega) (by omega), cd_t (by omega), b1, bI_some, u1, v1] at m
        have ev := vw_u (vw_c (hd' := fun i => !r'.testBit i) (fun i hi => by rw [dif_bit, ones_bit, decide_eq_true hi, Bool.true_and]) k3) (vw_m hZ hT p40 v3) (2 ^ pc p - 1) (by omega)
        rw [ev] at m
        exact ⟨_, g4, g6, qs, I4.1, m, inv_quiet I4 (fun q hq => by rw [v2 q (by omega), u2 q (by omega)]) ⟨by rw [v2 80 (by decide), u2 80 (by decide)], by rw [v2 80 (by decide), u2 80 (by decide)]⟩⟩
      · rw [cd_f (by omega)] at qs
        have m := qm h rfl
        rw [cd_t (by omega), m_ones p40, bI_some, wr_id (x := (pc p : Int)) (by omega) (by omega), cd_f (by omega)] at m
        exact ⟨-1, h, h, qs, hS, m, hI⟩
    · have nz : dif p (2 ^ n - 1) ≠ 0 := fun z => by
        apply inn
        have q := dif_0.mp z
        exact lt_of_bits (fun i hi => by
          have := q i hi
          rw [ones_bit, decide_eq_true_eq] at this
          exact this)
      rw [cd_t (by omega)] at qs
      have m := qm h rfl
      rw [cd_f (by omega)] at m
      exact ⟨-1, h, h, qs, hS, m, hI⟩
