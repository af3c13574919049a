/-! both choose alike -/
def LdS (n : Int) (W : Int → Bool) (G : Int → Int → Bool) (r x : Int) : Prop := (x = -1 ∧ ∀ o, 0 ≤ o → o < n → W o = false) ∨ ((0 ≤ x ∧ x < n) ∧ W x = true ∧ (∀ u, 0 ≤ u → u < n → W u = true → (∀ o, 0 ≤ o → o < n → o ≠ u → W o = true → G o u = false) → x = u) ∧ (r ≠ 1 → ∀ o, 0 ≤ o → o < n → o ≠ x → W o = true → G x o = true))
theorem pick_agree {n N : Int} {io : Int → Int} {W : Int → Bool} {G F : Int → Int → Bool} {ru x y rm q : Int} {b : Bool} (him : ∀ p, 0 ≤ p → p < N → W p = true → ∃ i, 0 ≤ i ∧ i < n ∧ io i = p) (hio : ∀ i, 0 ≤ i → i < n → 0 ≤ io i ∧ io i < N) (inj : ∀ i j, 0 ≤ i → i < n → 0 ≤ j → j < n → i ≠ j → io i ≠ io j) (tG : ∀ a b, a ≠ b → G a b = !G b a) (tF : ∀ a b, a ≠ b → F a b = !F b a)
    (L1 : LdS n (fun i => W (io i)) (fun i j => G (io i) (io j)) ru x) (B : x ≠ -1 → (b = true ↔ ru = 1 ∧ ∃ o, 0 ≤ o ∧ o < n ∧ o ≠ x ∧ W (io o) = true ∧ G (io o) (io x) = true)) (L2 : LdS n (fun i => W (io i)) (fun i j => F (io i) (io j)) 0 y) (M : Nx N W G F rm q) :
    (x = -1 → rm = -4 ∧ q = 0) ∧ (x ≠ -1 → b = false → (0 ≤ x ∧ x < n) ∧ rm = io x ∧ q = 0) ∧ (x ≠ -1 → b = true → (0 ≤ y ∧ y < n) ∧ rm = io y ∧ q = 1) := by
  have tf : ∀ {c : Bool}, c = true → c = false → False := fun h1 h2 => by rw [h1] at h2; exact absurd h2 (by decide)
  refine ⟨fun hx => ?_, fun hx hb => ?_, fun hx hb => ?_⟩
  · have no : ∀ p, 0 ≤ p → p < N → W p = true → False := fun p p0 p1 hw => by
      obtain ⟨i, i0, i1, i2⟩ := him p p0 p1 hw
      rcases L1 with ⟨_, l2⟩ | ⟨l1, _⟩
      · have this : W (io i) = false := l2 i i0 i1
        rw [i2] at this
        exact tf hw this
      · omega
    rcases M with ⟨m1, m2, _⟩ | ⟨m1, m2, _⟩ | ⟨m1, m2, _⟩
    · exact ⟨m1, m2⟩
    · exact (no rm m1.1 m1.2 m2).elim
    · exact (no rm m1.1 m1.2 m2).elim
  · rcases L1 with ⟨l1, _⟩ | ⟨l1, l2, l3, l4⟩
    · exact absurd l1 hx
    have hxN := hio x l1.1 l1.2
    have fr : ∀ o, 0 ≤ o → o < n → o ≠ x → W (io o) = true → G (io o) (io x) = false := by
      intro o o0 o1 o2 ow
      by_cases hr : ru = 1
      · cases hg : G (io o) (io x)
        · rfl
        · have := (B hx).mpr ⟨hr, o, o0, o1, o2, ow, hg⟩
          exact (tf this hb).elim
      · have := l4 hr o o0 o1 o2 ow
        have this : G (io x) (io o) = true := this
        rw [tG _ _ (inj o x o0 o1 l1.1 l1.2 o2), this]; rfl
    refine ⟨l1, ?_⟩
    rcases M with ⟨m1, m2, m3⟩ | ⟨m1, m2, m3, m4⟩ | ⟨m1, m2, m3, m4, m5⟩
    · exact (tf l2 (m3 _ hxN.1 hxN.2)).elim
    · obtain ⟨i, i0, i1, i2⟩ := him rm m1.1 m1.2 m2
      by_cases hi : i = x
      · exact ⟨by rw [← i2, hi], m3⟩
      · have q1 := fr i i0 i1 hi (by rw [i2]; exact m2)
        have q2 := m4 (io x) hxN.1 hxN.2 (by rw [← i2]; exact inj x i l1.1 l1.2 i0 i1 (fun q => hi q.symm)) l2
        rw [tG _ _ (inj i x i0 i1 l1.1 l1.2 hi), i2, q2] at q1
        exact absurd q1 (by decide)
    · obtain ⟨o, o1, o2, o3, o4⟩ := m4 (io x) hxN.1 hxN.2 l2
      obtain ⟨i, i0, i1, i2⟩ := him o o1.1 o1.2 o3
      have q1 := fr i i0 i1 (fun q => o2 (by rw [← i2, q])) (by rw [i2]; exact o3)
      rw [i2] at q1
      exact (tf o4 q1).elim
  · rcases L1 with ⟨l1, _⟩ | ⟨l1, l2, l3, l4⟩
    · exact absurd l1 hx
    have hxN := hio x l1.1 l1.2
    obtain ⟨hr, o, o0, o1, o2, ow, og⟩ := (B hx).mp hb
    rcases L2 with ⟨k1, k2⟩ | ⟨k1, k2, k3, k4⟩
    · exact (tf l2 (k2 x l1.1 l1.2)).elim
    refine ⟨k1, ?_⟩
    have hyN := hio y k1.1 k1.2
    rcases M with ⟨m1, m2, m3⟩ | ⟨m1, m2, m3, m4⟩ | ⟨m1, m2, m3, m4, m5⟩
    · exact (tf l2 (m3 _ hxN.1 hxN.2)).elim
    · obtain ⟨i, i0, i1, i2⟩ := him rm m1.1 m1.2 m2
      have hxi : x = i := l3 i i0 i1 (by show W (io i) = true; rw [i2]; exact m2) (fun a a0 a1 a2 a3 => by
        show G (io a) (io i) = false
        rw [i2]
        exact m4 (io a) (hio a a0 a1).1 (hio a a0 a1).2 (by rw [← i2]; exact inj a i a0 a1 i0 i1 a2) a3)
      have q := m4 (io o) (hio o o0 o1).1 (hio o o0 o1).2 (by rw [← i2, ← hxi]; exact inj o x o0 o1 l1.1 l1.2 o2) ow
      rw [← i2, ← hxi] at q
      exact (tf og q).elim
    · obtain ⟨i, i0, i1, i2⟩ := him rm m1.1 m1.2 m2
      by_cases hi : i = y
      · exact ⟨by rw [← i2, hi], m3⟩
      · have q1 : F (io y) (io i) = true := k4 (by decide) i i0 i1 hi (by show W (io i) = true; rw [i2]; exact m2)
        have q2 := m5 (io y) hyN.1 hyN.2 (by rw [← i2]; exact inj y i k1.1 k1.2 i0 i1 (fun q => hi q.symm)) k2
        rw [i2] at q1
        rw [tF _ _ (by rw [← i2]; exact inj i y i0 i1 k1.1 k1.2 hi), q1] at q2
        exact absurd q2 (by decide)
/-! sums over the first k -/
def sm (f : Int → Int) : Nat → Int
  | 0 => 0
  | k + 1 => sm f k + f k
theorem sm_c {f g : Int → Int} : ∀ (k : Nat), (∀ p : Int, 0 ≤ p → p < k → g p = f p) → sm g k = sm f k
  | 0, _ => rfl
  | k + 1, h => by
    show sm g k + g k = sm f k + f k
    rw [sm_c k (fun p a b => h p a (by omega)), h k (by omega) (by omega)]
theorem sm_u {f g : Int → Int} {q : Int} : ∀ (k : Nat), 0 ≤ q → q < k → (∀ p : Int, 0 ≤ p → p < k → p ≠ q → g p = f p) → sm g k = sm f k + (g q - f q)
  | 0, a, b, _ => by omega
  | k + 1, a, b, h => by
    show sm g k + g k = sm f k + f k + (g q - f q)
    by_cases c : q = k
    · rw [sm_c (f := f) k (fun p p0 p1 => h p p0 (by omega) (by omega)), c]; omega
    · rw [sm_u k a (by omega) (fun p p0 p1 p2 => h p p0 (by omega) p2), h k (by omega) (by omega) (fun q => c q.symm)]; omega
theorem sm_r {f : Int → Int} {B : Int} : ∀ (k : Nat), (∀ p : Int, 0 ≤ p → p < k → 0 ≤ f p ∧ f p ≤ B) → 0 ≤ sm f k ∧ sm f k ≤ B * k
  | 0, _ => ⟨Int.le_refl 0, by show (0 : Int) ≤ B * ((0 : Nat) : Int); rw [Int.natCast_zero, Int.mul_zero]; omega⟩
  | k + 1, h => by
    have q := sm_r k (fun p a b => h p a (by omega))
    have r := h k (by omega) (by omega)
    have e : B * ((k + 1 : Nat) : Int) = B * k + B := by rw [Int.natCast_add, Int.mul_add]; omega
    rw [e]
    show 0 ≤ sm f k + f k ∧ sm f k + f k ≤ _
    omega
def cnt (Z : Int → Int) (fate : Int → Int) : Int := sm (fun p => if fate p = 4 then 1 else 0) (Z 24).toNat
def cnS (Z : Int → Int) (fate : Int → Int) : Int := sm (fun p => if fate p = 4 then zSz Z p else 0) (Z 24).toNat
theorem cnt_r {Z : Int → Int} (H : ZD Z) (fate : Int → Int) : (0 ≤ cnt Z fate ∧ cnt Z fate ≤ 12) ∧ (0 ≤ cnS Z fate ∧ cnS Z fate ≤ 48) := by
  have hn := zd_n H
  have a := sm_r (f := fun p => if fate p = 4 then 1 else 0) (B := 1) (Z 24).toNat (fun p _ _ => by show 0 ≤ (if fate p = 4 then (1 : Int) else 0) ∧ _; split <;> omega)
  have b := sm_r (f := fun p => if fate p = 4 then zSz Z p else 0) (B := 4) (Z 24).toNat (fun p p0 p1 => by
    have := zSz_r H (p := p) p0 (by omega)
    show 0 ≤ (if fate p = 4 then zSz Z p else 0) ∧ _
    split <;> omega)
  unfold cnt cnS
  omega
theorem m_waitL {h : Hp} (H : ZD (h 81)) {t m : Int} (ht : t = 0 ∨ t = 1) (m0 : 0 ≤ m ∧ m < 240) (hf : ∀ p, 0 ≤ p → p < h 81 24 → (0 ≤ h 84 p ∧ h 84 p ≤ 4) ∧ (h 84 p = 4 → zmn (h 81) p ≤ m)) : ∀ (k q : Nat), (q : Int) + k = h 81 24 → X (79, 5, [aR 80, aI t, aI m, aI (sm (fun p => if h 84 p = 4 then (if t = 0 then 1 else zSz (h 81) p) else 0) q), aI q], [], h) = some (some (sm (fun p => if h 84 p = 4 then (if t = 0 then 1 else zSz (h 81) p) else 0) (q + k)), h)
  | 0, q, hk => by
    have hn := zd_n H
    rw [e79_5, wr_id (x := h 81 24) (by omega) (by omega), wr_id (x := (q : Int)) (by omega) (by omega), cd_t (by omega)]
    rfl
  | k + 1, q, hk => by
    have hn := zd_n H
    have hq := hf q (by omega) (by omega)
    have hr := (zd_row H (p := q) (by omega) (by omega)).1
    unfold zmn at hr hq
    have ih := m_waitL H ht m0 hf k (q + 1) (by omega)
    have es : sm (fun p => if h 84 p = 4 then (if t = 0 then 1 else zSz (h 81) p) else 0) (q + 1) = sm (fun p => if h 84 p = 4 then (if t = 0 then 1 else zSz (h 81) p) else 0) q + (if h 84 q = 4 then (if t = 0 then 1 else zSz (h 81) q) else 0) := rfl
    rw [es, show q + 1 + k = q + (k + 1) by omega, show ((q + 1 : Nat) : Int) = (q : Int) + 1 by omega] at ih
    rw [e79_5, wr_id (x := h 81 24) (by omega) (by omega), wr_id (x := (q : Int)) (by omega) (by omega), cd_f (by omega), inb_t (by omega) (by omega) (by omega), cond_t, wr_id (x := h 84 (q : Int)) (by omega) (by omega)]
    by_cases z : h 84 (q : Int) = 4
    · have hm := hq.2 z
      rw [if_pos z] at ih
      rw [cd_f (by omega), m_of (by omega) (by omega) (by decide) (by decide), bI_some, Int.add_zero, wr_id (x := m) (by omega) (by omega), wr_id (x := h 81 (67 + 4 * (q : Int))) (by omega) (by omega), cd_f (by omega), m_sizeOf H (p := q) (by omega) (by omega), bI_some]
      rcases ht with ht | ht
      · subst ht
        rw [wr_0, cd_t rfl]
        rw [if_pos rfl] at ih
        exact ih
      · subst ht
        rw [wr_1, cd_f (by decide)]
        rw [if_neg (show ¬ (1 : Int) = 0 by decide)] at ih
        exact ih
    · rw [if_neg z] at ih
      rw [cd_t z]
      exact ih
theorem m_waiting {h : Hp} (H : ZD (h 81)) {m : Int} (m0 : 0 ≤ m ∧ m < 240) (hf : ∀ p, 0 ≤ p → p < h 81 24 → (0 ≤ h 84 p ∧ h 84 p ≤ 4) ∧ (h 84 p = 4 → zmn (h 81) p ≤ m)) : X (79, 0, [aR 80, aI 0, aI m, aN, aN], [], h) = some (some (cnt (h 81) (h 84)), h) ∧ X (79, 0, [aR 80, aI 1, aI m, aN, aN], [], h) = some (some (cnS (h 81) (h 84)), h) := by
  have hn := zd_n H
  have a := m_waitL H (t := 0) (Or.inl rfl) m0 hf (h 81 24).toNat 0 (by omega)
  have b := m_waitL H (t := 1) (Or.inr rfl) m0 hf (h 81 24).toNat 0 (by omega)
  rw [Nat.zero_add] at a b
  rw [e79_0, e79_0]
  exact ⟨a, b⟩
