/-! what a played day sums up to, in both -/
section SU
variable {d : Nat} {N : Int} {g h : Hp}
theorem s_waitsL (hd : d = 1 ∨ d = 27) (hn : 0 ≤ N ∧ N ≤ 12) (h4 : g (d + 18) 4 = N) : ∀ (k q : Nat), (q : Int) + k = N → X (145, 4, [aR d, aI (sm (fun i => g (d + 2) i) q), aI q], [], g) = some (some (sm (fun i => g (d + 2) i) (q + k)), g)
  | 0, q, hk => by
    rw [e145_4 hd, h4, wr_id (x := N) (by omega) (by omega), wr_id (x := (q : Int)) (by omega) (by omega), cd_t (by omega)]; rfl
  | k + 1, q, hk => by
    have ih := s_waitsL hd hn h4 k (q + 1) (by omega)
    rw [show q + 1 + k = q + (k + 1) by omega] at ih
    rw [e145_4 hd, h4, wr_id (x := N) (by omega) (by omega), wr_id (x := (q : Int)) (by omega) (by omega), cd_f (by omega), inb_t (by omega) (by omega) (by omega), cond_t]
    exact ih
theorem m_waitsL (hn : 0 ≤ N ∧ N ≤ 12) (h4 : h 81 24 = N) : ∀ (k q : Nat), (q : Int) + k = N → X (84, 4, [aR 80, aI (sm (fun i => h 85 i) q), aI q], [], h) = some (some (sm (fun i => h 85 i) (q + k)), h)
  | 0, q, hk => by
    rw [e84_4, h4, wr_id (x := N) (by omega) (by omega), wr_id (x := (q : Int)) (by omega) (by omega), cd_t (by omega)]; rfl
  | k + 1, q, hk => by
    have ih := m_waitsL hn h4 k (q + 1) (by omega)
    rw [show q + 1 + k = q + (k + 1) by omega] at ih
    rw [e84_4, h4, wr_id (x := N) (by omega) (by omega), wr_id (x := (q : Int)) (by omega) (by omega), cd_f (by omega), inb_t (by omega) (by omega) (by omega), cond_t]
    exact ih
theorem s_fatesL (hd : d = 1 ∨ d = 27) (hn : 0 ≤ N ∧ N ≤ 12) (h4 : g (d + 18) 4 = N) {f : Int} (f0 : 0 ≤ f ∧ f ≤ 4) (hr : ∀ i, 0 ≤ i → i < N → 0 ≤ g (d + 1) i ∧ g (d + 1) i ≤ 4) : ∀ (k q : Nat), (q : Int) + k = N → X (147, 4, [aR d, aI f, aI (sm (fun i => if g (d + 1) i = f then 1 else 0) q), aI q], [], g) = some (some (sm (fun i => if g (d + 1) i = f then 1 else 0) (q + k)), g)
  | 0, q, hk => by
    rw [e147_4 hd, h4, wr_id (x := N) (by omega) (by omega), wr_id (x := (q : Int)) (by omega) (by omega), cd_t (by omega)]; rfl
  | k + 1, q, hk => by
    have ih := s_fatesL hd hn h4 f0 hr k (q + 1) (by omega)
    have es : sm (fun i => if g (d + 1) i = f then 1 else 0) (q + 1) = sm (fun i => if g (d + 1) i = f then 1 else 0) q + (if g (d + 1) q = f then 1 else 0) := rfl
    rw [show q + 1 + k = q + (k + 1) by omega, es, show ((q + 1 : Nat) : Int) = (q : Int) + 1 by omega] at ih
    have r := hr q (by omega) (by omega)
    rw [e147_4 hd, h4, wr_id (x := N) (by omega) (by omega), wr_id (x := (q : Int)) (by omega) (by omega), cd_f (by omega), inb_t (by omega) (by omega) (by omega), cond_t, wr_id (x := g (d + 1) (q : Int)) (by omega) (by omega), wr_id (x := f) (by omega) (by omega)]
    by_cases c : g (d + 1) (q : Int) = f
    · rw [if_pos c] at ih
      rw [cd_f (by omega)]; exact ih
    · rw [if_neg c] at ih
      rw [cd_t c]; exact ih
theorem m_fatesL (hn : 0 ≤ N ∧ N ≤ 12) (h4 : h 81 24 = N) {f f' : Int} (ff : wr f' = f) (hr : ∀ i, 0 ≤ i → i < N → 0 ≤ h 84 i ∧ h 84 i ≤ 4) : ∀ (k q : Nat), (q : Int) + k = N → X (87, 4, [aR 80, aI f', aI (sm (fun i => if h 84 i = f then 1 else 0) q), aI q], [], h) = some (some (sm (fun i => if h 84 i = f then 1 else 0) (q + k)), h)
  | 0, q, hk => by
    rw [e87_4, h4, wr_id (x := N) (by omega) (by omega), wr_id (x := (q : Int)) (by omega) (by omega), cd_t (by omega)]; rfl
  | k + 1, q, hk => by
    have ih := m_fatesL hn h4 ff hr k (q + 1) (by omega)
    have es : sm (fun i => if h 84 i = f then 1 else 0) (q + 1) = sm (fun i => if h 84 i = f then 1 else 0) q + (if h 84 q = f then 1 else 0) := rfl
    rw [show q + 1 + k = q + (k + 1) by omega, es, show ((q + 1 : Nat) : Int) = (q : Int) + 1 by omega] at ih
    have r := hr q (by omega) (by omega)
    rw [e87_4, h4, wr_id (x := N) (by omega) (by omega), wr_id (x := (q : Int)) (by omega) (by omega), cd_f (by omega), inb_t (by omega) (by omega) (by omega), cond_t, wr_id (x := h 84 (q : Int)) (by omega) (by omega), ff]
    by_cases c : h 84 (q : Int) = f
    · rw [if_pos c] at ih
      rw [cd_f (by omega)]; exact ih
    · rw [if_neg c] at ih
      rw [cd_t c]; exact ih
def mx (f : Int → Int) : Nat → Int
  | 0 => 0
  | k + 1 => if mx f k < f k then f k else mx f k
theorem mx_r {f : Int → Int} {B : Int} (hB : 0 ≤ B) : ∀ (k : Nat), (∀ p : Int, 0 ≤ p → p < k → 0 ≤ f p ∧ f p ≤ B) → 0 ≤ mx f k ∧ mx f k ≤ B
  | 0, _ => ⟨Int.le_refl 0, hB⟩
  | k + 1, h => by
    have a := mx_r hB k (fun p a b => h p a (by omega))
    have b := h k (by omega) (by omega)
    show 0 ≤ (if mx f k < f k then f k else mx f k) ∧ (if mx f k < f k then f k else mx f k) ≤ B
    split <;> omega
theorem mx_c {f g : Int → Int} : ∀ (k : Nat), (∀ p : Int, 0 ≤ p → p < k → g p = f p) → mx g k = mx f k
  | 0, _ => rfl
  | k + 1, h => by
    show (if mx g k < g k then g k else mx g k) = if mx f k < f k then f k else mx f k
    rw [mx_c k (fun p a b => h p a (by omega)), h k (by omega) (by omega)]
theorem s_mostL (hd : d = 1 ∨ d = 27) (hn : 0 ≤ N ∧ N ≤ 12) (h4 : g (d + 18) 4 = N) (hr : ∀ i : Int, 0 ≤ i → i < N → 0 ≤ g (d + 2) i ∧ g (d + 2) i ≤ 240) : ∀ (k q : Nat), (q : Int) + k = N → X (146, 4, [aR d, aI (mx (fun i => g (d + 2) i) q), aI q], [], g) = some (some (mx (fun i => g (d + 2) i) (q + k)), g)
  | 0, q, hk => by
    rw [e146_4 hd, h4, wr_id (x := N) (by omega) (by omega), wr_id (x := (q : Int)) (by omega) (by omega), cd_t (by omega)]; rfl
  | k + 1, q, hk => by
    have ih := s_mostL hd hn h4 hr k (q + 1) (by omega)
    have r := hr q (by omega) (by omega)
    have r2 := mx_r (f := fun i => g (d + 2) i) (B := 240) (by omega) q (fun p a b => hr p a (by omega))
    have ej : jmax (mx (fun i => g (d + 2) i) q) (g (d + 2) q) = mx (fun i => g (d + 2) i) (q + 1) := by
      unfold jmax
      rw [wr_id (x := mx (fun i => g (d + 2) i) q) (by omega) (by omega), wr_id (x := g (d + 2) q) (by omega) (by omega)]
      rfl
    rw [show q + 1 + k = q + (k + 1) by omega, ← ej] at ih
    rw [e146_4 hd, h4, wr_id (x := N) (by omega) (by omega), wr_id (x := (q : Int)) (by omega) (by omega), cd_f (by omega), inb_t (by omega) (by omega) (by omega), cond_t]
    exact ih
theorem m_mostL (hn : 0 ≤ N ∧ N ≤ 12) (h4 : h 81 24 = N) (hr : ∀ i : Int, 0 ≤ i → i < N → 0 ≤ h 85 i ∧ h 85 i ≤ 240) : ∀ (k q : Nat), (q : Int) + k = N → X (85, 4, [aR 80, aI (mx (fun i => h 85 i) q), aI q], [], h) = some (some (mx (fun i => h 85 i) (q + k)), h)
  | 0, q, hk => by
    rw [e85_4, h4, wr_id (x := N) (by omega) (by omega), wr_id (x := (q : Int)) (by omega) (by omega), cd_t (by omega)]; rfl
  | k + 1, q, hk => by
    have ih := m_mostL hn h4 hr k (q + 1) (by omega)
    have r := hr q (by omega) (by omega)
    have r2 := mx_r (f := fun i => h 85 i) (B := 240) (by omega) q (fun p a b => hr p a (by omega))
    have es : mx (fun i => h 85 i) (q + 1) = if mx (fun i => h 85 i) q < h 85 q then h 85 q else mx (fun i => h 85 i) q := rfl
    rw [show q + 1 + k = q + (k + 1) by omega, es, show ((q + 1 : Nat) : Int) = (q : Int) + 1 by omega] at ih
    rw [e85_4, h4, wr_id (x := N) (by omega) (by omega), wr_id (x := (q : Int)) (by omega) (by omega), cd_f (by omega), inb_t (by omega) (by omega) (by omega), cond_t, cond_t, wr_id (x := h 85 (q : Int)) (by omega) (by omega), wr_id (x := mx (fun i => h 85 i) q) (by omega) (by omega)]
    by_cases c : mx (fun i => h 85 i) q < h 85 q
    · rw [if_pos c] at ih
      rw [cd_f (by omega)]; exact ih
    · rw [if_neg c] at ih
      rw [cd_t (by omega)]; exact ih
theorem s_coinL (hd : d = 1 ∨ d = 27) (hn : 0 ≤ N ∧ N ≤ 12) (h4 : g (d + 18) 4 = N) (hr : ∀ i : Int, 0 ≤ i → i < N → (0 ≤ g (d + 1) i ∧ g (d + 1) i ≤ 4) ∧ (0 ≤ g (d + 21) i ∧ g (d + 21) i < 4)) : ∀ (k q : Nat), (q : Int) + k = N → X (144, 4, [aR d, aI (sm (fun i => if g (d + 1) i = 3 then g (d + 14) (g (d + 21) i) * g (d + 6) i else 0) q), aI q], [], g) = some (some (sm (fun i => if g (d + 1) i = 3 then g (d + 14) (g (d + 21) i) * g (d + 6) i else 0) (q + k)), g)
  | 0, q, hk => by
    rw [e144_4 hd, h4, wr_id (x := N) (by omega) (by omega), wr_id (x := (q : Int)) (by omega) (by omega), cd_t (by omega)]; rfl
  | k + 1, q, hk => by
    have ih := s_coinL hd hn h4 hr k (q + 1) (by omega)
    have es : sm (fun i => if g (d + 1) i = 3 then g (d + 14) (g (d + 21) i) * g (d + 6) i else 0) (q + 1) = sm (fun i => if g (d + 1) i = 3 then g (d + 14) (g (d + 21) i) * g (d + 6) i else 0) q + (if g (d + 1) q = 3 then g (d + 14) (g (d + 21) q) * g (d + 6) q else 0) := rfl
    rw [show q + 1 + k = q + (k + 1) by omega, es, show ((q + 1 : Nat) : Int) = (q : Int) + 1 by omega] at ih
    have r := hr q (by omega) (by omega)
    rw [e144_4 hd, h4, wr_id (x := N) (by omega) (by omega), wr_id (x := (q : Int)) (by omega) (by omega), cd_f (by omega), inb_t (by omega) (by omega) (by omega), cond_t, cond_t, cond_t, wr_id (x := g (d + 1) (q : Int)) (by omega) (by omega), inb_t (by omega) (by omega) (by omega), cond_t, wr_id (x := g (d + 21) (q : Int)) (by omega) (by omega)]
    by_cases c : g (d + 1) (q : Int) = 3
    · rw [if_pos c] at ih
      rw [cd_f (by omega)]; exact ih
    · rw [if_neg c, Int.add_zero] at ih
      rw [cd_t c]; exact ih
theorem m_coinL (H : ZD (h 81)) (hr : ∀ i : Int, 0 ≤ i → i < h 81 24 → 0 ≤ h 84 i ∧ h 84 i ≤ 4) : ∀ (k q : Nat), (q : Int) + k = h 81 24 → X (86, 4, [aR 80, aI (sm (fun i => if h 84 i = 3 then h 81 (20 + zso (h 81) i) * zSz (h 81) i else 0) q), aI q], [], h) = some (some (sm (fun i => if h 84 i = 3 then h 81 (20 + zso (h 81) i) * zSz (h 81) i else 0) (q + k)), h)
  | 0, q, hk => by
    have hn := zd_n H
    rw [e86_4, wr_id (x := h 81 24) (by omega) (by omega), wr_id (x := (q : Int)) (by omega) (by omega), cd_t (by omega)]; rfl
  | k + 1, q, hk => by
    have hn := zd_n H
    have ih := m_coinL H hr k (q + 1) (by omega)
    have es : sm (fun i => if h 84 i = 3 then h 81 (20 + zso (h 81) i) * zSz (h 81) i else 0) (q + 1) = sm (fun i => if h 84 i = 3 then h 81 (20 + zso (h 81) i) * zSz (h 81) i else 0) q + (if h 84 q = 3 then h 81 (20 + zso (h 81) q) * zSz (h 81) q else 0) := rfl
    rw [show q + 1 + k = q + (k + 1) by omega, es, show ((q + 1 : Nat) : Int) = (q : Int) + 1 by omega] at ih
    have r := hr q (by omega) (by omega)
    have rs := (zd_row H (p := q) (by omega) (by omega)).2.2.1
    unfold zso at rs
    rw [e86_4, wr_id (x := h 81 24) (by omega) (by omega), wr_id (x := (q : Int)) (by omega) (by omega), cd_f (by omega), inb_t (by omega) (by omega) (by omega), cond_t, wr_id (x := h 84 (q : Int)) (by omega) (by omega)]
    by_cases c : h 84 (q : Int) = 3
    · rw [if_pos c] at ih
      rw [cd_f (by omega), m_of (by omega) (by omega) (by decide) (by decide), bI_some, show 67 + 4 * (q : Int) + 2 = 69 + 4 * (q : Int) by omega, inb_t (by omega) (by omega) (by omega), cond_t, m_sizeOf H (p := q) (by omega) (by omega), bI_some, wr_id (x := 20 + h 81 (69 + 4 * (q : Int))) (by omega) (by omega)]
      exact ih
    · rw [if_neg c] at ih
      rw [cd_t c]; exact ih
end SU
