/-! people -/
def vrel (vc um : Int) : Prop := (0 ≤ um ∧ um ≤ 9999) ∧ vc = if um ≤ 999 then um else 1000
theorem jmin_k {t : Int} (t0 : 0 ≤ t) (t1 : t ≤ 20000) : jmin t 1000 = if 1000 < t then 1000 else t := by
  unfold jmin
  rw [show wr 1000 = 1000 by decide, wr_id (x := t) (by omega) (by omega)]
theorem jmax_k {x : Int} (t0 : 0 ≤ x) (t1 : x ≤ 20000) : jmax x 0 = x := by
  unfold jmax
  rw [wr_0, wr_id (x := x) (by omega) (by omega), if_neg (by omega)]
theorem vrel_s {vc um d : Int} (hd : 48 ≤ d ∧ d ≤ 57) (H : (vc = -1 ∧ um = 0) ∨ vrel vc um) : vrel (jmin (jmax vc 0 * 10 + d - 48) 1000) (if um ≤ 999 then 10 * um + d - 48 else um) := by
  rcases H with ⟨a, b⟩ | ⟨a, b⟩
  · subst a b
    rw [show jmax (-1) 0 = 0 by decide, jmin_k (by omega) (by omega), if_pos (show (0 : Int) ≤ 999 by decide)]
    unfold vrel
    refine ⟨by omega, ?_⟩
    rw [if_neg (by omega), if_pos (by omega)]
    omega
  · by_cases c : um ≤ 999
    · rw [if_pos c] at b
      subst b
      rw [jmax_k (by omega) (by omega), jmin_k (by omega) (by omega), if_pos c]
      unfold vrel
      refine ⟨by omega, ?_⟩
      by_cases e : 1000 < vc * 10 + d - 48
      · rw [if_pos e, if_neg (by omega)]
      · rw [if_neg e]
        by_cases e2 : 10 * vc + d - 48 ≤ 999
        · rw [if_pos e2]; omega
        · rw [if_neg e2]; omega
    · rw [if_neg c] at b
      subst b
      rw [jmax_k (by omega) (by omega), jmin_k (by omega) (by omega), if_neg c]
      unfold vrel
      exact ⟨a, by rw [if_pos (by omega), if_neg c]⟩
theorem num_both {f : Int → Int} {l : Int} (hT : FT l f) : ∀ (k : Nat) (p vc um : Int) (h : Hp), l - p ≤ k → 0 ≤ p → p ≤ l → CT h l f p → ((vc = -1 ∧ um = 0) ∨ vrel vc um) →
    ∃ h' e vc' um', X (182, 2, [aR 70, aI vc], [], h) = some (some vc', h') ∧ CT h' l f e ∧ (∀ q, q ≠ 70 → h' q = h q) ∧ (∀ j, j ≠ 2 → h' 70 j = h 70 j) ∧ (p ≤ e ∧ e ≤ l) ∧ (e = p → vc' = vc ∧ um' = um) ∧ ((p < e ∨ vrel vc um) → vrel vc' um') ∧ (0 ≤ um' ∧ um' ≤ 9999) ∧
      ∀ g lo hi at', Rg lo → Rg hi → (0 ≤ at' ∧ at' ≤ 80) → MT g l f p → ∃ g1, MT g1 l f e ∧ (∀ q, q ≠ 80 → g1 q = g q) ∧ (∀ j, j ≠ 3 → g1 80 j = g 80 j) ∧ X (58, 13, [aR 80, aI lo, aI hi, aI at', aI um], [], g) = cond (decide (e ≠ at')) (cond (decide (lo ≤ um' ∧ um' ≤ hi)) (some (some um', g1)) (some (some (-1), up g1 80 3 at'))) (some (some (-1), g1))
  | k, p, vc, um, h, hk, p0, p1, C, V => by
    have hl := hT.1
    have vr : 0 ≤ um ∧ um ≤ 9999 := by
      rcases V with ⟨_, b⟩ | ⟨b, _⟩
      · omega
      · exact b
    have fin : ∀ (g : Hp) (lo hi at' : Int), Rg lo → Rg hi → (0 ≤ at' ∧ at' ≤ 80) → MT g l f p → cond (decide (wr (g 80 3) ≠ wr at')) (bI (X (41, 0, [aL (wr um), aN, aL (wr lo), aN, aL (wr hi), aN], [], g)) (fun r1 h1 => cond (decide (wr r1 ≠ 0)) (some (some um, h1)) (some (some (-1), (up h1 80 3 at'))))) (some (some (-1), g)) = cond (decide (p ≠ at')) (cond (decide (lo ≤ um ∧ um ≤ hi)) (some (some um, g)) (some (some (-1), up g 80 3 at'))) (some (some (-1), g)) := fun g lo hi at' rl rh ra M => by
      rw [M.2.1, wr_id (x := p) (by omega) (by omega), wr_id (x := at') (by omega) (by omega), wr_id (x := lo) rl.1 rl.2, wr_id (x := hi) rh.1 rh.2, s_inw g rl rh, bI_some, d_bi1, wr_id (x := um) (by omega) (by omega)]
      rfl
    by_cases stop : l ≤ p ∨ ¬ (48 ≤ f p ∧ f p ≤ 57)
    · refine ⟨h, p, vc, um, ?_, C, fun _ _ => rfl, fun _ _ => rfl, by omega, fun _ => ⟨rfl, rfl⟩, fun z => ?_, vr, fun g lo hi at' rl rh ra M => ⟨g, M, fun _ _ => rfl, fun _ _ => rfl, ?_⟩⟩
      · rw [e182_2, C.1, C.2.1, wr_id (x := l) (by omega) (by omega), wr_id (x := p) (by omega) (by omega)]
        by_cases c : l ≤ p
        · rw [cd_t c]
        · have b := hT.2 p p0 (by omega)
          rw [cd_f c, inb_t p0 (by omega) (by omega), C.2.2 p p0 (by omega), wr_id (x := f p) (by omega) (by omega)]
          simp only [cond_t]
          by_cases d : f p < 48
          · rw [cd_t d]
          · rw [cd_f d, cd_t (by omega)]
      · rcases z with z | z
        · omega
        · exact z
      · rw [e58_13, show wr (g 80 2) = l by rw [M.1]; exact wr_id (by omega) (by omega)]
        rw [show decide (l ≤ wr (g 80 3)) = decide (l ≤ p) by rw [M.2.1, wr_id (x := p) (by omega) (by omega)], fin g lo hi at' rl rh ra M]
        by_cases c : l ≤ p
        · rw [cd_t c]
        · have b := hT.2 p p0 (by omega)
          rw [cd_f c, show inb 80 (g 80 3) = true by rw [M.2.1]; exact inb_t p0 (by omega) (by omega), cond_t, show g 82 (wr (g 80 3)) = f p by rw [M.2.1, wr_id (x := p) (by omega) (by omega), M.2.2 p p0 (by omega)], s_inw g (by omega) (by omega), bI_some, d_bi0, wr_id (x := f p) (by omega) (by omega), show iin (f p) 48 57 = false from decide_eq_false (by omega), Bool.not_false, cond_t, fin g lo hi at' rl rh ra M]
    · have c : ¬ l ≤ p := fun z => stop (Or.inl z)
      have d : 48 ≤ f p ∧ f p ≤ 57 := Classical.byContradiction fun z => stop (Or.inr z)
      have V2 := vrel_s d V
      cases k with
      | zero => omega
      | succ k =>
        obtain ⟨h', e, vc', um', a1, a2, a3, a4, a5, a6, a7, a8, a9⟩ := num_both hT k (p + 1) (jmin (jmax vc 0 * 10 + f p - 48) 1000) (if um ≤ 999 then 10 * um + f p - 48 else um) (up h 70 2 (p + 1)) (by omega) (by omega) (by omega) (CT_up C _) (Or.inr V2)
        refine ⟨h', e, vc', um', ?_, a2, fun q hq => by rw [a3 q hq, up_n _ _ _ hq], fun j hj => by rw [a4 j hj, up_o _ _ _ hj], by omega, fun z => by omega, fun _ => a7 (Or.inr V2), a8, fun g lo hi at' rl rh ra M => ?_⟩
        · rw [e182_2, C.1, C.2.1, wr_id (x := l) (by omega) (by omega), wr_id (x := p) (by omega) (by omega), cd_f c, inb_t p0 (by omega) (by omega), C.2.2 p p0 (by omega), wr_id (x := f p) (by omega) (by omega)]
          simp only [cond_t]
          rw [cd_f (by omega), cd_f (by omega), a1]
        · obtain ⟨g1, m1, m2, m3, m4⟩ := a9 (up g 80 3 (p + 1)) lo hi at' rl rh ra (MT_up M _)
          refine ⟨g1, m1, fun q hq => by rw [m2 q hq, up_n _ _ _ hq], fun j hj => by rw [m3 j hj, up_o _ _ _ hj], ?_⟩
          rw [e58_13, M.1, M.2.1, wr_id (x := l) (by omega) (by omega), wr_id (x := p) (by omega) (by omega), cd_f c, inb_t p0 (by omega) (by omega), cond_t, M.2.2 p p0 (by omega), s_inw g (by omega) (by omega), bI_some, d_bi0, wr_id (x := f p) (by omega) (by omega), show iin (f p) 48 57 = true from decide_eq_true d, Bool.not_true, cond_f, M.2.1, wr_id (x := p) (by omega) (by omega), inb_t p0 (by omega) (by omega), cond_t, M.2.2 p p0 (by omega), wr_id (x := um) (by omega) (by omega)]
          by_cases c9 : um ≤ 999
          · rw [if_pos c9] at m4
            rw [cd_t c9]; exact m4
          · rw [if_neg c9] at m4
            rw [cd_f c9]; exact m4
/-- a number, blanks ahead -/
theorem num_tok {f : Int → Int} {l s : Int} (hT : FT l f) {h : Hp} (C : CT h l f s) (s0 : 0 ≤ s) (s1 : s ≤ l) : ∃ (h1 h2 : Hp) (p e vc um c : Int), X (183, 0, [aR 70], [], h) = some (some c, h1) ∧ h1 70 2 = p ∧ X (182, 0, [aR 70, aN], [], h1) = some (some vc, h2) ∧ CT h2 l f e ∧ (∀ q, q ≠ 70 → h2 q = h q) ∧ (∀ j, j ≠ 2 → h2 70 j = h 70 j) ∧ (s ≤ p ∧ p ≤ e ∧ e ≤ l) ∧ ((e = p ∧ vc = -1) ∨ (p < e ∧ vrel vc um)) ∧
    ∀ g lo hi, Rg lo → Rg hi → MT g l f s → ∃ g', X (58, 0, [aR 80, aI lo, aI hi, aN, aN], [], g) = some (some (if e ≠ p ∧ lo ≤ um ∧ um ≤ hi then um else -1), g') ∧ MT g' l f (if e ≠ p ∧ lo ≤ um ∧ um ≤ hi then e else p) ∧ (∀ q, q ≠ 80 → g' q = g q) ∧ (∀ j, j ≠ 3 → g' 80 j = g 80 j) := by
  have hl := hT.1
  obtain ⟨h1, a1, a2, a3, a4⟩ := s_peek hT C s0 s1
  have r := nx_r (f := f) s1
  have mp := fun (g : Hp) (M : MT g l f s) => m_peek hT M s0 s1
  generalize nx f l s = p at a1 a2 r mp
  obtain ⟨h2, e, vc, um, b1, b2, b3, b4, b5, b6, b7, b8, b9⟩ := num_both hT 80 p (-1) 0 h1 (by omega) (by omega) (by omega) a2 (Or.inl ⟨rfl, rfl⟩)
  refine ⟨h1, h2, p, e, vc, um, _, a1, a2.2.1, (e182_0 h1).trans b1, b2, fun q hq => by rw [b3 q hq, a3 q hq], fun j hj => by rw [b4 j hj, a4 j hj], by omega, ?_, fun g lo hi rl rh M => ?_⟩
  · by_cases c : e = p
    · exact Or.inl ⟨c, (b6 c).1⟩
    · exact Or.inr ⟨by omega, b7 (Or.inl (by omega))⟩
  · obtain ⟨g0, m1, m2, m3, m4⟩ := mp g M
    obtain ⟨g1, n1, n2, n3, n4⟩ := b9 g0 lo hi p rl rh (by omega) m2
    have e0 : X (58, 0, [aR 80, aI lo, aI hi, aN, aN], [], g) = X (58, 13, [aR 80, aI lo, aI hi, aI p, aI 0], [], g0) := by
      rw [e58_0, m1, bI_some, m2.2.1]
    rw [e0, n4]
    by_cases c : e ≠ p
    · rw [cd_t c]
      by_cases d : lo ≤ um ∧ um ≤ hi
      · rw [cd_t d, if_pos ⟨c, d⟩, if_pos ⟨c, d⟩]
        exact ⟨g1, rfl, n1, fun q hq => by rw [n2 q hq, m3 q hq], fun j hj => by rw [n3 j hj, m4 j hj]⟩
      · rw [cd_f d, if_neg (fun z => d z.2), if_neg (fun z => d z.2)]
        exact ⟨_, rfl, MT_up n1 _, fun q hq => by rw [up_n _ _ _ hq, n2 q hq, m3 q hq], fun j hj => by rw [up_o _ _ _ hj, n3 j hj, m4 j hj]⟩
    · rw [cd_f c, if_neg (fun z => c z.1), if_neg (fun z => c z.1)]
      have ep : e = p := by omega
      exact ⟨g1, rfl, by rw [← ep]; exact n1, fun q hq => by rw [n2 q hq, m3 q hq], fun j hj => by rw [n3 j hj, m4 j hj]⟩
theorem m_takes {f : Int → Int} {l s a : Int} (hT : FT l f) {g : Hp} (C : MT g l f s) (s0 : 0 ≤ s) (s1 : s ≤ l) (ha : 0 ≤ a ∧ a ≤ 126) : ∃ g', X (57, 0, [aR 80, aI a, aN], [], g) = some (some (if bta f l (nx f l s) = a then 1 else 0), g') ∧ MT g' l f (if bta f l (nx f l s) = a then nx f l s + 1 else nx f l s) ∧ (∀ q, q ≠ 80 → g' q = g q) ∧ (∀ j, j ≠ 3 → g' 80 j = g 80 j) := by
  obtain ⟨g1, p1, p2, p3, p4⟩ := m_peek hT C s0 s1
  have r := nx_r (f := f) s1
  have b := bta_r hT (p := nx f l s) (by omega)
  generalize nx f l s = p at p1 p2 b
  generalize bta f l p = c at p1 b
  rw [e57_0, p1, bI_some, wr_id (x := c) (by omega) (by omega), wr_id (x := a) (by omega) (by omega), p2.2.1]
  by_cases e : c = a
  · rw [cd_f (by omega), if_pos e, if_pos e]
    exact ⟨_, rfl, MT_up p2 _, fun q hq => by rw [up_n _ _ _ hq, p3 q hq], fun j hj => by rw [up_o _ _ _ hj, p4 j hj]⟩
  · rw [cd_t e, if_neg e, if_neg e]
    refine ⟨_, rfl, ?_, fun q hq => by rw [up_n _ _ _ hq, p3 q hq], fun j hj => by rw [up_o _ _ _ hj, p4 j hj]⟩
    have := MT_up p2 (p + 0)
    rw [Int.add_zero] at this ⊢
    exact this
def rwv (m k s n : Int) (i : Int) : Int := if i = 1 then m else if i = 2 then k else if i = 3 then s else n
/-- the trial room's people so far -/
def GB (Q : Int → Int → Int) (v : Int) (h : Hp) : Prop := h 45 4 = v ∧ ∀ j, 0 ≤ j → j < v → ∀ k : Nat, 1 ≤ k → k ≤ 4 → h (45 + k) j = Q j k
def Qn (Q : Int → Int → Int) (v m k s n : Int) : Int → Int → Int := fun j i => if j = v then rwv m k s n i else Q j i
theorem GB_add {Q : Int → Int → Int} {v m k s n : Int} {h : Hp} (v0 : 0 ≤ v) (v8 : v < 12) (B : GB Q v h) : ∃ h', X (155, 0, [aR 45, aI m, aI k, aI s, aI n], [], h) = some (none, h') ∧ (∀ q, (q < 45 ∨ 49 < q) → h' q = h q) ∧ GB (Qn Q v m k s n) (v + 1) h' := by
  obtain ⟨b1, b2⟩ := B
  refine ⟨uC 45 h m k s n, s_add (by decide) (by omega) (by omega), fun q hq => uC_o _ _ _ _ _ _ hq, by rw [uC_n, b1], fun j j0 j1 i i1 i4 => ?_⟩
  show uC 45 h m k s n (45 + i) j = if j = v then rwv m k s n i else Q j i
  by_cases e : j = v
  · subst e
    rw [if_pos rfl]
    have c4 := uC_4 45 h m k s n
    rw [b1] at c4
    have : i = 1 ∨ i = 2 ∨ i = 3 ∨ i = 4 := by omega
    rcases this with rfl | rfl | rfl | rfl
    · exact c4.1
    · exact c4.2.1
    · exact c4.2.2.1
    · exact c4.2.2.2
  · rw [if_neg e, uC_w 45 h m k s n (by rw [b1]; exact e) ⟨i1, i4⟩]
    exact b2 j j0 (by omega) i i1 i4
theorem person_both {L : Nat} {xs : Nat → Int32} {f : Int → Int} {l : Int} (hT : FT l f) {v s : Int} {Q : Int → Int → Int} {h : Hp} (hS : Sm L xs h) (v0 : 0 ≤ v) (v8 : v < 8) (s0 : 0 ≤ s) (s1 : s ≤ l) (C : CT h l f s) (B : GB Q v h) : ∃ h' r, X (181, 0, [aR 70, aR 45, aN, aN, aN, aN, aN], [], h) = some (some r, h') ∧ (∀ q, ¬ (q = 70 ∨ (45 ≤ q ∧ q ≤ 49)) → h' q = h q) ∧ (∀ j, j ≠ 2 → h' 70 j = h 70 j) ∧
    ((r ≤ -20 ∧ -200 ≤ r ∧ ∀ g, MT g l f s → ∃ g', X (65, 0, [aR 80, aI (4 * v), aN, aN], [], g) = some (some 0, g') ∧ FrR g g' ∧ r = -20 - g' 80 3) ∨
     (r = 0 ∧ ∃ e m k so n, (s ≤ e ∧ e ≤ l) ∧ CT h' l f e ∧ lg m k so n = true ∧ GB (Qn Q v m k so n) (v + 1) h' ∧ ∀ g, MT g l f s → ∃ g', X (65, 0, [aR 80, aI (4 * v), aN, aN], [], g) = some (some 1, g') ∧ FrR g g' ∧ MT g' l f e ∧ ∀ j, g' 83 j = if j = 4 * v then m else if j = 4 * v + 1 then k else if j = 4 * v + 2 then so else if j = 4 * v + 3 then n else g 83 j)) := by
  have hl := hT.1
  have i0 : inb 32 (4 * v) = true := inb_t (by omega) (by omega) (by omega)
  have i1 : inb 32 (4 * v + 1) = true := inb_t (by omega) (by omega) (by omega)
  have i2 : inb 32 (4 * v + 2) = true := inb_t (by omega) (by omega) (by omega)
  have i3 : inb 32 (4 * v + 3) = true := inb_t (by omega) (by omega) (by omega)
  have w0 : wr (4 * v) = 4 * v := wr_id (by omega) (by omega)
  have w1 : wr (4 * v + 1) = 4 * v + 1 := wr_id (by omega) (by omega)
  have w2 : wr (4 * v + 2) = 4 * v + 2 := wr_id (by omega) (by omega)
  have w3 : wr (4 * v + 3) = 4 * v + 3 := wr_id (by omega) (by omega)
  have ec := e181_0 (q1 := 45) (by decide) h
  obtain ⟨h1, h2, p1, e1, vc, um, cc, a1, a2, a3, a4, a5, a6, a7, a8, a9⟩ := num_tok hT C s0 s1
  have a9 := fun g M => a9 g 0 239 ⟨by omega, by omega⟩ ⟨by omega, by omega⟩ M
  rw [a1, bI_some, a3, bI_some, a2] at ec
  have vb : -1 ≤ vc ∧ vc ≤ 1000 := by
    rcases a8 with z | ⟨_, z1, z2⟩
    · omega
    · split at z2 <;> omega
  rw [wr_id (x := vc) (by omega) (by omega)] at ec
  have fr2 : ∀ q, ¬ (q = 70 ∨ (45 ≤ q ∧ q ≤ 49)) → h2 q = h q := fun q hq => a5 q (by omega)
  have em : ∀ g, _ := fun g => e65_0 (4 * v) g
  by_cases okm : 0 ≤ vc ∧ vc < 240
  · have okr : e1 ≠ p1 ∧ 0 ≤ um ∧ um ≤ 239 := by
      rcases a8 with z | ⟨z0, z1, z2⟩
      · omega
      · split at z2 <;> omega
    have evm : um = vc := by
      rcases a8 with z | ⟨z0, z1, z2⟩
      · omega
      · split at z2 <;> omega
    rw [cd_f (by omega), cd_t (by omega)] at ec
    -- the kind
    obtain ⟨h3, k1, k2, k3, k4⟩ := s_peek hT a4 (by omega) (by omega)
    have rr2 := nx_r (f := f) (s := e1) (l := l) (by omega)
    have b2 := bta_r hT (p := nx f l e1) (by omega)
    have lt2 := bta_lt (f := f) (l := l) (p := nx f l e1)
    have mk2 := fun (g : Hp) (M : MT g l f e1) => m_kind hT M (by omega) (by omega) (a := -4) (by omega)
    have kr2 := kd_r (bta f l (nx f l e1))
    have km2 : bta f l (nx f l e1) = -1 → kd (bta f l (nx f l e1)) = -1 := fun e => by rw [e]; rfl
    generalize nx f l e1 = p2 at k1 k2 rr2 b2 lt2 mk2 kr2 km2
    generalize bta f l p2 = c2 at k1 b2 lt2 mk2 kr2 km2
    rw [k1, bI_some, s_kind b2 h3, bI_some, wr_id (x := kd c2) (by omega) (by omega), k2.2.1] at ec
    have fr3 : ∀ q, ¬ (q = 70 ∨ (45 ≤ q ∧ q ≤ 49)) → h3 q = h q := fun q hq => by rw [k3 q (by omega), fr2 q hq]
    have fj3 : ∀ j, j ≠ 2 → h3 70 j = h 70 j := fun j hj => by rw [k4 j hj, a6 j hj]
    -- the reference so far
    have em1 : ∀ g, MT g l f s → ∃ g2, MT g2 l f (if kd c2 = -1 then p2 else p2 + 1) ∧ FrR g g2 ∧ (∀ j, g2 83 j = if j = 4 * v then um else g 83 j) ∧ X (65, 0, [aR 80, aI (4 * v), aN, aN], [], g) = cond (decide (0 ≤ kd c2)) (bI (X (56, 0, [aR 80], [], g2)) (fun r3 h3 => bI (X (41, 0, [aL (wr (r3 - 48)), aN, aL 0, aN, aL 3, aN], [], h3)) (fun r4 h4 => cond (decide ((wr r4) ≠ 0)) (cond (decide ((kd c2) = 0)) (cond (decide ((wr ((up (up (up (up h4 80 3 ((h4 80 3) + 1)) 83 (4 * v + 1) (kd c2)) 83 (4 * v + 2) (r3 - 48)) 83 (4 * v + 3) 0) 83 (4 * v + 3))) < 0)) (some (some 0, (up (up (up (up h4 80 3 ((h4 80 3) + 1)) 83 (4 * v + 1) (kd c2)) 83 (4 * v + 2) (r3 - 48)) 83 (4 * v + 3) 0))) (some (some 1, (up (up (up (up h4 80 3 ((h4 80 3) + 1)) 83 (4 * v + 1) (kd c2)) 83 (4 * v + 2) (r3 - 48)) 83 (4 * v + 3) 0)))) (bI (X (57, 0, [aR 80, aI 58, aN], [], (up (up (up (up h4 80 3 ((h4 80 3) + 1)) 83 (4 * v + 1) (kd c2)) 83 (4 * v + 2) (r3 - 48)) 83 (4 * v + 3) 0))) (fun r5 h5 => cond (decide ((wr r5) ≠ 0)) (bI (X (46, 0, [aI (kd c2)], [], h5)) (fun r6 h6 => (bI (X (47, 0, [aI (kd c2), aI (h6 83 (4 * v))], [], h6)) (fun r7 h7 => bI (X (58, 0, [aR 80, aI r6, aI r7, aN, aN], [], h7)) (fun r8 h8 => (cond (decide ((wr ((up h8 83 (4 * v + 3) r8) 83 (4 * v + 3))) < 0)) (some (some 0, (up h8 83 (4 * v + 3) r8))) (some (some 1, (up h8 83 (4 * v + 3) r8))))))))) (some (some 0, h5))))) (some (some 0, h4))))) (some (some 0, g2)) := fun g M => by
      obtain ⟨g1, x1, x2, x3, x4⟩ := a9 g M
      rw [if_pos okr] at x1 x2
      have M1 : MT (up g1 83 (4 * v) um) l f e1 := MT_c ⟨by rw [up_n _ _ _ (by decide)], by rw [up_n _ _ _ (by decide)]⟩ (up_n _ _ _ (by decide)) x2
      obtain ⟨g2, y1, y2, y3, y4⟩ := mk2 _ M1
      rw [if_neg (by omega)] at y1
      have y2' : MT g2 l f (if kd c2 = -1 then p2 else p2 + 1) := by
        by_cases c : kd c2 = -1
        · rw [if_pos (Or.inr c)] at y2; rw [if_pos c]; exact y2
        · rw [if_neg (by omega)] at y2; rw [if_neg c]; exact y2
      refine ⟨g2, y2', FrR_t (FrR_p x3 x4) (FrR_t (FrR_83 _ _ _) (FrR_p y3 y4)), fun j => ?_, ?_⟩
      · rw [y3 83 (by decide)]
        by_cases e : j = 4 * v
        · rw [e, up_s, if_pos rfl]
        · rw [up_o _ _ _ e, if_neg e, x3 83 (by decide)]
      · rw [em, x1, bI_some, i0, i1, i2, i3, w0, w1, w2, w3, up_s, wr_id (x := um) (by omega) (by omega), cd_t (show 0 ≤ um by omega), y1, bI_some, wr_id (x := kd c2) (by omega) (by omega)]
        simp only [cond_t]
    by_cases kk : kd c2 ≠ -1
    · rw [cd_t kk] at ec
      have p2l : p2 < l := lt2 (fun e => kk (km2 e))
      have C3 := CT_up k2 (p2 + 1)
      -- the sort
      obtain ⟨h4, u1, u2, u3, u4⟩ := s_peek hT C3 (by omega) (by omega)
      have rr3 := nx_r (f := f) (s := p2 + 1) (l := l) (by omega)
      have b3 := bta_r hT (p := nx f l (p2 + 1)) (by omega)
      have lt3 := bta_lt (f := f) (l := l) (p := nx f l (p2 + 1))
      have mp3 := fun (g : Hp) (M : MT g l f (p2 + 1)) => m_peek hT M (by omega) (by omega)
      generalize nx f l (p2 + 1) = p3 at u1 u2 rr3 b3 lt3 mp3
      generalize bta f l p3 = c3 at u1 b3 lt3 mp3
      rw [u1, bI_some, s_below (c3 - 48) 4 (by omega), bI_some, d_bi1, wr_id (x := c3 - 48) (by omega) (by omega), u2.2.1] at ec
      have fr4 : ∀ q, ¬ (q = 70 ∨ (45 ≤ q ∧ q ≤ 49)) → h4 q = h q := fun q hq => by rw [u3 q (by omega), up_n _ _ _ (by omega), fr3 q hq]
      have fj4 : ∀ j, j ≠ 2 → h4 70 j = h 70 j := fun j hj => by rw [u4 j hj, up_o _ _ _ hj, fj3 j hj]
      have gb4 : GB Q v h4 := by
        unfold GB at B ⊢
        rw [u3 45 (by decide), up_n _ _ _ (by decide), k3 45 (by decide), a5 45 (by decide)]
        refine ⟨B.1, fun j j0 j1 i i1' i4 => ?_⟩
        rw [u3 _ (by omega), up_n _ _ _ (by omega), k3 _ (by omega), a5 _ (by omega)]
        exact B.2 j j0 j1 i i1' i4
      by_cases so : 0 ≤ c3 - 48 ∧ c3 - 48 < 4
      · rw [decide_eq_true so, cond_t] at ec
        have p3l : p3 < l := lt3 (by omega)
        have C4 := CT_up u2 (p3 + 1)
        have em2 : ∀ g, MT g l f s → ∃ g3 : Hp, MT g3 l f (p3 + 1) ∧ FrR g g3 ∧ (∀ j, g3 83 j = if j = 4 * v + 3 then 0 else if j = 4 * v + 2 then c3 - 48 else if j = 4 * v + 1 then kd c2 else if j = 4 * v then um else g 83 j) ∧ X (65, 0, [aR 80, aI (4 * v), aN, aN], [], g) = cond (decide ((kd c2) = 0)) (some (some 1, g3)) (bI (X (57, 0, [aR 80, aI 58, aN], [], g3)) (fun r5 h5 => cond (decide ((wr r5) ≠ 0)) (bI (X (46, 0, [aI (kd c2)], [], h5)) (fun r6 h6 => (bI (X (47, 0, [aI (kd c2), aI (h6 83 (4 * v))], [], h6)) (fun r7 h7 => bI (X (58, 0, [aR 80, aI r6, aI r7, aN, aN], [], h7)) (fun r8 h8 => (cond (decide ((wr ((up h8 83 (4 * v + 3) r8) 83 (4 * v + 3))) < 0)) (some (some 0, (up h8 83 (4 * v + 3) r8))) (some (some 1, (up h8 83 (4 * v + 3) r8))))))))) (some (some 0, h5)))) := fun g M => by
          obtain ⟨g2, x1, x2, x3, x4⟩ := em1 g M
          rw [if_neg kk] at x1
          obtain ⟨g3, y1, y2, y3, y4⟩ := mp3 _ x1
          rw [cd_t (by omega), y1, bI_some, s_inw g3 (by omega) (by omega), bI_some, d_bi1, wr_id (x := c3 - 48) (by omega) (by omega), show iin (c3 - 48) 0 3 = true from decide_eq_true (by omega), cond_t, y2.2.1, up_s, wr_0, cd_f (show ¬ ((0 : Int) < 0) by decide)] at x4
          refine ⟨_, ?_, FrR_t x2 (FrR_t (FrR_p y3 y4) (FrR_t (FrR_80 _ (p3 + 1) (Or.inl rfl)) (FrR_t (FrR_83 _ (4 * v + 1) (kd c2)) (FrR_t (FrR_83 _ (4 * v + 2) (c3 - 48)) (FrR_83 _ (4 * v + 3) 0))))), fun j => ?_, x4⟩
          · exact MT_c ⟨by rw [up_n _ _ _ (by decide), up_n _ _ _ (by decide), up_n _ _ _ (by decide)], by rw [up_n _ _ _ (by decide), up_n _ _ _ (by decide), up_n _ _ _ (by decide)]⟩ (by rw [up_n _ _ _ (by decide), up_n _ _ _ (by decide), up_n _ _ _ (by decide)]) (MT_up y2 (p3 + 1))
          · by_cases e3 : j = 4 * v + 3
            · rw [e3, up_s, if_pos rfl]
            · rw [up_o _ _ _ e3, if_neg e3]
              by_cases e2 : j = 4 * v + 2
              · rw [e2, up_s, if_pos rfl]
              · rw [up_o _ _ _ e2, if_neg e2]
                by_cases e1' : j = 4 * v + 1
                · rw [e1', up_s, if_pos rfl]
                · rw [up_o _ _ _ e1', if_neg e1', up_n _ _ _ (by decide), y3 83 (by decide), x3]
        have gb5 : ∀ x : Int, GB Q v (up h4 70 2 x) := fun x => by
          unfold GB at gb4 ⊢
          rw [up_n _ _ _ (by decide)]
          refine ⟨gb4.1, fun j j0 j1 i i1' i4 => ?_⟩
          rw [up_n _ _ _ (by omega)]
          exact gb4.2 j j0 j1 i i1' i4
        by_cases pl : kd c2 = 0
        · rw [cd_t pl] at ec
          obtain ⟨h5, t1, t2, t3⟩ := GB_add (m := vc) (k := kd c2) (s := c3 - 48) (n := 0) v0 (by omega) (gb5 (p3 + 1))
          rw [t1, bV_some] at ec
          refine ⟨h5, 0, ec, fun q hq => by rw [t2 q (by omega), up_n _ _ _ (by omega), fr4 q hq], fun j hj => by rw [t2 70 (by decide), up_o _ _ _ hj, fj4 j hj], Or.inr ⟨rfl, p3 + 1, vc, kd c2, c3 - 48, 0, by omega, CT_c ⟨t2 70 (by decide), t2 71 (by decide)⟩ C4, ?_, t3, fun g M => ?_⟩⟩
          · rw [pl]
            exact decide_eq_true ⟨okm, by decide, so, by decide, by show (0 : Int) ≤ 0; decide⟩
          · obtain ⟨g3, x1, x2, x3, x4⟩ := em2 g M
            rw [cd_t pl] at x4
            refine ⟨g3, x4, x2, x1, fun j => ?_⟩
            rw [x3 j, evm]
            by_cases z0 : j = 4 * v
            · rw [if_neg (by omega), if_neg (by omega), if_neg (by omega), if_pos z0, if_pos z0]
            · by_cases z1 : j = 4 * v + 1
              · rw [if_neg (by omega), if_neg (by omega), if_pos z1, if_neg z0, if_pos z1]
              · by_cases z2 : j = 4 * v + 2
                · rw [if_neg (by omega), if_pos z2, if_neg z0, if_neg z1, if_pos z2]
                · by_cases z3 : j = 4 * v + 3
                  · rw [if_pos z3, if_neg z0, if_neg z1, if_neg z2, if_pos z3]
                  · rw [if_neg z3, if_neg z2, if_neg z1, if_neg z0, if_neg z0, if_neg z1, if_neg z2, if_neg z3]
        · rw [cd_f pl] at ec
          -- the colon
          obtain ⟨h5, y1, y2, y3, y4⟩ := s_peek hT C4 (by omega) (by omega)
          have rr4 := nx_r (f := f) (s := p3 + 1) (l := l) (by omega)
          have b4 := bta_r hT (p := nx f l (p3 + 1)) (by omega)
          have lt4 := bta_lt (f := f) (l := l) (p := nx f l (p3 + 1))
          have mt4 := fun (g : Hp) (M : MT g l f (p3 + 1)) => m_takes hT M (by omega) (by omega) (a := 58) (by omega)
          generalize nx f l (p3 + 1) = p4 at y1 y2 rr4 b4 lt4 mt4
          generalize bta f l p4 = c4 at y1 b4 lt4 mt4
          rw [y1, bI_some, wr_id (x := c4) (by omega) (by omega), y2.2.1] at ec
          have fr5 : ∀ q, ¬ (q = 70 ∨ (45 ≤ q ∧ q ≤ 49)) → h5 q = h q := fun q hq => by rw [y3 q (by omega), up_n _ _ _ (by omega), fr4 q hq]
          have fj5 : ∀ j, j ≠ 2 → h5 70 j = h 70 j := fun j hj => by rw [y4 j hj, up_o _ _ _ hj, fj4 j hj]
          by_cases col : c4 = 58
          · rw [cd_t col] at ec
            have p4l : p4 < l := lt4 (by omega)
            have C5 := CT_up y2 (p4 + 1)
            obtain ⟨h6, h7, p5, e5, nc, nm, c5, n1, n2, n3, n4, n5, n6, n7, n8, n9⟩ := num_tok hT C5 (by omega) (by omega)
            rw [n1, bI_some, n3, bI_some, n2] at ec
            have nb : -1 ≤ nc ∧ nc ≤ 1000 := by
              rcases n8 with z | ⟨_, z1, z2⟩
              · omega
              · split at z2 <;> omega
            have fr7 : ∀ q, ¬ (q = 70 ∨ (45 ≤ q ∧ q ≤ 49)) → h7 q = h q := fun q hq => by rw [n5 q (by omega), up_n _ _ _ (by omega), fr5 q hq]
            have fj7 : ∀ j, j ≠ 2 → h7 70 j = h 70 j := fun j hj => by rw [n6 j hj, up_o _ _ _ hj, fj5 j hj]
            have S7 : Sm L xs h7 := fun q hq => by rw [fr7 q (by omega)]; exact hS q hq
            rw [s_areLegal S7, bI_some, d_bi1, wr_id (x := vc) (by omega) (by omega), wr_id (x := kd c2) (by omega) (by omega), wr_id (x := c3 - 48) (by omega) (by omega), wr_id (x := nc) (by omega) (by omega)] at ec
            have hlo := lo6_r (kd c2)
            have hhi : 0 ≤ hi6 (kd c2) vc ∧ hi6 (kd c2) vc ≤ 239 := by
              unfold hi6
              split
              · omega
              · split
                · omega
                · split
                  · omega
                  · split <;> omega
            have lgi : lg vc (kd c2) (c3 - 48) nc = true ↔ e5 ≠ p5 ∧ lo6 (kd c2) ≤ nm ∧ nm ≤ hi6 (kd c2) vc := by
              unfold lg
              rw [decide_eq_true_eq]
              rcases n8 with ⟨z1, z2⟩ | ⟨z0, z1, z2⟩
              · exact ⟨fun z => by omega, fun z => by omega⟩
              · split at z2
                · exact ⟨fun z => by omega, fun z => by omega⟩
                · exact ⟨fun z => by omega, fun z => by omega⟩
            have em3 : ∀ g, MT g l f s → ∃ g4 g5 : Hp, FrR g g4 ∧ (∀ j, g4 83 j = if j = 4 * v + 3 then 0 else if j = 4 * v + 2 then c3 - 48 else if j = 4 * v + 1 then kd c2 else if j = 4 * v then um else g 83 j) ∧ (∀ q, q ≠ 80 → g5 q = g4 q) ∧ (∀ j, j ≠ 3 → g5 80 j = g4 80 j) ∧ MT g5 l f (if e5 ≠ p5 ∧ lo6 (kd c2) ≤ nm ∧ nm ≤ hi6 (kd c2) vc then e5 else p5) ∧ X (65, 0, [aR 80, aI (4 * v), aN, aN], [], g) = cond (decide ((wr (if e5 ≠ p5 ∧ lo6 (kd c2) ≤ nm ∧ nm ≤ hi6 (kd c2) vc then nm else -1)) < 0)) (some (some 0, (up g5 83 (4 * v + 3) (if e5 ≠ p5 ∧ lo6 (kd c2) ≤ nm ∧ nm ≤ hi6 (kd c2) vc then nm else -1)))) (some (some 1, (up g5 83 (4 * v + 3) (if e5 ≠ p5 ∧ lo6 (kd c2) ≤ nm ∧ nm ≤ hi6 (kd c2) vc then nm else -1)))) := fun g M => by
              obtain ⟨g3, x1, x2, x3, x4⟩ := em2 g M
              obtain ⟨g4, q1, q2, q3, q4⟩ := mt4 _ x1
              rw [if_pos col] at q1 q2
              have r83 : g4 83 (4 * v) = vc := by rw [q3 83 (by decide), x3, if_neg (by omega), if_neg (by omega), if_neg (by omega), if_pos rfl, evm]
              obtain ⟨g5, o1, o2, o3, o4⟩ := n9 g4 (lo6 (kd c2)) (hi6 (kd c2) vc) ⟨by omega, by omega⟩ ⟨by omega, by omega⟩ q2
              rw [cd_f pl, q1, bI_some, cd_t (by decide), s_leastOf, bI_some, s_mostOf, bI_some, r83, wr_id (x := kd c2) (by omega) (by omega), o1, bI_some, up_s] at x4
              exact ⟨g4, g5, FrR_t x2 (FrR_p q3 q4), fun j => by rw [q3 83 (by decide), x3], o3, o4, o2, x4⟩
            by_cases ok : lg vc (kd c2) (c3 - 48) nc = true
            · have ok2 := lgi.mp ok
              have enm : nm = nc := by
                rcases n8 with z | ⟨z0, z1, z2⟩
                · omega
                · split at z2 <;> omega
              rw [ok, cond_t] at ec
              have gb7 : GB Q v h7 := by
                unfold GB at gb4 ⊢
                rw [n5 45 (by decide), up_n _ _ _ (by decide), y3 45 (by decide), up_n _ _ _ (by decide)]
                refine ⟨gb4.1, fun j j0 j1 i i1' i4 => ?_⟩
                rw [n5 _ (by omega), up_n _ _ _ (by omega), y3 _ (by omega), up_n _ _ _ (by omega)]
                exact gb4.2 j j0 j1 i i1' i4
              obtain ⟨h8, t1, t2, t3⟩ := GB_add (m := vc) (k := kd c2) (s := c3 - 48) (n := nc) v0 (by omega) gb7
              rw [t1, bV_some] at ec
              refine ⟨h8, 0, ec, fun q hq => by rw [t2 q (by omega), fr7 q hq], fun j hj => by rw [t2 70 (by decide), fj7 j hj], Or.inr ⟨rfl, e5, vc, kd c2, c3 - 48, nc, by omega, CT_c ⟨t2 70 (by decide), t2 71 (by decide)⟩ n4, ok, t3, fun g M => ?_⟩⟩
              obtain ⟨g4, g5, x1, x2, x3, x4, x5, x6⟩ := em3 g M
              rw [if_pos ok2] at x5
              rw [if_pos ok2, wr_id (x := nm) (by omega) (by omega), cd_f (by omega)] at x6
              refine ⟨_, x6, FrR_t x1 (FrR_t (FrR_p x3 x4) (FrR_83 _ _ _)), MT_c ⟨by rw [up_n _ _ _ (by decide)], by rw [up_n _ _ _ (by decide)]⟩ (up_n _ _ _ (by decide)) x5, fun j => ?_⟩
              by_cases z3 : j = 4 * v + 3
              · rw [z3, up_s, if_neg (by omega), if_neg (by omega), if_neg (by omega), if_pos rfl, enm]
              · rw [up_o _ _ _ z3, x3 83 (by decide), x2 j, if_neg z3, evm]
                by_cases z0 : j = 4 * v
                · rw [if_neg (by omega), if_neg (by omega), if_pos z0, if_pos z0]
                · by_cases z1 : j = 4 * v + 1
                  · rw [if_neg (by omega), if_pos z1, if_neg z0, if_pos z1]
                  · by_cases z2 : j = 4 * v + 2
                    · rw [if_pos z2, if_neg z0, if_neg z1, if_pos z2]
                    · rw [if_neg z2, if_neg z1, if_neg z0, if_neg z0, if_neg z1, if_neg z2, if_neg z3]
            · have no2 := (not_congr lgi).mp ok
              have ok' : lg vc (kd c2) (c3 - 48) nc = false := by
                cases q : lg vc (kd c2) (c3 - 48) nc
                · rfl
                · exact absurd q ok
              rw [ok', cond_f, e184_0, bI_some] at ec
              refine ⟨h7, -20 - p5, ec, fr7, fj7, Or.inl ⟨by omega, by omega, fun g M => ?_⟩⟩
              obtain ⟨g4, g5, x1, x2, x3, x4, x5, x6⟩ := em3 g M
              rw [if_neg no2] at x5
              rw [if_neg no2, cd_t (by decide)] at x6
              exact ⟨_, x6, FrR_t x1 (FrR_t (FrR_p x3 x4) (FrR_83 _ _ _)), by rw [up_n _ _ _ (by decide), x5.2.1]⟩
          · rw [cd_f col, e184_0, bI_some] at ec
            refine ⟨h5, -20 - p4, ec, fr5, fj5, Or.inl ⟨by omega, by omega, fun g M => ?_⟩⟩
            obtain ⟨g3, x1, x2, x3, x4⟩ := em2 g M
            obtain ⟨g4, q1, q2, q3, q4⟩ := mt4 _ x1
            rw [if_neg col] at q1 q2
            rw [cd_f pl, q1, bI_some, cd_f (by decide)] at x4
            exact ⟨g4, x4, FrR_t x2 (FrR_p q3 q4), by rw [q2.2.1]⟩
      · rw [decide_eq_false so, cond_f, e184_0, bI_some] at ec
        refine ⟨h4, -20 - p3, ec, fr4, fj4, Or.inl ⟨by omega, by omega, fun g M => ?_⟩⟩
        obtain ⟨g2, x1, x2, x3, x4⟩ := em1 g M
        rw [if_neg kk] at x1
        obtain ⟨g3, y1, y2, y3, y4⟩ := mp3 _ x1
        rw [cd_t (by omega), y1, bI_some, s_inw g3 (by omega) (by omega), bI_some, d_bi1, wr_id (x := c3 - 48) (by omega) (by omega), show iin (c3 - 48) 0 3 = false from decide_eq_false (by omega), cond_f] at x4
        exact ⟨g3, x4, FrR_t x2 (FrR_p y3 y4), by rw [y2.2.1]⟩
    · rw [cd_f kk, e184_0, bI_some] at ec
      refine ⟨h3, -20 - p2, ec, fr3, fj3, Or.inl ⟨by omega, by omega, fun g M => ?_⟩⟩
      obtain ⟨g2, x1, x2, x3, x4⟩ := em1 g M
      rw [if_pos (by omega)] at x1
      rw [cd_f (by omega)] at x4
      exact ⟨g2, x4, x2, by rw [x1.2.1]⟩
  · have nokr : ¬ (e1 ≠ p1 ∧ 0 ≤ um ∧ um ≤ 239) := by
      rcases a8 with z | ⟨z0, z1, z2⟩
      · omega
      · split at z2 <;> omega
    have ec : X (181, 0, [aR 70, aR 45, aN, aN, aN, aN, aN], [], h) = some (some (-20 - p1), h2) := by
      rw [ec]
      by_cases c : vc < 0
      · rw [cd_t c, e184_0, bI_some]
      · rw [cd_f c, cd_f (by omega), e184_0, bI_some]
    refine ⟨h2, -20 - p1, ec, fr2, a6, Or.inl ⟨by omega, by omega, fun g M => ?_⟩⟩
    obtain ⟨g1, x1, x2, x3, x4⟩ := a9 g M
    rw [if_neg nokr] at x1 x2
    refine ⟨up g1 83 (4 * v) (-1), ?_, FrR_t (FrR_p x3 x4) (FrR_83 _ _ _), by rw [up_n _ _ _ (by decide), x2.2.1]⟩
    rw [em, x1, bI_some, i0, w0, up_s, cd_f (by decide)]
    simp only [cond_t]
