/-! a day's state in both: the relation, the coming -/
def wt (Z : Int → Int) (hm : Hp) (p : Int) : Int := if hm 84 p = 3 then hm 86 p - zmn Z p else if hm 84 p = 2 then hm 89 p - zmn Z p else 0
def MP (hm : Hp) (Z : Int → Int) (pl ru th sh nv : Int) : Prop := hm 81 = Z ∧ hm 80 8 = pl ∧ hm 80 6 = ru ∧ hm 80 7 = th ∧ hm 80 9 = sh ∧ hm 80 10 = nv
def Rel (d : Nat) (io : Int → Int) (n : Int) (Z : Int → Int) (hc hm : Hp) : Prop :=
  (∀ i, 0 ≤ i → i < n → hc (d + 1) i = hm 84 (io i) ∧ hc (d + 3) i = hm 86 (io i) ∧ hc (d + 4) i = hm 87 (io i) ∧ hc (d + 6) i = zSz Z (io i) ∧ hc (d + 2) i = wt Z hm (io i) ∧ (hm 84 (io i) = 3 → hc (d + 5) i = hm 88 (io i))) ∧ (∀ c, 0 ≤ c → c < 3 → hc (d + 9) c = hm 90 c ∧ 0 ≤ hm 90 c ∧ hm 90 c ≤ 600) ∧ hc d 13 = hm 80 18 ∧ hc d 11 = cnt Z (hm 84) ∧ hc d 12 = cnS Z (hm 84)
def Mo (io : Int → Int) (n : Int) (Z : Int → Int) (hm : Hp) : Prop :=
  (∀ p, 0 ≤ p → p < Z 24 → (0 ≤ hm 84 p ∧ hm 84 p ≤ 4) ∧ (hm 84 p = 3 → (zmn Z p ≤ hm 86 p ∧ hm 86 p < 240) ∧ (0 ≤ hm 87 p ∧ hm 87 p < 3) ∧ (1 ≤ hm 88 p ∧ hm 88 p ≤ 260) ∧ hm 86 p + hm 88 p ≤ hm 90 (hm 87 p)) ∧ (hm 84 p = 2 → zmn Z p ≤ hm 89 p ∧ hm 89 p < 240) ∧ (hm 84 p ≠ 3 → hm 86 p = -4 ∧ hm 87 p = -4) ∧ (hm 84 p ≠ 0 → ∃ i, 0 ≤ i ∧ i < n ∧ io i = p)) ∧
  (∀ p q, 0 ≤ p → p < Z 24 → 0 ≤ q → q < Z 24 → p ≠ q → hm 84 p = 3 → hm 84 q = 3 → hm 87 p = hm 87 q → hm 86 p + hm 88 p ≤ hm 86 q ∨ hm 86 q + hm 88 q ≤ hm 86 p)
def Arr (Z : Int → Int) (hm : Hp) (m q : Int) : Prop := ∀ p, 0 ≤ p → p < Z 24 → hm 84 p ≠ 0 → zmn Z p < m ∨ (zmn Z p = m ∧ p < q)
def PlB (d : Nat) (io : Int → Int) (n : Int) (Z : Int → Int) (pl : Int) (hc hm : Hp) (m i0 : Int) : Prop := ∀ i, 0 ≤ i → i < n → (hm 84 (io i) = 4 → hc (d + 7) i = zPl Z pl (io i) (if i < i0 then m else m - 1)) ∧ (hm 84 (io i) = 0 → hc (d + 7) i = zPl Z pl (io i) (zmn Z (io i)))
def LnOK (d : Nat) (n : Int) (hc : Hp) : Prop := (∀ k, 0 ≤ k → k < n → 0 ≤ hc (d + 8) k ∧ hc (d + 8) k < n) ∧ (∀ k l, 0 ≤ k → k < l → l < n → hc (d + 19) (hc (d + 8) k) < hc (d + 19) (hc (d + 8) l) ∨ (hc (d + 19) (hc (d + 8) k) = hc (d + 19) (hc (d + 8) l) ∧ hc (d + 8) k < hc (d + 8) l)) ∧ (∀ i, 0 ≤ i → i < n → ∃ k, 0 ≤ k ∧ k < n ∧ hc (d + 8) k = i)
def Ptr (d : Nat) (io : Int → Int) (n : Int) (hc : Hp) (m q : Int) : Prop := (0 ≤ hc d 10 ∧ hc d 10 ≤ n) ∧ ∀ k, 0 ≤ k → k < n → (k < hc d 10 ↔ (hc (d + 19) (hc (d + 8) k) < m ∨ (hc (d + 19) (hc (d + 8) k) = m ∧ io (hc (d + 8) k) < q)))
def Sta (io : Int → Int) (n : Int) (Z : Int → Int) (pl ru th sh nv ms : Int) : Prop := ZD Z ∧ (pl = 0 ∨ pl = 1) ∧ (0 ≤ ru ∧ ru ≤ 2) ∧ (0 ≤ th ∧ th ≤ 13) ∧ (0 ≤ sh ∧ sh ≤ 240) ∧ (-4 ≤ nv ∧ nv < 3) ∧ (-1 ≤ ms ∧ ms < 3) ∧ (∀ c, 0 ≤ c → c < 3 → (c = ms ↔ c = nv)) ∧ (∀ p, 0 ≤ p → p < Z 24 → zmn Z p < sh → ∃ i, 0 ≤ i ∧ i < n ∧ io i = p) ∧ (∀ i, 0 ≤ i → i < n → zmn Z (io i) < sh)
def Ltr (Z : Int → Int) (m : Int) (h g : Hp) : Prop := ∀ p, 0 ≤ p → p < Z 24 → ((h 84 p ≠ 0 ∧ h 84 p ≠ 4) → g 84 p = h 84 p ∧ g 86 p = h 86 p ∧ g 87 p = h 87 p ∧ g 88 p = h 88 p ∧ g 89 p = h 89 p) ∧ (h 84 p = 4 → g 84 p = 4 ∨ (g 84 p = 2 ∧ m ≤ g 89 p) ∨ (g 84 p = 3 ∧ m ≤ g 86 p)) ∧ (h 84 p = 0 → g 84 p = 0 ∨ m ≤ zmn Z p)
def Fr (d : Nat) (hc hm gc gm : Hp) : Prop := (∀ p, (p < d ∨ d + 9 < p) → gc p = hc p) ∧ (∀ j, (j < 10 ∨ 13 < j) → gc d j = hc d j) ∧ (∀ p, ¬ (p = 80 ∨ (84 ≤ p ∧ p ≤ 90)) → gm p = hm p) ∧ (∀ j, j ≠ 18 → gm 80 j = hm 80 j)
theorem Fr_0 (d : Nat) (hc hm : Hp) : Fr d hc hm hc hm := ⟨fun _ _ => rfl, fun _ _ => rfl, fun _ _ => rfl, fun _ _ => rfl⟩
theorem Fr_t {d : Nat} {a b a1 b1 a2 b2 : Hp} (h1 : Fr d a b a1 b1) (h2 : Fr d a1 b1 a2 b2) : Fr d a b a2 b2 := ⟨fun p hp => (h2.1 p hp).trans (h1.1 p hp), fun j hj => (h2.2.1 j hj).trans (h1.2.1 j hj), fun p hp => (h2.2.2.1 p hp).trans (h1.2.2.1 p hp), fun j hj => (h2.2.2.2 j hj).trans (h1.2.2.2 j hj)⟩
theorem Fr_Dat {d : Nat} {hc hm gc gm : Hp} {io : Int → Int} {n : Int} {Z : Int → Int} {pl ru th : Int} (F : Fr d hc hm gc gm) (H : Dat d io n Z pl ru th hc) : Dat d io n Z pl ru th gc := Dat_c (fun p h1 h2 => F.1 p (by omega)) H
theorem Fr_MP {d : Nat} {hc hm gc gm : Hp} {Z : Int → Int} {pl ru th sh nv : Int} (F : Fr d hc hm gc gm) (H : MP hm Z pl ru th sh nv) : MP gm Z pl ru th sh nv := by
  unfold MP at H ⊢
  rw [F.2.2.1 81 (by omega), F.2.2.2 8 (by decide), F.2.2.2 6 (by decide), F.2.2.2 7 (by decide), F.2.2.2 9 (by decide), F.2.2.2 10 (by decide)]
  exact H
theorem Ltr_0 (Z : Int → Int) (m : Int) (h : Hp) : Ltr Z m h h := fun p _ _ => ⟨fun _ => ⟨rfl, rfl, rfl, rfl, rfl⟩, fun q => Or.inl q, fun q => Or.inl q⟩
theorem zPl_b {Z : Int → Int} {pl p t : Int} (h : t ≤ zmn Z p + 5) (hZ : ZD Z) (p0 : 0 ≤ p) (p1 : p < Z 24) : zPl Z pl p t = zPl Z pl p (zmn Z p) := by
  have hr := zd_row hZ p0 p1
  have key : zK Z pl p = 3 → 1 ≤ znu Z p := by
    intro q
    apply hr.2.2.2.2.2.1
    unfold zK at q
    split at q
    · omega
    · exact q
  unfold zPl
  by_cases z : zK Z pl p = 4
  · rw [if_pos z, if_pos z]
  · rw [if_neg z, if_neg z]
    by_cases y : zK Z pl p = 3
    · have := key y
      rw [if_neg (by omega), if_neg (by omega)]
    · rw [if_neg (fun q => y q.1), if_neg (fun q => y q.1)]
/-- one comes: TURNED or WAITING -/
theorem rel_arr {d : Nat} {io : Int → Int} {n : Int} {Z : Int → Int} {pl ru th : Int} {hc hm gc : Hp} {i f : Int} (hD : Dat d io n Z pl ru th hc) (R : Rel d io n Z hc hm) (i0 : 0 ≤ i) (i1 : i < n) (z : hm 84 (io i) = 0) (hf : f = 1 ∨ f = 4) (g1 : ∀ j, gc (d + 1) j = if j = i then f else hc (d + 1) j) (go : ∀ p, p ≠ d → p ≠ d + 1 → gc p = hc p) (g13 : gc d 13 = hc d 13) (g11 : gc d 11 = hc d 11 + (if f = 4 then 1 else 0)) (g12 : gc d 12 = hc d 12 + (if f = 4 then zSz Z (io i) else 0)) : Rel d io n Z gc (up hm 84 (io i) f) := by
  obtain ⟨r1, r2, r3, r4, r5⟩ := R
  have hb := (hD.2.2.1 i i0 i1).1
  have o : ∀ p, p ≠ 84 → up hm 84 (io i) f p = hm p := fun p hp => up_n _ _ _ hp
  have u : ∀ j, up hm 84 (io i) f 84 j = if j = io i then f else hm 84 j := fun j => by unfold up; simp
  refine ⟨fun j j0 j1 => ?_, fun c c0 c1 => ?_, ?_, ?_, ?_⟩
  · obtain ⟨y1, y2, y3, y4, y5, y6⟩ := r1 j j0 j1
    rw [g1, go _ (by omega) (by omega), go _ (by omega) (by omega), go _ (by omega) (by omega), go _ (by omega) (by omega), go _ (by omega) (by omega), o 86 (by decide), o 87 (by decide), o 88 (by decide), u]
    unfold wt
    rw [u, o 86 (by decide), o 89 (by decide)]
    by_cases c : j = i
    · subst c
      rw [if_pos rfl, if_pos rfl, if_neg (by omega), if_neg (by omega)]
      unfold wt at y5
      rw [z, if_neg (by decide), if_neg (by decide)] at y5
      exact ⟨rfl, y2, y3, y4, y5, fun q => by omega⟩
    · rw [if_neg c, if_neg (fun q => c ((io_lt hD j0 j1 i0 i1).2.mp q))]
      exact ⟨y1, y2, y3, y4, y5, y6⟩
  · rw [go _ (by omega) (by omega), o 90 (by decide)]; exact r2 c c0 c1
  · rw [g13, o 80 (by decide)]; exact r3
  · rw [g11, r4]
    unfold cnt
    rw [sm_u (f := fun p => if hm 84 p = 4 then 1 else 0) (g := fun p => if up hm 84 (io i) f 84 p = 4 then 1 else 0) (q := io i) _ hb.1 (by omega) (fun p p0 p1 p2 => by show (if up hm 84 (io i) f 84 p = 4 then (1 : Int) else 0) = _; rw [u, if_neg p2])]
    show _ = _ + ((if up hm 84 (io i) f 84 (io i) = 4 then (1 : Int) else 0) - (if hm 84 (io i) = 4 then (1 : Int) else 0))
    rw [u, if_pos rfl, z, if_neg (show ¬ (0 : Int) = 4 by decide)]; omega
  · rw [g12, r5]
    unfold cnS
    rw [sm_u (f := fun p => if hm 84 p = 4 then zSz Z p else 0) (g := fun p => if up hm 84 (io i) f 84 p = 4 then zSz Z p else 0) (q := io i) _ hb.1 (by omega) (fun p p0 p1 p2 => by show (if up hm 84 (io i) f 84 p = 4 then zSz Z p else 0) = _; rw [u, if_neg p2])]
    show _ = _ + ((if up hm 84 (io i) f 84 (io i) = 4 then zSz Z (io i) else 0) - (if hm 84 (io i) = 4 then zSz Z (io i) else 0))
    rw [u, if_pos rfl, z, if_neg (show ¬ (0 : Int) = 4 by decide)]; omega
theorem mo_arr {io : Int → Int} {n : Int} {Z : Int → Int} {hm : Hp} {i f : Int} (M : Mo io n Z hm) (i0 : 0 ≤ i) (i1 : i < n) (z : hm 84 (io i) = 0) (hf : f = 1 ∨ f = 4) (hp : 0 ≤ io i ∧ io i < Z 24) : Mo io n Z (up hm 84 (io i) f) := by
  obtain ⟨m1, m2⟩ := M
  have o : ∀ p, p ≠ 84 → up hm 84 (io i) f p = hm p := fun p hp => up_n _ _ _ hp
  have u : ∀ j, up hm 84 (io i) f 84 j = if j = io i then f else hm 84 j := fun j => by unfold up; simp
  refine ⟨fun p p0 p1 => ?_, fun p q p0 p1 q0 q1 hpq hp hq he => ?_⟩
  · obtain ⟨y1, y2, y3, y4, y5⟩ := m1 p p0 p1
    rw [u, o 86 (by decide), o 87 (by decide), o 88 (by decide), o 89 (by decide), o 90 (by decide)]
    by_cases c : p = io i
    · rw [if_pos c]
      have := y4 (by rw [c, z]; decide)
      rcases hf with rfl | rfl
      · exact ⟨by decide, fun q => absurd q (by decide), fun q => absurd q (by decide), fun _ => this, fun _ => ⟨i, i0, i1, c.symm⟩⟩
      · exact ⟨by decide, fun q => absurd q (by decide), fun q => absurd q (by decide), fun _ => this, fun _ => ⟨i, i0, i1, c.symm⟩⟩
    · rw [if_neg c]
      exact ⟨y1, y2, y3, y4, y5⟩
  · rw [u] at hp hq
    rw [o 86 (by decide), o 88 (by decide)]
    rw [o 87 (by decide)] at he
    have cp : ¬ p = io i := fun c => by rw [if_pos c] at hp; omega
    have cq : ¬ q = io i := fun c => by rw [if_pos c] at hq; omega
    rw [if_neg cp] at hp
    rw [if_neg cq] at hq
    exact m2 p q p0 p1 q0 q1 hpq hp hq he
