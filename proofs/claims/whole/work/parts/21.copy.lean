/-! a room copied -/
theorem cpy_o (h : Hp) {p q r : Nat} (a b n : Int) (hr : r ≠ q) : cpy h p q a b n r = h r := by
  funext i; unfold cpy; rw [if_neg (fun z => hr z.1)]
theorem cpy_i (h : Hp) (p q : Nat) {n i : Int} (h0 : 0 ≤ i) (h1 : i < n) : cpy h p q 0 0 n q i = h p i := by
  unfold cpy; rw [if_pos ⟨rfl, h0, by omega⟩]; congr 1; omega
theorem uC_k (d : Nat) (h : Hp) (q : Nat) (v : Int) {k : Nat} (k1 : 1 ≤ k) (k4 : k ≤ 4) (i : Int) : uC d h (h (q + 1) v) (h (q + 2) v) (h (q + 3) v) (h (q + 4) v) (d + k) i = if i = h d 4 then h (q + k) v else h (d + k) i := by
  by_cases hi : i = h d 4
  · rw [if_pos hi, hi]
    obtain ⟨y1, y2, y3, y4⟩ := uC_4 d h (h (q + 1) v) (h (q + 2) v) (h (q + 3) v) (h (q + 4) v)
    have : k = 1 ∨ k = 2 ∨ k = 3 ∨ k = 4 := by omega
    rcases this with rfl | rfl | rfl | rfl
    · exact y1
    · exact y2
    · exact y3
    · exact y4
  · rw [if_neg hi, uC_w _ _ _ _ _ _ hi ⟨k1, k4⟩]
theorem s_addAllL {d q : Nat} (hd : d = 19 ∨ d = 45 ∨ d = 61) (hq : q = 19 ∨ q = 45 ∨ q = 61) (hdq : d ≠ q) : ∀ (n : Nat) (v : Int) (h : Hp), 0 ≤ v → v + n = h q 4 → h q 4 ≤ 12 → 0 ≤ h d 4 → h d 4 + n ≤ 12 → ∃ g, X (156, 2, [aR d, aR q, aI v], [], h) = some (none, g) ∧ (∀ p, (p < d ∨ d + 4 < p) → g p = h p) ∧ g d 4 = h d 4 + n ∧ ∀ k, 1 ≤ k → k ≤ 4 → ∀ i, g (d + k) i = if h d 4 ≤ i ∧ i < h d 4 + n then h (q + k) (i - h d 4 + v) else h (d + k) i
  | 0, v, h, h0, hn, hb, hd0, hd1 => by
    refine ⟨h, ?_, fun p _ => rfl, by omega, fun k k1 k4 i => by rw [if_neg (by omega)]⟩
    rw [e156_2 hd hq, wr_id (by omega) (by omega), wr_id (by omega) (by omega), cd_t (by omega)]
  | n + 1, v, h, h0, hn, hb, hd0, hd1 => by
    have hqo : q < d ∨ d + 4 < q := by omega
    have o : ∀ p, (p < d ∨ d + 4 < p) → uC d h (h (q + 1) v) (h (q + 2) v) (h (q + 3) v) (h (q + 4) v) p = h p := fun p hp => uC_o _ _ _ _ _ _ hp
    have n1 := uC_n d h (h (q + 1) v) (h (q + 2) v) (h (q + 3) v) (h (q + 4) v)
    have uk : ∀ {k : Nat}, 1 ≤ k → k ≤ 4 → ∀ i, _ := fun {k} a b i => uC_k d h q v (k := k) a b i
    generalize hu : uC d h (h (q + 1) v) (h (q + 2) v) (h (q + 3) v) (h (q + 4) v) = u at o n1 uk
    obtain ⟨g, g1, g2, g3, g4⟩ := s_addAllL hd hq hdq n (v + 1) u (by omega) (by rw [o q hqo]; omega) (by rw [o q hqo]; omega) (by omega) (by omega)
    refine ⟨g, ?_, fun p hp => by rw [g2 p hp, o p hp], by omega, fun k k1 k4 i => ?_⟩
    · rw [e156_2 hd hq, wr_id (x := h q 4) (by omega) (by omega), wr_id (x := v) (by omega) (by omega), cd_f (by omega), inb_t (by omega) (by omega) (by omega), cond_t, cond_t, cond_t, cond_t, s_add hd hd0 (by omega), bV_some]
      exact (congrArg (fun z => X (156, 2, [aR d, aR q, aI (v + 1)], [], z)) hu).trans g1
    · rw [g4 k k1 k4 i, n1, o (q + k) (by omega), uk k1 k4 i]
      by_cases c1 : i = h d 4
      · rw [if_neg (by omega), if_pos c1, if_pos (by omega), c1]
        congr 1; omega
      · by_cases c2 : h d 4 ≤ i ∧ i < h d 4 + ((n + 1 : Nat) : Int)
        · rw [if_pos (by omega), if_pos c2]
          congr 1; omega
        · rw [if_neg (by omega), if_neg c1, if_neg c2]
def Cq (r q : Nat) (h g : Hp) : Prop :=
  (∀ k, 0 ≤ k → k < 8 → g (r + 2) k = h (q + 2) k) ∧ (∀ k, 0 ≤ k → k < 12 → g (r + 3) k = h (q + 3) k) ∧ (∀ k, 0 ≤ k → k < 4 → g (r + 4) k = h (q + 4) k) ∧ (g (r + 8) 4 = h (q + 8) 4 ∧ ∀ i, 0 ≤ i → i < h (q + 8) 4 → g (r + 9) i = h (q + 9) i ∧ g (r + 10) i = h (q + 10) i ∧ g (r + 11) i = h (q + 11) i ∧ g (r + 12) i = h (q + 12) i) ∧ (g (r + 5) 2 = h (q + 5) 2 ∧ ∀ a, 0 ≤ a → a < 6 → g (r + 6) a = h (q + 6) a) ∧ (g (r + 13) 2 = h (q + 13) 2 ∧ g (r + 13) 3 = h (q + 13) 3 ∧ ∀ w, 0 ≤ w → w < 12 → g (r + 14) w = h (q + 14) w ∧ g (r + 15) w = h (q + 15) w)
def Cp (r q : Nat) (h g : Hp) : Prop := (∀ p, (p < r + 2 ∨ r + 15 < p) → g p = h p) ∧ Cq r q h g
theorem s_copyRoom {r q : Nat} (hr : r = 11 ∨ r = 37 ∨ r = 53) (hq : q = 11 ∨ q = 37 ∨ q = 53) (hrq : r ≠ q) {h : Hp} (h0 : 0 ≤ h (q + 8) 4) (h1 : h (q + 8) 4 ≤ 12) : ∃ g, X (171, 0, [aR r, aR q], [], h) = some (none, g) ∧ Cp r q h g := by
  have hsep : q + 15 < r ∨ r + 15 < q := by omega
  rw [e171_0 hr hq, e176_0 (by omega) (by omega), bV_some]
  generalize hA : cpy (cpy (cpy h (q + 1 + 1) (r + 1 + 1) 0 0 8) (q + 1 + 2) (r + 1 + 2) 0 0 12) (q + 1 + 3) (r + 1 + 3) 0 0 4 = A
  have A1 : ∀ p, p ≠ r + 2 → p ≠ r + 3 → p ≠ r + 4 → A p = h p := fun p n1 n2 n3 => by
    rw [← hA, cpy_o _ _ _ _ (by omega), cpy_o _ _ _ _ (by omega), cpy_o _ _ _ _ (by omega)]
  have A2 : ∀ k, 0 ≤ k → k < 8 → A (r + 2) k = h (q + 2) k := fun k k0 k1 => by
    rw [← hA, cpy_o _ _ _ _ (by omega), cpy_o _ _ _ _ (by omega)]
    exact cpy_i _ _ _ k0 k1
  have A3 : ∀ k, 0 ≤ k → k < 12 → A (r + 3) k = h (q + 3) k := fun k k0 k1 => by
    rw [← hA, cpy_o _ _ _ _ (by omega)]
    refine (cpy_i _ _ _ k0 k1).trans ?_
    rw [cpy_o _ _ _ _ (by omega)]
  have A4 : ∀ k, 0 ≤ k → k < 4 → A (r + 4) k = h (q + 4) k := fun k k0 k1 => by
    rw [← hA]
    refine (cpy_i _ _ _ k0 k1).trans ?_
    rw [cpy_o _ _ _ _ (by omega), cpy_o _ _ _ _ (by omega)]
  rw [e165_0 (by omega) (by omega), bV_some]
  generalize hB : up (cpy A (q + 5 + 1) (r + 5 + 1) 0 0 6) (r + 5) 2 (cpy A (q + 5 + 1) (r + 5 + 1) 0 0 6 (q + 5) 2) = B
  have B1 : ∀ p, p ≠ r + 5 → p ≠ r + 6 → B p = A p := fun p n1 n2 => by
    rw [← hB, up_n _ _ _ n1, cpy_o _ _ _ _ (by omega)]
  have B2 : B (r + 5) 2 = h (q + 5) 2 := by
    rw [← hB, up_s, cpy_o _ _ _ _ (by omega), A1 _ (by omega) (by omega) (by omega)]
  have B3 : ∀ a, 0 ≤ a → a < 6 → B (r + 6) a = h (q + 6) a := fun a a0 a1 => by
    rw [← hB, up_n _ _ _ (by omega)]
    refine (cpy_i _ _ _ a0 a1).trans ?_
    rw [show q + 5 + 1 = q + 6 by omega, A1 _ (by omega) (by omega) (by omega)]
  have Bh : ∀ p, (p < r + 2 ∨ r + 6 < p) → B p = h p := fun p hp => by
    rw [B1 _ (by omega) (by omega), A1 _ (by omega) (by omega) (by omega)]
  rw [e158_0 (by omega) (by omega), e156_0 (by omega) (by omega)]
  have hCq : up B (r + 8) 4 0 (q + 8) 4 = h (q + 8) 4 := by rw [up_n _ _ _ (by omega), Bh _ (by omega)]
  have hC0 : up B (r + 8) 4 0 (r + 8) 4 = 0 := up_s _ _ _ _
  obtain ⟨G, G1, G2, G3, G4⟩ := s_addAllL (d := r + 8) (q := q + 8) (by omega) (by omega) (by omega) (h (q + 8) 4).toNat 0 (up B (r + 8) 4 0) (by omega) (by rw [hCq]; omega) (by rw [hCq]; omega) (by rw [hC0]; omega) (by rw [hC0]; omega)
  rw [G1, bV_some, bV_some, e123_0 (by omega) (by omega), bV_some]
  have Gh : ∀ p, (p < r + 2 ∨ (r + 6 < p ∧ p < r + 8) ∨ r + 12 < p) → G p = h p := fun p hp => by
    rw [G2 p (by omega), up_n _ _ _ (by omega), Bh p (by omega)]
  generalize hD : cpy (cpy G (q + 13 + 1) (r + 13 + 1) 0 0 12) (q + 13 + 2) (r + 13 + 2) 0 0 12 = D
  have D1 : ∀ p, p ≠ r + 14 → p ≠ r + 15 → D p = G p := fun p n1 n2 => by
    rw [← hD, cpy_o _ _ _ _ (by omega), cpy_o _ _ _ _ (by omega)]
  have D2 : ∀ w, 0 ≤ w → w < 12 → D (r + 14) w = h (q + 14) w := fun w w0 w1 => by
    rw [← hD, cpy_o _ _ _ _ (by omega)]
    refine (cpy_i _ _ _ w0 w1).trans ?_
    rw [show q + 13 + 1 = q + 14 by omega, Gh _ (by omega)]
  have D3 : ∀ w, 0 ≤ w → w < 12 → D (r + 15) w = h (q + 15) w := fun w w0 w1 => by
    rw [← hD]
    refine (cpy_i _ _ _ w0 w1).trans ?_
    rw [show q + 13 + 2 = q + 15 by omega, cpy_o _ _ _ _ (by omega), Gh _ (by omega)]
  have Dq : ∀ p, (p < r + 2 ∨ r + 15 < p) → D p = h p := fun p hp => by rw [D1 p (by omega) (by omega), Gh p (by omega)]
  refine ⟨_, rfl, fun p hp => ?_, fun k k0 k1 => ?_, fun k k0 k1 => ?_, fun k k0 k1 => ?_, ⟨?_, fun i i0 i1 => ?_⟩, ⟨?_, fun a a0 a1 => ?_⟩, ?_, ?_, fun w w0 w1 => ?_⟩
  · rw [up_n _ _ _ (by omega), up_n _ _ _ (by omega), Dq p hp]
  · rw [up_n _ _ _ (by omega), up_n _ _ _ (by omega), D1 _ (by omega) (by omega), G2 _ (by omega), up_n _ _ _ (by omega), B1 _ (by omega) (by omega), A2 k k0 k1]
  · rw [up_n _ _ _ (by omega), up_n _ _ _ (by omega), D1 _ (by omega) (by omega), G2 _ (by omega), up_n _ _ _ (by omega), B1 _ (by omega) (by omega), A3 k k0 k1]
  · rw [up_n _ _ _ (by omega), up_n _ _ _ (by omega), D1 _ (by omega) (by omega), G2 _ (by omega), up_n _ _ _ (by omega), B1 _ (by omega) (by omega), A4 k k0 k1]
  · rw [up_n _ _ _ (by omega), up_n _ _ _ (by omega), D1 _ (by omega) (by omega), G3, hC0]; omega
  · have key : ∀ k, 1 ≤ k → k ≤ 4 → G (r + 8 + k) i = h (q + 8 + k) i := fun k k1 k4 => by
      rw [G4 k k1 k4 i, hC0, if_pos (by omega), up_n _ _ _ (by omega), Bh _ (by omega)]
      congr 1; omega
    have o : ∀ p, r + 8 < p → p < r + 13 → up (up D (r + 13) 2 (D (q + 13) 2)) (r + 13) 3 (up D (r + 13) 2 (D (q + 13) 2) (q + 13) 3) p = G p := fun p p1 p2 => by
      rw [up_n _ _ _ (by omega), up_n _ _ _ (by omega), D1 _ (by omega) (by omega)]
    rw [o (r + 9) (by omega) (by omega), o (r + 10) (by omega) (by omega), o (r + 11) (by omega) (by omega), o (r + 12) (by omega) (by omega)]
    exact ⟨key 1 (by omega) (by omega), key 2 (by omega) (by omega), key 3 (by omega) (by omega), key 4 (by omega) (by omega)⟩
  · rw [up_n _ _ _ (by omega), up_n _ _ _ (by omega), D1 _ (by omega) (by omega), G2 _ (by omega), up_n _ _ _ (by omega), B2]
  · rw [up_n _ _ _ (by omega), up_n _ _ _ (by omega), D1 _ (by omega) (by omega), G2 _ (by omega), up_n _ _ _ (by omega), B3 a a0 a1]
  · rw [up_o _ _ _ (by decide), up_s, Dq _ (by omega)]
  · rw [up_s, up_n _ _ _ (by omega), Dq _ (by omega)]
  · rw [up_n _ _ _ (by omega), up_n _ _ _ (by omega), up_n _ _ _ (by omega), up_n _ _ _ (by omega)]
    exact ⟨D2 w w0 w1, D3 w w0 w1⟩
theorem RR_copy {r q z y : Nat} {h g : Hp} (hC : Cq r q h g) (hz : ∀ j, 0 ≤ j → j < 115 → g y j = h z j) (hZ : Zz z h) (H : RR q z h) : RR r y g := by
  obtain ⟨k1, k2, k3, ⟨k4, k5⟩, ⟨k6, k7⟩, k8, k9, k10⟩ := hC
  obtain ⟨c1, c2, c3, ⟨c4, c4'⟩, ⟨c5, c5'⟩, ⟨c6, c6'⟩⟩ := H
  obtain ⟨d1, d2, d3, d4, d5, d6⟩ := hZ
  have z24 := hz 24 (by omega) (by omega)
  have z25 := hz 25 (by omega) (by omega)
  have z42 := hz 42 (by omega) (by omega)
  have b4 := d4.1
  have b5 := d5.1
  have b6 := d6.1
  refine ⟨fun k a b => ?_, fun k a b => ?_, fun k a b => ?_, ⟨?_, fun i a b => ?_⟩, ⟨?_, fun a a0 a1 => ?_⟩, ⟨?_, fun w a b => ?_⟩⟩
  · rw [k1 k a b, hz k a (by omega)]; exact c1 k a b
  · rw [k2 k a b, hz _ (by omega) (by omega)]; exact c2 k a b
  · rw [k3 k a b, hz _ (by omega) (by omega)]; exact c3 k a b
  · rw [k4, z24]; exact c4
  · rw [z24] at b
    obtain ⟨y1, y2, y3, y4⟩ := k5 i a (by omega)
    rw [y1, y2, y3, y4, hz _ (by omega) (by omega), hz _ (by omega) (by omega), hz _ (by omega) (by omega), hz _ (by omega) (by omega)]
    exact c4' i a b
  · rw [k6, z25]; exact c5
  · rw [k7 a a0 a1, z25]
    obtain ⟨y1, y2, y3⟩ := c5' a a0 a1
    refine ⟨y1, y2, fun b b0 b1 => (y3 b b0 b1).trans ⟨fun ⟨k, e1, e2, e3, e4⟩ => ⟨k, e1, e2, ?_, ?_⟩, fun ⟨k, e1, e2, e3, e4⟩ => ⟨k, e1, e2, ?_, ?_⟩⟩⟩
    · rw [hz _ (by omega) (by omega)]; exact e3
    · rw [hz _ (by omega) (by omega)]; exact e4
    · rw [hz _ (by omega) (by omega)] at e3; exact e3
    · rw [hz _ (by omega) (by omega)] at e4; exact e4
  · rw [k8, z42]; exact c6
  · rw [z42] at b
    obtain ⟨y1, y2⟩ := k10 w a (by omega)
    rw [y1, y2, hz _ (by omega) (by omega), hz _ (by omega) (by omega)]
    exact c6' w a b
theorem Zz_copy {z y : Nat} {h g : Hp} (hz : ∀ j, 0 ≤ j → j < 115 → g y j = h z j) (H : Zz z h) : Zz y g := by
  obtain ⟨d1, d2, d3, d4, d5, d6⟩ := H
  have z24 := hz 24 (by omega) (by omega)
  have z25 := hz 25 (by omega) (by omega)
  have z42 := hz 42 (by omega) (by omega)
  have b4 := d4.1
  have b5 := d5.1
  have b6 := d6.1
  refine ⟨fun k a b => ?_, fun k a b => ?_, fun k a b => ?_, ⟨?_, fun i a b => ?_⟩, ⟨?_, fun k a b => ?_⟩, ⟨?_, fun w a b => ?_⟩⟩
  · rw [hz k a (by omega)]; exact d1 k a b
  · rw [hz _ (by omega) (by omega)]; exact d2 k a b
  · rw [hz _ (by omega) (by omega)]; exact d3 k a b
  · rw [z24]; exact b4
  · rw [z24] at b
    rw [hz (67 + 4 * i) (by omega) (by omega), hz (68 + 4 * i) (by omega) (by omega), hz (69 + 4 * i) (by omega) (by omega), hz (70 + 4 * i) (by omega) (by omega)]
    exact d4.2 i a b
  · rw [z25]; exact b5
  · rw [z25] at b
    rw [hz (26 + 2 * k) (by omega) (by omega), hz (27 + 2 * k) (by omega) (by omega)]
    exact d5.2 k a b
  · rw [z42]; exact b6
  · rw [z42] at b
    rw [hz (43 + 2 * w) (by omega) (by omega), hz (44 + 2 * w) (by omega) (by omega), z24]
    exact d6.2 w a b
theorem Cq_c {r q : Nat} {h g f : Hp} (e : ∀ p, r + 2 ≤ p → p ≤ r + 15 → f p = g p) (H : Cq r q h g) : Cq r q h f := by
  unfold Cq at H ⊢
  rw [e (r + 2) (by omega) (by omega), e (r + 3) (by omega) (by omega), e (r + 4) (by omega) (by omega), e (r + 8) (by omega) (by omega), e (r + 9) (by omega) (by omega), e (r + 10) (by omega) (by omega), e (r + 11) (by omega) (by omega), e (r + 12) (by omega) (by omega), e (r + 5) (by omega) (by omega), e (r + 6) (by omega) (by omega), e (r + 13) (by omega) (by omega), e (r + 14) (by omega) (by omega), e (r + 15) (by omega) (by omega)]
  exact H
