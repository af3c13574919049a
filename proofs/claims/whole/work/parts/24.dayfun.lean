/-! THE DAY: what it depends on, as functions of the reference's row Z, whether choosers are plain (pl), the rule (ru) -/
def zmn (Z : Int → Int) (p : Int) : Int := Z (67 + 4 * p)
def zkd (Z : Int → Int) (p : Int) : Int := Z (68 + 4 * p)
def zso (Z : Int → Int) (p : Int) : Int := Z (69 + 4 * p)
def znu (Z : Int → Int) (p : Int) : Int := Z (70 + 4 * p)
def zK (Z : Int → Int) (pl p : Int) : Int := if pl ≠ 0 ∧ zkd Z p = 1 then 0 else zkd Z p
def zSz (Z : Int → Int) (p : Int) : Int := if zkd Z p = 2 then znu Z p else 1
def zOut (Z : Int → Int) (pl p m : Int) : Bool := decide (zK Z pl p = 3 ∧ zmn Z p + 5 ≤ m ∧ m ≤ zmn Z p + 5 + znu Z p - 1)
def zPl (Z : Int → Int) (pl p m : Int) : Int := if zK Z pl p = 4 then znu Z p else if zK Z pl p = 3 ∧ Z 6 = 0 ∧ zmn Z p + 5 + znu Z p ≤ m then zmn Z p + 5 + znu Z p else zmn Z p
def zLn (Z : Int → Int) (pl p c : Int) : Int := Z (8 + 4 * c + zso Z p) * zSz Z p + (if zK Z pl p = 1 then Z 4 else 0)
def zPr (Z : Int → Int) (a b : Int) : Nat → Bool
  | 0 => false
  | k + 1 => zPr Z a b k || decide (Z (26 + 2 * (k : Int)) = a ∧ Z (27 + 2 * (k : Int)) = b)
def zP (Z : Int → Int) (a b : Int) : Bool := zPr Z a b (Z 25).toNat
def zFst (Z : Int → Int) (pl a b m : Int) : Bool := decide (zPl Z pl a m < zPl Z pl b m ∨ (zPl Z pl a m = zPl Z pl b m ∧ a < b))
def zGB (Z : Int → Int) (pl ru a b c m : Int) : Bool := if ru = 1 then (if zP Z (zK Z pl a) (zK Z pl b) = zP Z (zK Z pl b) (zK Z pl a) then zFst Z pl a b m else zP Z (zK Z pl a) (zK Z pl b)) else if ru = 2 ∧ zLn Z pl a c ≠ zLn Z pl b c then decide (zLn Z pl a c < zLn Z pl b c) else zFst Z pl a b m
def zWF (Z : Int → Int) (pl : Int) (fate : Int → Int) (p c m : Int) : Bool := decide (fate p = 4) && !zOut Z pl p m && decide (zK Z pl p ≠ 1 ∨ znu Z p = c)
def ZD (Z : Int → Int) : Prop := Zz 81 (fun _ => Z)
theorem zd_of {h : Hp} (H : Zz 81 h) : ZD (h 81) := Zz_congr (h := h) rfl H
theorem zd_row {Z : Int → Int} (H : ZD Z) {p : Int} (p0 : 0 ≤ p) (p1 : p < Z 24) : (0 ≤ zmn Z p ∧ zmn Z p < 240) ∧ (0 ≤ zkd Z p ∧ zkd Z p < 6) ∧ (0 ≤ zso Z p ∧ zso Z p < 4) ∧ (0 ≤ znu Z p ∧ znu Z p ≤ 239) ∧ (zkd Z p = 2 → 2 ≤ znu Z p ∧ znu Z p ≤ 4) ∧ (zkd Z p = 3 → 1 ≤ znu Z p) ∧ (zkd Z p = 5 → 1 ≤ znu Z p) ∧ (zkd Z p = 1 → znu Z p ≤ 2) := by
  obtain ⟨q1, q2, q3, q4, q5⟩ : (0 ≤ zmn Z p ∧ zmn Z p < 240) ∧ (0 ≤ zkd Z p ∧ zkd Z p < 6) ∧ (0 ≤ zso Z p ∧ zso Z p < 4) ∧ lo6 (zkd Z p) ≤ znu Z p ∧ znu Z p ≤ hi6 (zkd Z p) (zmn Z p) := of_decide_eq_true (H.2.2.2.1.2 p p0 p1)
  have hl := lo6_r (zkd Z p)
  have h1 : hi6 (zkd Z p) (zmn Z p) ≤ 239 := by unfold hi6; split <;> (try split) <;> (try split) <;> (try split) <;> omega
  refine ⟨q1, q2, q3, ⟨by omega, by omega⟩, fun z => ?_, fun z => ?_, fun z => ?_, fun z => ?_⟩
  · rw [z] at q4 q5; exact ⟨q4, q5⟩
  · rw [z] at q4; exact q4
  · rw [z] at q4; exact q4
  · rw [z] at q5; exact q5
theorem zd_n {Z : Int → Int} (H : ZD Z) : 0 ≤ Z 24 ∧ Z 24 ≤ 12 := H.2.2.2.1.1
theorem zd_m {Z : Int → Int} (H : ZD Z) : 0 ≤ Z 25 ∧ Z 25 ≤ 8 := H.2.2.2.2.1.1
theorem zd_s {Z : Int → Int} (H : ZD Z) : (1 ≤ Z 0 ∧ Z 0 ≤ 12) ∧ (0 ≤ Z 1 ∧ Z 1 ≤ 40) ∧ (0 ≤ Z 2 ∧ Z 2 ≤ 239) ∧ (0 ≤ Z 3 ∧ Z 3 ≤ 10) ∧ (0 ≤ Z 4 ∧ Z 4 ≤ 20) ∧ (0 ≤ Z 5 ∧ Z 5 ≤ 13) ∧ (0 ≤ Z 6 ∧ Z 6 ≤ 1) ∧ (0 ≤ Z 7 ∧ Z 7 ≤ 2) := ⟨H.1 0 (by omega) (by omega), H.1 1 (by omega) (by omega), H.1 2 (by omega) (by omega), H.1 3 (by omega) (by omega), H.1 4 (by omega) (by omega), H.1 5 (by omega) (by omega), H.1 6 (by omega) (by omega), H.1 7 (by omega) (by omega)⟩
theorem zd_need {Z : Int → Int} (H : ZD Z) {c s : Int} (c0 : 0 ≤ c ∧ c < 3) (s0 : 0 ≤ s ∧ s < 4) : 1 ≤ Z (8 + 4 * c + s) ∧ Z (8 + 4 * c + s) ≤ 60 := by
  have := H.2.1 (4 * c + s) (by omega) (by omega)
  rw [show 8 + 4 * c + s = 8 + (4 * c + s) by omega]
  exact this
theorem zK_r {Z : Int → Int} (H : ZD Z) {pl p : Int} (p0 : 0 ≤ p) (p1 : p < Z 24) : 0 ≤ zK Z pl p ∧ zK Z pl p < 6 := by
  have := (zd_row H p0 p1).2.1
  unfold zK; split <;> omega
theorem zSz_r {Z : Int → Int} (H : ZD Z) {p : Int} (p0 : 0 ≤ p) (p1 : p < Z 24) : 1 ≤ zSz Z p ∧ zSz Z p ≤ 4 := by
  have := (zd_row H p0 p1).2.2.2.2.1
  unfold zSz
  by_cases z : zkd Z p = 2
  · rw [if_pos z]; have := this z; omega
  · rw [if_neg z]; omega
theorem zPl_r {Z : Int → Int} (H : ZD Z) {pl p m : Int} (p0 : 0 ≤ p) (p1 : p < Z 24) : 0 ≤ zPl Z pl p m ∧ zPl Z pl p m ≤ 1000 := by
  have := zd_row H p0 p1
  unfold zPl; split <;> (try split) <;> omega
theorem mul4 {a b : Int} (h1 : 1 ≤ a) (h2 : a ≤ 60) (h3 : 1 ≤ b) (h4 : b ≤ 4) : 1 ≤ a * b ∧ a * b ≤ 240 := by
  have : b = 1 ∨ b = 2 ∨ b = 3 ∨ b = 4 := by omega
  rcases this with rfl | rfl | rfl | rfl <;> omega
theorem zLn_r {Z : Int → Int} (H : ZD Z) {pl p c : Int} (p0 : 0 ≤ p) (p1 : p < Z 24) (c0 : 0 ≤ c ∧ c < 3) : 1 ≤ zLn Z pl p c ∧ zLn Z pl p c ≤ 260 := by
  have h1 := zd_need H c0 (zd_row H p0 p1).2.2.1
  have h2 := zSz_r H p0 p1
  have h3 := mul4 h1.1 h1.2 h2.1 h2.2
  have h4 := (zd_s H).2.2.2.2.1
  unfold zLn; split <;> omega
/-! the reference's small methods -/
theorem m_kindOf {h : Hp} (H : ZD (h 81)) {p : Int} (p0 : 0 ≤ p) (p1 : p < h 81 24) (h8 : h 80 8 = 0 ∨ h 80 8 = 1) : X (70, 0, [aR 80, aI p, aN], [], h) = some (some (zK (h 81) (h 80 8) p), h) := by
  have hn := zd_n H
  have hr := (zd_row H p0 p1).2.1
  unfold zkd at hr
  rw [e70_0, m_of p0 (by omega) (by decide) (by decide), bI_some, show 67 + 4 * p + 1 = 68 + 4 * p by omega]
  unfold zK zkd
  rcases h8 with h8 | h8
  · rw [h8, wr_0, cd_t rfl, if_neg (by omega)]
  · rw [h8, wr_1, cd_f (by decide), wr_id (by omega) (by omega)]
    by_cases z : h 81 (68 + 4 * p) = 1
    · rw [cd_f (by omega), if_pos ⟨by decide, z⟩]
    · rw [cd_t z, if_neg (fun y => z y.2)]
theorem m_sizeOf {h : Hp} (H : ZD (h 81)) {p : Int} (p0 : 0 ≤ p) (p1 : p < h 81 24) : X (71, 0, [aR 80, aI p], [], h) = some (some (zSz (h 81) p), h) := by
  have hn := zd_n H
  have hr := (zd_row H p0 p1).2.1
  unfold zkd at hr
  rw [e71_0, m_of p0 (by omega) (by decide) (by decide), bI_some, show 67 + 4 * p + 1 = 68 + 4 * p by omega, wr_id (by omega) (by omega)]
  unfold zSz zkd znu
  by_cases z : h 81 (68 + 4 * p) = 2
  · rw [cd_f (by omega), if_pos z, m_of p0 (by omega) (by decide) (by decide), bI_some, show 67 + 4 * p + 3 = 70 + 4 * p by omega]
  · rw [cd_t z, if_neg z]
theorem m_isOut {h : Hp} (H : ZD (h 81)) {p m : Int} (p0 : 0 ≤ p) (p1 : p < h 81 24) (h8 : h 80 8 = 0 ∨ h 80 8 = 1) (m0 : 0 ≤ m ∧ m < 240) : X (72, 0, [aR 80, aI p, aI m, aN], [], h) = some (some (bi (zOut (h 81) (h 80 8) p m)), h) := by
  have hn := zd_n H
  have hr := zd_row H p0 p1
  have hk := zK_r H (pl := h 80 8) p0 p1
  unfold zmn znu at hr
  rw [e72_0, m_of p0 (by omega) (by decide) (by decide), bI_some, m_kindOf H p0 p1 h8, bI_some, wr_id (x := zK (h 81) (h 80 8) p) (by omega) (by omega), Int.add_zero]
  unfold zOut zmn znu
  by_cases z : zK (h 81) (h 80 8) p = 3
  · rw [cd_f (by omega), m_of p0 (by omega) (by decide) (by decide), bI_some, show 67 + 4 * p + 3 = 70 + 4 * p by omega, wr_id (x := m) (by omega) (by omega), wr_id (x := h 81 (67 + 4 * p) + 5) (by omega) (by omega), wr_id (x := h 81 (67 + 4 * p) + 5 + h 81 (70 + 4 * p) - 1) (by omega) (by omega), s_in h (by omega) (by omega) (by omega), bI_some, d_bi0]
    unfold iin
    by_cases y : h 81 (67 + 4 * p) + 5 ≤ m ∧ m ≤ h 81 (67 + 4 * p) + 5 + h 81 (70 + 4 * p) - 1
    · rw [decide_eq_true y, Bool.not_true, cond_f, decide_eq_true ⟨z, y⟩]; rfl
    · rw [decide_eq_false y, Bool.not_false, cond_t, decide_eq_false (fun x => y x.2)]; rfl
  · rw [cd_t z, decide_eq_false (fun x => z x.1)]; rfl
theorem m_placeOf {h : Hp} (H : ZD (h 81)) {p m : Int} (p0 : 0 ≤ p) (p1 : p < h 81 24) (h8 : h 80 8 = 0 ∨ h 80 8 = 1) (m0 : 0 ≤ m ∧ m < 240) : X (73, 0, [aR 80, aI p, aI m, aN, aN], [], h) = some (some (zPl (h 81) (h 80 8) p m), h) := by
  have hn := zd_n H
  have hr := zd_row H p0 p1
  have hs := zd_s H
  have hk := zK_r H (pl := h 80 8) p0 p1
  unfold zmn znu at hr
  have o0 := m_of (h := h) (a1 := p) (a2 := 0) p0 (by omega) (by decide) (by decide)
  have o3 := m_of (h := h) (a1 := p) (a2 := 3) p0 (by omega) (by decide) (by decide)
  rw [Int.add_zero] at o0
  rw [show 67 + 4 * p + 3 = 70 + 4 * p by omega] at o3
  rw [e73_0, o0, bI_some, o3, bI_some, m_kindOf H p0 p1 h8, bI_some, wr_id (x := zK (h 81) (h 80 8) p) (by omega) (by omega), o0, o3]
  simp only [bI_some]
  unfold zPl zmn znu
  by_cases z : zK (h 81) (h 80 8) p = 4
  · rw [cd_f (by omega), if_pos z]
  · rw [cd_t z, if_neg z]
    by_cases y : zK (h 81) (h 80 8) p = 3
    · rw [cd_f (by omega), wr_id (x := h 81 6) (by omega) (by omega)]
      by_cases x : h 81 6 = 0
      · rw [cd_f (by omega), wr_id (x := m) (by omega) (by omega), wr_id (x := h 81 (67 + 4 * p) + 5 + h 81 (70 + 4 * p)) (by omega) (by omega)]
        by_cases w : m < h 81 (67 + 4 * p) + 5 + h 81 (70 + 4 * p)
        · rw [cd_t w, if_neg (by omega)]
        · rw [cd_f w, if_pos ⟨y, x, by omega⟩]
      · rw [cd_t x, if_neg (fun q => x q.2.1)]
    · rw [cd_t y, if_neg (fun q => y q.1)]
theorem m_lengthOf {h : Hp} (H : ZD (h 81)) {p c : Int} (p0 : 0 ≤ p) (p1 : p < h 81 24) (h8 : h 80 8 = 0 ∨ h 80 8 = 1) (c0 : 0 ≤ c ∧ c < 3) : X (74, 0, [aR 80, aI p, aI c], [], h) = some (some (zLn (h 81) (h 80 8) p c), h) := by
  have hn := zd_n H
  have hr := zd_row H p0 p1
  have hk := zK_r H (pl := h 80 8) p0 p1
  unfold zso at hr
  rw [e74_0, m_of p0 (by omega) (by decide) (by decide), bI_some, show 67 + 4 * p + 2 = 69 + 4 * p by omega, inb_t (by omega) (by omega) (by omega), cond_t, m_sizeOf H p0 p1, bI_some, m_kindOf H p0 p1 h8, bI_some, wr_id (x := zK (h 81) (h 80 8) p) (by omega) (by omega), wr_id (x := 8 + 4 * c + h 81 (69 + 4 * p)) (by omega) (by omega)]
  unfold zLn zso
  by_cases z : zK (h 81) (h 80 8) p = 1
  · rw [cd_f (by omega), if_pos z]
  · rw [cd_t z, if_neg z]
theorem m_isFirst {h : Hp} (H : ZD (h 81)) {a b m : Int} (a0 : 0 ≤ a) (a1 : a < h 81 24) (b0 : 0 ≤ b) (b1 : b < h 81 24) (h8 : h 80 8 = 0 ∨ h 80 8 = 1) (m0 : 0 ≤ m ∧ m < 240) : X (75, 0, [aR 80, aI a, aI b, aI m, aN, aN], [], h) = some (some (bi (zFst (h 81) (h 80 8) a b m)), h) := by
  have hn := zd_n H
  have ra := zPl_r H (pl := h 80 8) (m := m) a0 a1
  have rb := zPl_r H (pl := h 80 8) (m := m) b0 b1
  rw [e75_0, m_placeOf H a0 a1 h8 m0, bI_some, m_placeOf H b0 b1 h8 m0, bI_some, wr_id (x := zPl (h 81) (h 80 8) a m) (by omega) (by omega), wr_id (x := zPl (h 81) (h 80 8) b m) (by omega) (by omega), wr_id (x := a) (by omega) (by omega), wr_id (x := b) (by omega) (by omega)]
  unfold zFst
  by_cases z : zPl (h 81) (h 80 8) a m < zPl (h 81) (h 80 8) b m
  · rw [cd_t z, decide_eq_true (Or.inl z)]; rfl
  · rw [cd_f z]
    by_cases y : zPl (h 81) (h 80 8) a m = zPl (h 81) (h 80 8) b m
    · rw [cd_f (by omega)]
      by_cases x : a < b
      · rw [cd_f (by omega), decide_eq_true (Or.inr ⟨y, x⟩)]; rfl
      · rw [cd_t (by omega), decide_eq_false (by omega)]; rfl
    · rw [cd_t y, decide_eq_false (by omega)]; rfl
theorem m_isPairL {h : Hp} (H : ZD (h 81)) {a b : Int} (ra : 0 ≤ a ∧ a < 6) (rb : 0 ≤ b ∧ b < 6) : ∀ (n k : Nat), (k : Int) + n = h 81 25 → X (62, 5, [aR 80, aI a, aI b, aI (bi (zPr (h 81) a b k)), aI k], [], h) = some (some (bi (zPr (h 81) a b (k + n))), h)
  | 0, k, hk => by
    have hp := zd_m H
    rw [e62_5, wr_id (x := h 81 25) (by omega) (by omega), wr_id (by omega) (by omega), cd_t (by omega), bz_bi, cond_t]
    rfl
  | n + 1, k, hk => by
    have hp := zd_m H
    have hw := H.2.2.2.2.1.2 k (by omega) (by show (k : Int) < h 81 25; omega)
    have hw1 : (0 ≤ h 81 (26 + 2 * (k : Int)) ∧ h 81 (26 + 2 * (k : Int)) < 6) ∧ (0 ≤ h 81 (27 + 2 * (k : Int)) ∧ h 81 (27 + 2 * (k : Int)) < 6) := hw
    have ih := m_isPairL H ra rb n (k + 1) (by omega)
    have es : zPr (h 81) a b (k + 1) = (zPr (h 81) a b k || decide (h 81 (26 + 2 * (k : Int)) = a ∧ h 81 (27 + 2 * (k : Int)) = b)) := rfl
    rw [e62_5, wr_id (x := h 81 25) (by omega) (by omega), wr_id (x := (k : Int)) (by omega) (by omega), cd_f (by omega), d_bi1]
    rw [show ((k + 1 : Nat) : Int) = (k : Int) + 1 by omega, show k + 1 + n = k + (n + 1) by omega] at ih
    cases hz : zPr (h 81) a b k
    · rw [hz, Bool.false_or] at es
      rw [es] at ih
      rw [cond_f, inb_t (by omega) (by omega) (by omega), cond_t, wr_id (x := 26 + 2 * (k : Int)) (by omega) (by omega), wr_id (x := h 81 (26 + 2 * (k : Int))) (by omega) (by omega), wr_id (x := a) (by omega) (by omega)]
      by_cases y1 : h 81 (26 + 2 * (k : Int)) = a
      · rw [cd_f (by omega), inb_t (by omega) (by omega) (by omega), cond_t, show 26 + 2 * (k : Int) + 1 = 27 + 2 * (k : Int) by omega, wr_id (x := 27 + 2 * (k : Int)) (by omega) (by omega), wr_id (x := h 81 (27 + 2 * (k : Int))) (by omega) (by omega), wr_id (x := b) (by omega) (by omega)]
        by_cases y2 : h 81 (27 + 2 * (k : Int)) = b
        · rw [cd_f (by omega)]
          rw [decide_eq_true ⟨y1, y2⟩] at ih
          exact ih
        · rw [cd_t y2]
          rw [decide_eq_false (fun q => y2 q.2)] at ih
          exact ih
      · rw [cd_t y1]
        rw [decide_eq_false (fun q => y1 q.1)] at ih
        exact ih
    · rw [hz, Bool.true_or] at es
      rw [es] at ih
      rw [cond_t]
      exact ih
theorem m_isPair {h : Hp} (H : ZD (h 81)) {a b : Int} (ra : 0 ≤ a ∧ a < 6) (rb : 0 ≤ b ∧ b < 6) : X (62, 0, [aR 80, aI a, aI b, aN, aN], [], h) = some (some (bi (zP (h 81) a b)), h) := by
  have hp := zd_m H
  have q := m_isPairL H ra rb (h 81 25).toNat 0 (by omega)
  rw [Nat.zero_add] at q
  rw [e62_0]
  exact q
theorem m_goesBefore {h : Hp} (H : ZD (h 81)) {a b c m : Int} (a0 : 0 ≤ a) (a1 : a < h 81 24) (b0 : 0 ≤ b) (b1 : b < h 81 24) (c0 : 0 ≤ c ∧ c < 3) (h8 : h 80 8 = 0 ∨ h 80 8 = 1) (hr : 0 ≤ h 80 6 ∧ h 80 6 ≤ 2) (m0 : 0 ≤ m ∧ m < 240) : X (76, 0, [aR 80, aI a, aI b, aI c, aI m, aN, aN], [], h) = some (some (bi (zGB (h 81) (h 80 8) (h 80 6) a b c m)), h) := by
  have ka := zK_r H (pl := h 80 8) a0 a1
  have kb := zK_r H (pl := h 80 8) b0 b1
  have la := zLn_r H (pl := h 80 8) a0 a1 c0
  have lb := zLn_r H (pl := h 80 8) b0 b1 c0
  rw [e76_0, wr_id (x := h 80 6) (by omega) (by omega)]
  unfold zGB
  by_cases z : h 80 6 = 1
  · rw [cd_f (by omega), if_pos z, m_kindOf H a0 a1 h8, bI_some, m_kindOf H b0 b1 h8, bI_some, m_isPair H ka kb, bI_some, m_kindOf H b0 b1 h8, bI_some, m_kindOf H a0 a1 h8, bI_some, m_isPair H kb ka, bI_some, wr_bi, wr_bi, m_isFirst H a0 a1 b0 b1 h8 m0, bI_some, bz_bi, bz_bi, cond_t, cond_t]
    cases zP (h 81) (zK (h 81) (h 80 8) a) (zK (h 81) (h 80 8) b) <;> cases zP (h 81) (zK (h 81) (h 80 8) b) (zK (h 81) (h 80 8) a) <;> rfl
  · rw [cd_t z, if_neg z, m_lengthOf H a0 a1 h8 c0, bI_some, m_lengthOf H b0 b1 h8 c0, bI_some, wr_id (x := h 80 6) (by omega) (by omega), wr_id (x := zLn (h 81) (h 80 8) a c) (by omega) (by omega), wr_id (x := zLn (h 81) (h 80 8) b c) (by omega) (by omega), m_isFirst H a0 a1 b0 b1 h8 m0, bI_some, bz_bi, cond_t]
    by_cases y : h 80 6 = 2
    · rw [cd_f (by omega)]
      by_cases x : zLn (h 81) (h 80 8) a c = zLn (h 81) (h 80 8) b c
      · rw [cd_t x, if_neg (fun q => q.2 x)]
      · rw [cd_f x, if_pos ⟨y, x⟩]
        by_cases w : zLn (h 81) (h 80 8) b c ≤ zLn (h 81) (h 80 8) a c
        · rw [cd_t w, decide_eq_false (by omega)]; rfl
        · rw [cd_f w, decide_eq_true (by omega)]; rfl
    · rw [cd_t y, if_neg (fun q => y q.1)]
theorem m_waitsFor {h : Hp} (H : ZD (h 81)) {p c m : Int} (p0 : 0 ≤ p) (p1 : p < h 81 24) (c0 : 0 ≤ c ∧ c < 3) (h8 : h 80 8 = 0 ∨ h 80 8 = 1) (m0 : 0 ≤ m ∧ m < 240) (hf : 0 ≤ h 84 p ∧ h 84 p ≤ 4) : X (77, 0, [aR 80, aI p, aI c, aI m], [], h) = some (some (bi (zWF (h 81) (h 80 8) (h 84) p c m)), h) := by
  have hn := zd_n H
  have hr := zd_row H p0 p1
  have hk := zK_r H (pl := h 80 8) p0 p1
  unfold znu at hr
  rw [e77_0, inb_t p0 (by omega) (by omega), cond_t, wr_id (x := p) (by omega) (by omega), wr_id (x := h 84 p) (by omega) (by omega)]
  unfold zWF
  by_cases z : h 84 p = 4
  · rw [cd_f (by omega), decide_eq_true z, Bool.true_and, m_isOut H p0 p1 h8 m0, bI_some, d_bi1]
    cases zOut (h 81) (h 80 8) p m
    · rw [cond_f, m_kindOf H p0 p1 h8, bI_some, wr_id (x := zK (h 81) (h 80 8) p) (by omega) (by omega), Bool.not_false, Bool.true_and]
      by_cases y : zK (h 81) (h 80 8) p = 1
      · rw [cd_f (by omega), m_of p0 (by omega) (by decide) (by decide), bI_some, show 67 + 4 * p + 3 = 70 + 4 * p by omega, wr_id (x := h 81 (70 + 4 * p)) (by omega) (by omega), wr_id (x := c) (by omega) (by omega)]
        unfold znu
        by_cases x : h 81 (70 + 4 * p) = c
        · rw [cd_f (by omega), decide_eq_true (Or.inr x)]; rfl
        · rw [cd_t x, decide_eq_false (by omega)]; rfl
      · rw [cd_t y, decide_eq_true (Or.inl y)]; rfl
    · rw [cond_t]; rfl
  · rw [cd_t z, decide_eq_false z]; rfl
