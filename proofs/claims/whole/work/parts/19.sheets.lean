/-! shifts as numbers -/
theorem sh_n : ∀ n, n < 32 → (((Int32.ofInt (n : Nat)) &&& 31).toBitVec.smod 32).toNat = n := by decide +kernel
theorem jshr_eq (x : Int) {k : Nat} (hk : k < 32) : jshr x (k : Int) = wr x / 2 ^ k := by
  unfold jshr
  rw [← wr_eq x]
  show ((Int32.ofInt x >>> (Int32.ofInt (k : Int) &&& 31)).toBitVec).toInt = _
  rw [Int32.toBitVec_shiftRight, BitVec.toInt_sshiftRight']
  rw [show ((Int32.ofInt (k : Int) &&& 31).toBitVec.smod 32).toNat = k from sh_n k hk]
  rw [Int.shiftRight_eq_div_pow]
  rfl
theorem jshl_eq (x : Int) {k : Nat} (hk : k < 32) : jshl x (k : Int) = wr (x * 2 ^ k) := by
  unfold jshl
  show ((Int32.ofInt x <<< (Int32.ofInt (k : Int) &&& 31)).toBitVec).toInt = _
  rw [Int32.toBitVec_shiftLeft, BitVec.shiftLeft_eq', BitVec.toInt_shiftLeft]
  rw [show ((Int32.ofInt (k : Int) &&& 31).toBitVec.smod 32).toNat = k from sh_n k hk]
  rw [Nat.shiftLeft_eq]
  have e : ((Int32.ofInt x).toBitVec.toNat : Int) = x % 4294967296 := by
    show ((BitVec.ofInt 32 x).toNat : Int) = _
    rw [BitVec.toNat_ofInt]
    omega
  rw [Int.natCast_mul, e, Int.bmod_def]
  have e2 : ((2 ^ k : Nat) : Int) = 2 ^ k := by rw [Int.natCast_pow]; rfl
  rw [e2]
  generalize (2 : Int) ^ k = q
  have : x % 4294967296 * q % 4294967296 = x * q % 4294967296 := by rw [Int.mul_emod, Int.emod_emod, ← Int.mul_emod]
  have e3 : ((2 ^ 32 : Nat) : Int) = 4294967296 := by decide
  rw [e3, this]
  unfold wr
  generalize x * q = y
  split <;> omega
theorem jbyte_eq (x : Int) : jbyte x = jshr (jshl x 24) 24 := by
  rw [show (24 : Int) = ((24 : Nat) : Int) from rfl, jshl_eq x (by decide), jshr_eq _ (by decide), wr_wr]
  unfold jbyte
  rw [Int8.toInt_toInt32, Int32.toInt_toInt8, wr_eq, Int.bmod_def]
  unfold wr
  have e3 : ((2 ^ 8 : Nat) : Int) = 256 := by decide
  rw [e3]
  have e4 : (2 : Int) ^ 24 = 16777216 := by decide
  rw [e4]
  split <;> omega
theorem jshort_eq (x : Int) : jshort x = jshr (jshl x 16) 16 := by
  rw [show (16 : Int) = ((16 : Nat) : Int) from rfl, jshl_eq x (by decide), jshr_eq _ (by decide), wr_wr]
  unfold jshort
  rw [Int16.toInt_toInt32, Int32.toInt_toInt16, wr_eq, Int.bmod_def]
  unfold wr
  have e3 : ((2 ^ 16 : Nat) : Int) = 65536 := by decide
  rw [e3]
  have e4 : (2 : Int) ^ 16 = 65536 := by decide
  rw [e4]
  split <;> omega
def sl (a b : Int) : Bool := decide ((0 ≤ a ∧ a < 4) ∧ (0 ≤ b ∧ b < 3))
theorem s_asl (a0 a1 : Int) (h : Hp) : X (36, 0, [aI a0, aI a1], [], h) = some (some (bi (sl (wr a0) (wr a1))), h) := by
  rw [e36_0, s_below a0 4 (by omega), bI_some, d_bi0]
  unfold sl
  by_cases p1 : 0 ≤ wr a0 ∧ wr a0 < 4
  · rw [decide_eq_true p1, Bool.not_true, cond_f, s_below a1 3 (by omega), bI_some, d_bi0]
    by_cases p2 : 0 ≤ wr a1 ∧ wr a1 < 3
    · rw [decide_eq_true p2, Bool.not_true, cond_f, decide_eq_true ⟨p1, p2⟩]; rfl
    · rw [decide_eq_false p2, Bool.not_false, cond_t, decide_eq_false (fun z => p2 z.2)]; rfl
  · rw [decide_eq_false p1, Bool.not_false, cond_t, decide_eq_false (fun z => p1 z.1)]; rfl
theorem m_isSheet (a0 a1 : Int) (h : Hp) : X (113, 0, [aI a0, aI a1], [], h) = some (some (bi (sl (wr a0) (wr a1))), h) := by
  rw [e113_0, s_inw h (by omega) (by omega), bI_some, d_bi0]
  unfold sl iin
  by_cases p1 : 0 ≤ wr a0 ∧ wr a0 ≤ 3
  · rw [decide_eq_true p1, Bool.not_true, cond_f, s_inw h (by omega) (by omega), bI_some, d_bi0]
    unfold iin
    by_cases p2 : 0 ≤ wr a1 ∧ wr a1 ≤ 2
    · rw [decide_eq_true p2, Bool.not_true, cond_f, decide_eq_true ⟨⟨p1.1, by omega⟩, ⟨p2.1, by omega⟩⟩]; rfl
    · rw [decide_eq_false p2, Bool.not_false, cond_t, decide_eq_false (by omega)]; rfl
  · rw [decide_eq_false p1, Bool.not_false, cond_t, decide_eq_false (by omega)]; rfl
/-- noughts from lo on, below hi -/
def fl (h : Hp) (p : Nat) (lo hi : Int) : Hp := fun q i => if q = p ∧ lo ≤ i ∧ i < hi then 0 else h q i
theorem fl_0 (h : Hp) (p : Nat) {lo hi : Int} (hl : hi ≤ lo) : fl h p lo hi = h := by
  funext q i
  unfold fl
  rw [if_neg (by omega)]
theorem fl_s (h : Hp) (p : Nat) {lo hi : Int} (hl : lo < hi) : fl (up h p lo 0) p (lo + 1) hi = fl h p lo hi := by
  funext q i
  unfold fl up
  by_cases hq : q = p
  · by_cases hi2 : lo ≤ i ∧ i < hi
    · rw [if_pos (c := q = p ∧ lo ≤ i ∧ i < hi) ⟨hq, hi2⟩]
      by_cases h3 : i = lo
      · rw [if_neg (by omega), if_pos ⟨hq, h3⟩]
      · rw [if_pos ⟨hq, by omega, hi2.2⟩]
    · rw [if_neg (c := q = p ∧ lo ≤ i ∧ i < hi) (fun z => hi2 z.2), if_neg (by omega), if_neg (by omega)]
  · rw [if_neg (fun z => hq z.1), if_neg (fun z => hq z.1), if_neg (fun z => hq z.1)]
theorem fl_o (h : Hp) {p q : Nat} (lo hi : Int) (hq : q ≠ p) : fl h p lo hi q = h q := by
  funext i; unfold fl; rw [if_neg (fun z => hq z.1)]
theorem s_renewL {a1 a2 a3 : Int} (h1 : 0 ≤ a1 ∧ a1 < 4) : ∀ (n : Nat) (v : Int) (h : Hp), 0 ≤ v → v + n = 24 → X (172, 17, [aR 72, aI a1, aI a2, aI a3, aI v], [], h) = some (none, fl h 75 (24 * a1 + v) (24 * a1 + 24))
  | 0, v, h, h0, hn => by
    rw [e172_17, wr_id (by omega) (by omega), cd_t (by omega), fl_0 _ _ (by omega)]
  | n + 1, v, h, h0, hn => by
    rw [e172_17, wr_id (x := v) (by omega) (by omega), cd_f (by omega), inb_t (by omega) (by omega) (by omega), cond_t, s_renewL h1 n (v + 1) _ (by omega) (by omega), wr_id (x := a1 * 24 + v) (by omega) (by omega), show a1 * 24 + v = 24 * a1 + v by omega, show 24 * a1 + (v + 1) = (24 * a1 + v) + 1 by omega, fl_s _ _ (by omega)]
theorem m_renewL {a1 a2 a3 : Int} (h1 : 0 ≤ a1 ∧ a1 < 4) : ∀ (n : Nat) (v : Int) (h : Hp), 0 ≤ v → v + n = 24 → X (114, 40, [aR 80, aI a1, aI a2, aI a3, aI v], [], h) = some (some a3, fl h 97 (24 * a1 + v) (24 * a1 + 24))
  | 0, v, h, h0, hn => by
    rw [e114_40, wr_id (by omega) (by omega), cd_t (by omega), fl_0 _ _ (by omega)]
  | n + 1, v, h, h0, hn => by
    rw [e114_40, wr_id (x := v) (by omega) (by omega), cd_f (by omega), inb_t (by omega) (by omega) (by omega), cond_t, m_renewL h1 n (v + 1) _ (by omega) (by omega), wr_id (x := 24 * a1 + v) (by omega) (by omega), show 24 * a1 + (v + 1) = (24 * a1 + v) + 1 by omega, fl_s _ _ (by omega)]
theorem s_renew {a1 a2 a3 : Int} (h1 : 0 ≤ a1 ∧ a1 < 4) (h : Hp) : X (172, 0, [aR 72, aI a1, aI a2, aI a3, aN], [], h) = some (none, fl (up (up h 73 a1 a2) 74 a1 a3) 75 (24 * a1) (24 * a1 + 24)) := by
  rw [e172_0, inb_t h1.1 h1.2 (by omega), cond_t, cond_t, wr_id (by omega) (by omega), s_renewL h1 24 0 _ (by omega) (by omega), Int.add_zero]
theorem inv_sh {L : Nat} {xs : Nat → Int32} {h g : Hp} (hI : Inv L xs h) (f : ∀ p, ¬ (p = 73 ∨ p = 74 ∨ p = 75 ∨ p = 95 ∨ p = 96 ∨ p = 97) → g p = h p) (hs : Sh g) : Inv L xs g := by
  obtain ⟨q1, q2, q3, q4, q5, q6, q7, q8⟩ := hI
  refine ⟨fun p hp => by rw [f p (by omega)]; exact q1 p hp, RR_congr (fun p hp => f p (by omega)) (by rw [f _ (by decide)]) (by rw [f _ (by decide)]) (by rw [f _ (by decide)]) (f _ (by decide)) q2, Zz_congr (f _ (by decide)) q3, Kp_congr (by rw [f _ (by decide)]) (by rw [f _ (by decide)]) (fun p h1 h2 => f p (by omega)) (f _ (by decide)) q4, Tp_congr (by rw [f _ (by decide)]) (by rw [f _ (by decide)]) (f _ (by decide)) (f _ (by decide)) q5, hs, ?_, Dr_congr (by rw [f _ (by decide)]) (by rw [f _ (by decide)]) (f _ (by decide)) (f _ (by decide)) q8⟩
  rw [f 1 (by decide)]
  exact q7.imp (fun ⟨y1, y2⟩ => ⟨y1, Fd_congr (fun p hp => f p (by omega)) (by rw [f 1 (by decide)]) y2⟩) id
theorem case_31 (L : Nat) (xs : Nat → Int32) : Cs_31 L xs := by
  intro h hI a1 a2 a3 r1 r2 r3
  have hS := hI.1
  have e1 : wr a1 = a1 := wr_id r1.1 r1.2
  have e2 : wr a2 = a2 := wr_id r2.1 r2.2
  have e3 : wr a3 = a3 := wr_id r3.1 r3.2
  have q1 : X (31, 0, [aR 0, aI a1, aI a2, aI a3], [], h) = if sl a1 a2 = true ∧ a3 ≤ 24 then (if 0 ≤ a3 then some (some a3, fl (up (up h 73 a1 a2) 74 a1 a3) 75 (24 * a1) (24 * a1 + 24)) else some (some (-14), h)) else some (some (-1), h) := by
    rw [e31_0, s_asl, bI_some, d_bi0, e1, e2, e3]
    cases hs : sl a1 a2
    · rw [Bool.not_false, cond_t, if_neg (by simp)]
    · rw [Bool.not_true, cond_f]
      have hs' : (0 ≤ a1 ∧ a1 < 4) ∧ (0 ≤ a2 ∧ a2 < 3) := of_decide_eq_true hs
      by_cases p1 : a3 ≤ 24
      · rw [cd_t p1, if_pos ⟨rfl, p1⟩]
        by_cases p2 : 0 ≤ a3
        · rw [cd_t p2, if_pos p2, s_renew hs'.1, bV_some]
        · rw [cd_f p2, if_neg p2]
      · rw [cd_f p1, if_neg (fun z => p1 z.2)]
  have q2 : ∀ g, X (114, 0, [aR 80, aI a1, aI a2, aI a3, aN], [], g) = if sl a1 a2 = true ∧ a3 ≤ 24 then (if 0 ≤ a3 then some (some a3, fl (up (up g 95 a1 a2) 96 a1 a3) 97 (24 * a1) (24 * a1 + 24)) else some (some (-14), g)) else some (some (-1), g) := by
    intro g
    rw [e114_0, m_isSheet, bI_some, d_bi0, e1, e2, e3]
    cases hs : sl a1 a2
    · rw [Bool.not_false, cond_t, if_neg (by simp)]
    · rw [Bool.not_true, cond_f]
      have hs' : (0 ≤ a1 ∧ a1 < 4) ∧ (0 ≤ a2 ∧ a2 < 3) := of_decide_eq_true hs
      by_cases p1 : a3 ≤ 24
      · rw [cd_t p1, if_pos ⟨rfl, p1⟩]
        by_cases p2 : 0 ≤ a3
        · rw [cd_t p2, if_pos p2, inb_t hs'.1.1 hs'.1.2 (by omega), cond_t, cond_t, m_renewL hs'.1 24 0 _ (by omega) (by omega), Int.add_zero]
        · rw [cd_f p2, if_neg p2]
      · rw [cd_f p1, if_neg (fun z => p1 z.2)]
  by_cases p : sl a1 a2 = true ∧ a3 ≤ 24
  · by_cases p0 : 0 ≤ a3
    · have hs' : (0 ≤ a1 ∧ a1 < 4) ∧ (0 ≤ a2 ∧ a2 < 3) := of_decide_eq_true p.1
      refine ⟨_, _, _, q1.trans (by rw [if_pos p, if_pos p0]), fun z hz => ?_, (q2 _).trans (by rw [if_pos p, if_pos p0]), ?_⟩
      · rw [fl_o _ _ _ (by omega), up_n _ _ _ (by omega), up_n _ _ _ (by omega)]; exact hS z hz
      · generalize hg : fl (up (up (fl (up (up h 73 a1 a2) 74 a1 a3) 75 (24 * a1) (24 * a1 + 24)) 95 a1 a2) 96 a1 a3) 97 (24 * a1) (24 * a1 + 24) = g
        have f : ∀ p, ¬ (p = 73 ∨ p = 74 ∨ p = 75 ∨ p = 95 ∨ p = 96 ∨ p = 97) → g p = h p := fun p hp => by
          rw [← hg, fl_o _ _ _ (by omega), up_n _ _ _ (by omega), up_n _ _ _ (by omega), fl_o _ _ _ (by omega), up_n _ _ _ (by omega), up_n _ _ _ (by omega)]
        have g73 : ∀ s, g 73 s = if s = a1 then a2 else h 73 s := fun s => by
          rw [← hg, fl_o _ _ _ (by decide), up_n _ _ _ (by decide), up_n _ _ _ (by decide), fl_o _ _ _ (by decide), up_n _ _ _ (by decide)]
          unfold up; simp
        have g74 : ∀ s, g 74 s = if s = a1 then a3 else h 74 s := fun s => by
          rw [← hg, fl_o _ _ _ (by decide), up_n _ _ _ (by decide), up_n _ _ _ (by decide), fl_o _ _ _ (by decide)]
          unfold up; simp
        have g75 : ∀ s, g 75 s = if 24 * a1 ≤ s ∧ s < 24 * a1 + 24 then 0 else h 75 s := fun s => by
          rw [← hg, fl_o _ _ _ (by decide), up_n _ _ _ (by decide), up_n _ _ _ (by decide)]
          unfold fl up; simp
        have g95 : ∀ s, g 95 s = if s = a1 then a2 else h 95 s := fun s => by
          rw [← hg, fl_o _ _ _ (by decide), up_n _ _ _ (by decide)]
          unfold fl up; simp
        have g96 : ∀ s, g 96 s = if s = a1 then a3 else h 96 s := fun s => by
          rw [← hg, fl_o _ _ _ (by decide)]
          unfold fl up; simp
        have g97 : ∀ s, g 97 s = if 24 * a1 ≤ s ∧ s < 24 * a1 + 24 then 0 else h 97 s := fun s => by
          rw [← hg]
          unfold fl up; simp
        refine inv_sh hI f (fun s s1 s2 => ?_)
        obtain ⟨y1, y2, y3⟩ := hI.2.2.2.2.2.1 s s1 s2
        rw [g73, g74, g95, g96]
        by_cases hs : s = a1
        · rw [if_pos hs, if_pos hs, if_pos hs, if_pos hs]
          refine ⟨rfl, by omega, fun _ => ⟨rfl, by omega, fun i i1 i2 => ?_⟩⟩
          rw [g75, g97, if_pos (by omega), if_pos (by omega)]
          exact ⟨rfl, by decide, by decide⟩
        · rw [if_neg hs, if_neg hs, if_neg hs, if_neg hs]
          refine ⟨y1, y2, fun z => ⟨(y3 z).1, (y3 z).2.1, fun i i1 i2 => ?_⟩⟩
          rw [g75, g97, if_neg (by omega), if_neg (by omega)]
          exact (y3 z).2.2 i i1 i2
    · exact ⟨-14, h, h, q1.trans (by rw [if_pos p, if_neg p0]), hS, (q2 h).trans (by rw [if_pos p, if_neg p0]), hI⟩
  · exact ⟨-1, h, h, q1.trans (by rw [if_neg p]), hS, (q2 h).trans (by rw [if_neg p]), hI⟩
