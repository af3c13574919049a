/-! who is next -/
theorem up_id (h : Hp) (p : Nat) (k : Int) : up h p k (h p k + 0) = h := by
  funext q i
  unfold up
  by_cases c : q = p ∧ i = k
  · rw [if_pos c, c.1, c.2, Int.add_zero]
  · rw [if_neg c]
theorem zFst_iff {Z : Int → Int} {pl a b m : Int} : zFst Z pl a b m = true ↔ (zPl Z pl a m < zPl Z pl b m ∨ (zPl Z pl a m = zPl Z pl b m ∧ a < b)) := by unfold zFst; exact decide_eq_true_iff
theorem zFst_anti {Z : Int → Int} {pl a b m : Int} (hab : a ≠ b) : zFst Z pl a b m = !zFst Z pl b a m := by
  unfold zFst
  by_cases c : zPl Z pl a m < zPl Z pl b m ∨ (zPl Z pl a m = zPl Z pl b m ∧ a < b)
  · rw [decide_eq_true c, decide_eq_false (by omega)]; rfl
  · rw [decide_eq_false c, decide_eq_true (by omega)]; rfl
theorem zFst_tr {Z : Int → Int} {pl a b c m : Int} (h1 : zFst Z pl a b m = true) (h2 : zFst Z pl b c m = true) : zFst Z pl a c m = true := by
  rw [zFst_iff] at h1 h2 ⊢
  omega
theorem zGB_0 (Z : Int → Int) (pl a b c m : Int) : zGB Z pl 0 a b c m = zFst Z pl a b m := by
  unfold zGB
  rw [if_neg (by decide), if_neg (fun q => absurd q.1 (by decide))]
theorem zGB_anti {Z : Int → Int} {pl ru a b c m : Int} (hab : a ≠ b) : zGB Z pl ru a b c m = !zGB Z pl ru b a c m := by
  unfold zGB
  have hf := zFst_anti (Z := Z) (pl := pl) (m := m) hab
  by_cases z : ru = 1
  · rw [if_pos z, if_pos z]
    cases h1 : zP Z (zK Z pl a) (zK Z pl b) <;> cases h2 : zP Z (zK Z pl b) (zK Z pl a)
    · rw [if_pos rfl, if_pos rfl]; exact hf
    · rw [if_neg (by decide), if_neg (by decide)]; rfl
    · rw [if_neg (by decide), if_neg (by decide)]; rfl
    · rw [if_pos rfl, if_pos rfl]; exact hf
  · rw [if_neg z, if_neg z]
    by_cases y : ru = 2
    · by_cases x : zLn Z pl a c = zLn Z pl b c
      · rw [if_neg (fun q => q.2 x), if_neg (fun q => q.2 x.symm)]; exact hf
      · rw [if_pos ⟨y, x⟩, if_pos ⟨y, fun q => x q.symm⟩]
        by_cases w : zLn Z pl a c < zLn Z pl b c
        · rw [decide_eq_true w, decide_eq_false (by omega)]; rfl
        · rw [decide_eq_false w, decide_eq_true (by omega)]; rfl
    · rw [if_neg (fun q => y q.1), if_neg (fun q => y q.1)]; exact hf
theorem zGB_tr {Z : Int → Int} {pl ru a b e c m : Int} (hr : ru ≠ 1) (h1 : zGB Z pl ru a b c m = true) (h2 : zGB Z pl ru b e c m = true) : zGB Z pl ru a e c m = true := by
  unfold zGB at h1 h2 ⊢
  rw [if_neg hr] at h1 h2 ⊢
  by_cases y : ru = 2
  · by_cases x1 : zLn Z pl a c = zLn Z pl b c
    · rw [if_neg (fun q => q.2 x1)] at h1
      by_cases x2 : zLn Z pl b c = zLn Z pl e c
      · rw [if_neg (fun q => q.2 x2)] at h2
        rw [if_neg (fun q => q.2 (x1.trans x2))]
        exact zFst_tr h1 h2
      · rw [if_pos ⟨y, x2⟩] at h2
        have := of_decide_eq_true h2
        rw [if_pos ⟨y, by omega⟩]
        exact decide_eq_true (by omega)
    · rw [if_pos ⟨y, x1⟩] at h1
      have q1 := of_decide_eq_true h1
      by_cases x2 : zLn Z pl b c = zLn Z pl e c
      · rw [if_pos ⟨y, by omega⟩]
        exact decide_eq_true (by omega)
      · rw [if_pos ⟨y, x2⟩] at h2
        have := of_decide_eq_true h2
        rw [if_pos ⟨y, by omega⟩]
        exact decide_eq_true (by omega)
  · rw [if_neg (fun q => y q.1)] at h1 h2 ⊢
    exact zFst_tr h1 h2
/-- none of those from v on that waits goes before p -/
def und (W : Int → Bool) (G : Int → Int → Bool) (p : Int) : Nat → Int → Bool
  | 0, _ => true
  | k + 1, v => (decide (v = p) || !W v || !G v p) && und W G p k (v + 1)
theorem und_iff {W : Int → Bool} {G : Int → Int → Bool} {p : Int} : ∀ (k : Nat) (v : Int), und W G p k v = true ↔ ∀ o, v ≤ o → o < v + k → o ≠ p → W o = true → G o p = false
  | 0, v => ⟨fun _ o a b => by omega, fun _ => rfl⟩
  | k + 1, v => by
    have es : und W G p (k + 1) v = ((decide (v = p) || !W v || !G v p) && und W G p k (v + 1)) := rfl
    rw [es, Bool.and_eq_true, und_iff k (v + 1)]
    constructor
    · rintro ⟨q1, q2⟩ o a b c e
      by_cases hv : o = v
      · subst hv
        rw [decide_eq_false c, e] at q1
        cases hg : G o p
        · rfl
        · rw [hg] at q1; exact absurd q1 (by decide)
      · exact q2 o (by omega) (by omega) c e
    · intro q
      refine ⟨?_, fun o a b c e => q o (by omega) (by omega) c e⟩
      by_cases c : v = p
      · rw [decide_eq_true c]; rfl
      · cases hw : W v
        · rw [decide_eq_false c]; rfl
        · rw [q v (by omega) (by omega) c hw]
          cases decide (v = p) <;> rfl
def Nx (N : Int) (W : Int → Bool) (G F : Int → Int → Bool) (r q : Int) : Prop :=
  (r = -4 ∧ q = 0 ∧ ∀ p, 0 ≤ p → p < N → W p = false) ∨
  ((0 ≤ r ∧ r < N) ∧ W r = true ∧ q = 0 ∧ ∀ o, 0 ≤ o → o < N → o ≠ r → W o = true → G o r = false) ∨
  ((0 ≤ r ∧ r < N) ∧ W r = true ∧ q = 1 ∧ (∀ p, 0 ≤ p → p < N → W p = true → ∃ o, (0 ≤ o ∧ o < N) ∧ o ≠ p ∧ W o = true ∧ G o p = true) ∧ ∀ o, 0 ≤ o → o < N → o ≠ r → W o = true → F r o = true)
section NX
variable {h : Hp}
theorem m_nextIn (H : ZD (h 81)) (h8 : h 80 8 = 0 ∨ h 80 8 = 1) (hr : 0 ≤ h 80 6 ∧ h 80 6 ≤ 2) {c m f p : Int} (c0 : 0 ≤ c ∧ c < 3) (m0 : 0 ≤ m ∧ m < 240) (p0 : 0 ≤ p ∧ p < h 81 24) (hf : ∀ q, 0 ≤ q → q < h 81 24 → 0 ≤ h 84 q ∧ h 84 q ≤ 4) : ∀ (k : Nat) (v : Int) (b : Bool), 0 ≤ v → v + k = h 81 24 → ∃ v5 v6 : Int, X (78, 35, [aR 80, aI c, aI m, aI f, aI p, aI (bi b), aI v], [], h) = cond (b && und (fun q => zWF (h 81) (h 80 8) (h 84) q c m) (fun x y => zGB (h 81) (h 80 8) (h 80 6) x y c m) p k v) (some (some p, h)) (cond (decide (wr f < 0)) (X (78, 6, [aR 80, aI c, aI m, aI p, aI (p + 1), aI v5, aI v6], [], h)) (bI (X (75, 0, [aR 80, aI p, aI f, aI m, aN, aN], [], h)) (fun r1 h1 => cond (decide ((wr r1) = 0)) (X (78, 6, [aR 80, aI c, aI m, aI f, aI (p + 1), aI v5, aI v6], [], h1)) (X (78, 6, [aR 80, aI c, aI m, aI p, aI (p + 1), aI v5, aI v6], [], h1)))))
  | 0, v, b, v0, hk => by
    have hn := zd_n H
    refine ⟨bi b, v, ?_⟩
    rw [e78_35, wr_id (x := h 81 24) (by omega) (by omega), wr_id (x := v) (by omega) (by omega), cd_t (by omega), d_bi0]
    have e0 : und (fun q => zWF (h 81) (h 80 8) (h 84) q c m) (fun x y => zGB (h 81) (h 80 8) (h 80 6) x y c m) p 0 v = true := rfl
    rw [e0, Bool.and_true]
    cases b <;> rfl
  | k + 1, v, b, v0, hk => by
    have hn := zd_n H
    have es : und (fun q => zWF (h 81) (h 80 8) (h 84) q c m) (fun x y => zGB (h 81) (h 80 8) (h 80 6) x y c m) p (k + 1) v = ((decide (v = p) || !zWF (h 81) (h 80 8) (h 84) v c m || !zGB (h 81) (h 80 8) (h 80 6) v p c m) && und (fun q => zWF (h 81) (h 80 8) (h 84) q c m) (fun x y => zGB (h 81) (h 80 8) (h 80 6) x y c m) p k (v + 1)) := rfl
    have ih := fun b => m_nextIn H h8 hr (f := f) c0 m0 p0 hf k (v + 1) b (by omega) (by omega)
    rw [e78_35, wr_id (x := h 81 24) (by omega) (by omega), wr_id (x := v) (by omega) (by omega), cd_f (by omega), d_bi0, es]
    cases b
    · rw [Bool.not_false, cond_t, Bool.false_and]
      have q := ih false
      rw [Bool.false_and] at q
      exact q
    · rw [Bool.not_true, cond_f, wr_id (x := p) (by omega) (by omega), Bool.true_and]
      have qt := ih true
      have qf := ih false
      rw [Bool.true_and] at qt
      rw [Bool.false_and] at qf
      by_cases hv : v = p
      · rw [cd_t hv, decide_eq_true hv, Bool.true_or, Bool.true_or, Bool.true_and]
        exact qt
      · rw [cd_f hv, decide_eq_false hv, Bool.false_or, m_waitsFor H v0 (by omega) c0 h8 m0 (hf v v0 (by omega)), bI_some, d_bi0]
        cases zWF (h 81) (h 80 8) (h 84) v c m
        · rw [Bool.not_false, cond_t, Bool.true_or, Bool.true_and]; exact qt
        · rw [Bool.not_true, cond_f, Bool.false_or, m_goesBefore H v0 (by omega) p0.1 p0.2 c0 h8 hr m0, bI_some, d_bi1]
          cases zGB (h 81) (h 80 8) (h 80 6) v p c m
          · rw [cond_f, Bool.not_false, Bool.true_and]; exact qt
          · rw [cond_t, Bool.not_true, Bool.false_and]; exact qf
theorem m_nextL (H : ZD (h 81)) (h8 : h 80 8 = 0 ∨ h 80 8 = 1) (hr : 0 ≤ h 80 6 ∧ h 80 6 ≤ 2) {c m : Int} (c0 : 0 ≤ c ∧ c < 3) (m0 : 0 ≤ m ∧ m < 240) (hf : ∀ q, 0 ≤ q → q < h 81 24 → 0 ≤ h 84 q ∧ h 84 q ≤ 4) : ∀ (k : Nat) (f p : Int) (w5 w6 : AV), 0 ≤ p → p + k = h 81 24 →
    (∀ o, 0 ≤ o → o < p → zWF (h 81) (h 80 8) (h 84) o c m = true → ∃ x, (0 ≤ x ∧ x < h 81 24) ∧ x ≠ o ∧ zWF (h 81) (h 80 8) (h 84) x c m = true ∧ zGB (h 81) (h 80 8) (h 80 6) x o c m = true) →
    ((f = -4 ∧ ∀ o, 0 ≤ o → o < p → zWF (h 81) (h 80 8) (h 84) o c m = false) ∨ ((0 ≤ f ∧ f < p) ∧ zWF (h 81) (h 80 8) (h 84) f c m = true ∧ ∀ o, 0 ≤ o → o < p → o ≠ f → zWF (h 81) (h 80 8) (h 84) o c m = true → zFst (h 81) (h 80 8) f o m = true)) →
    ∃ r q, X (78, 6, [aR 80, aI c, aI m, aI f, aI p, w5, w6], [], h) = some (some r, up h 80 18 (h 80 18 + q)) ∧ Nx (h 81 24) (fun q => zWF (h 81) (h 80 8) (h 84) q c m) (fun x y => zGB (h 81) (h 80 8) (h 80 6) x y c m) (fun x y => zFst (h 81) (h 80 8) x y m) r q
  | 0, f, p, w5, w6, p0, hk, hdom, hfst => by
    have hn := zd_n H
    have hp : p = h 81 24 := by omega
    rw [e78_6, wr_id (x := h 81 24) (by omega) (by omega), wr_id (x := p) (by omega) (by omega), cd_t (by omega)]
    rcases hfst with ⟨q1, q2⟩ | ⟨q1, q2, q3⟩
    · refine ⟨-4, 0, ?_, Or.inl ⟨rfl, rfl, fun o a b => q2 o a (by omega)⟩⟩
      rw [q1, cd_t (by decide)]
    · refine ⟨f, 1, ?_, Or.inr (Or.inr ⟨⟨q1.1, by omega⟩, q2, rfl, fun o a b e => hdom o a (by omega) e, fun o a b e g => q3 o a (by omega) e g⟩)⟩
      rw [wr_id (x := f) (by omega) (by omega), cd_f (by omega)]
  | k + 1, f, p, w5, w6, p0, hk, hdom, hfst => by
    have hn := zd_n H
    rw [e78_6, wr_id (x := h 81 24) (by omega) (by omega), wr_id (x := p) (by omega) (by omega), cd_f (by omega), m_waitsFor H p0 (by omega) c0 h8 m0 (hf p p0 (by omega)), bI_some, d_bi0]
    cases hw : zWF (h 81) (h 80 8) (h 84) p c m
    · rw [Bool.not_false, cond_t]
      refine m_nextL H h8 hr c0 m0 hf k f (p + 1) w5 w6 (by omega) (by omega) (fun o a b e => ?_) ?_
      · by_cases ho : o = p
        · subst ho; rw [hw] at e; exact absurd e (by decide)
        · exact hdom o a (by omega) e
      · rcases hfst with ⟨q1, q2⟩ | ⟨q1, q2, q3⟩
        · refine Or.inl ⟨q1, fun o a b => ?_⟩
          by_cases ho : o = p
          · subst ho; exact hw
          · exact q2 o a (by omega)
        · refine Or.inr ⟨⟨q1.1, by omega⟩, q2, fun o a b e g => ?_⟩
          by_cases ho : o = p
          · subst ho; rw [hw] at g; exact absurd g (by decide)
          · exact q3 o a (by omega) e g
    · rw [Bool.not_true, cond_f]
      obtain ⟨v5, v6, e⟩ := m_nextIn H h8 hr (f := f) c0 m0 (p := p) ⟨p0, by omega⟩ hf (h 81 24).toNat 0 true (by omega) (by omega)
      rw [show (1 : Int) = bi true from rfl, e, Bool.true_and]
      cases hu : und (fun q => zWF (h 81) (h 80 8) (h 84) q c m) (fun x y => zGB (h 81) (h 80 8) (h 80 6) x y c m) p (h 81 24).toNat 0
      · rw [cond_f]
        have hex : ∃ x, (0 ≤ x ∧ x < h 81 24) ∧ x ≠ p ∧ zWF (h 81) (h 80 8) (h 84) x c m = true ∧ zGB (h 81) (h 80 8) (h 80 6) x p c m = true := by
          apply Classical.byContradiction
          intro hne
          have : und (fun q => zWF (h 81) (h 80 8) (h 84) q c m) (fun x y => zGB (h 81) (h 80 8) (h 80 6) x y c m) p (h 81 24).toNat 0 = true := by
            rw [und_iff]
            intro o a b e g
            cases hg : zGB (h 81) (h 80 8) (h 80 6) o p c m
            · rfl
            · exact absurd ⟨o, ⟨a, by omega⟩, e, g, hg⟩ hne
          rw [hu] at this
          exact absurd this (by decide)
        have hdom2 : ∀ o, 0 ≤ o → o < p + 1 → zWF (h 81) (h 80 8) (h 84) o c m = true → ∃ x, (0 ≤ x ∧ x < h 81 24) ∧ x ≠ o ∧ zWF (h 81) (h 80 8) (h 84) x c m = true ∧ zGB (h 81) (h 80 8) (h 80 6) x o c m = true := by
          intro o a b e
          by_cases ho : o = p
          · subst ho; exact hex
          · exact hdom o a (by omega) e
        rcases hfst with ⟨q1, q2⟩ | ⟨q1, q2, q3⟩
        · rw [q1, cd_t (by decide)]
          refine m_nextL H h8 hr c0 m0 hf k p (p + 1) (aI v5) (aI v6) (by omega) (by omega) hdom2 (Or.inr ⟨⟨p0, by omega⟩, hw, fun o a b e g => ?_⟩)
          have := q2 o a (by omega)
          rw [this] at g; exact absurd g (by decide)
        · rw [wr_id (x := f) (by omega) (by omega), cd_f (by omega), m_isFirst H p0 (by omega) q1.1 (by omega) h8 m0, bI_some, d_bi0]
          cases hz : zFst (h 81) (h 80 8) p f m
          · rw [Bool.not_false, cond_t]
            refine m_nextL H h8 hr c0 m0 hf k f (p + 1) (aI v5) (aI v6) (by omega) (by omega) hdom2 (Or.inr ⟨⟨q1.1, by omega⟩, q2, fun o a b e g => ?_⟩)
            by_cases ho : o = p
            · subst ho
              have := zFst_anti (Z := h 81) (pl := h 80 8) (m := m) (a := f) (b := o) (by omega)
              rw [this, hz]; rfl
            · exact q3 o a (by omega) e g
          · rw [Bool.not_true, cond_f]
            refine m_nextL H h8 hr c0 m0 hf k p (p + 1) (aI v5) (aI v6) (by omega) (by omega) hdom2 (Or.inr ⟨⟨p0, by omega⟩, hw, fun o a b e g => ?_⟩)
            by_cases ho : o = f
            · subst ho; exact hz
            · exact zFst_tr hz (q3 o a (by omega) ho g)
      · rw [cond_t]
        refine ⟨p, 0, by rw [up_id], Or.inr (Or.inl ⟨⟨p0, by omega⟩, hw, rfl, fun o a b e g => ?_⟩)⟩
        exact (und_iff _ _).mp hu o a (by omega) e g
theorem m_nextFor (H : ZD (h 81)) (h8 : h 80 8 = 0 ∨ h 80 8 = 1) (hr : 0 ≤ h 80 6 ∧ h 80 6 ≤ 2) {c m : Int} (c0 : 0 ≤ c ∧ c < 3) (m0 : 0 ≤ m ∧ m < 240) (hf : ∀ q, 0 ≤ q → q < h 81 24 → 0 ≤ h 84 q ∧ h 84 q ≤ 4) : ∃ r q, X (78, 0, [aR 80, aI c, aI m, aN, aN, aN, aN], [], h) = some (some r, up h 80 18 (h 80 18 + q)) ∧ Nx (h 81 24) (fun q => zWF (h 81) (h 80 8) (h 84) q c m) (fun x y => zGB (h 81) (h 80 8) (h 80 6) x y c m) (fun x y => zFst (h 81) (h 80 8) x y m) r q := by
  have hn := zd_n H
  rw [e78_0]
  exact m_nextL H h8 hr c0 m0 hf (h 81 24).toNat (-4) 0 aN aN (by omega) (by omega) (fun o a b => by omega) (Or.inl ⟨rfl, fun o a b => by omega⟩)
end NX
