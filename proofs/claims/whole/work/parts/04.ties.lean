/-! SOUNDNESS, the ties to the machine -/
def cv (ad : Nat → Nat) : AV → Value
  | Sum.inl x => .int (Int32.ofInt x)
  | Sum.inr (Sum.inl p) => .ref (ad p)
  | Sum.inr (Sum.inr (Sum.inl x)) => .long (Int64.ofInt x)
  | Sum.inr (Sum.inr (Sum.inr _)) => .null
def nn : AV → Bool
  | Sum.inr (Sum.inr (Sum.inr _)) => false
  | _ => true
def fvs (ad : Nat → Nat) (h : Hp) (p c : Nat) : List Value := (List.range (fdN c)).map (fun k => match fo c k with
  | some o => Value.ref (ad (p + o))
  | none => Value.int (Int32.ofInt (h p (k : Nat))))
def ce (ad : Nat → Nat) (cI : ClassId) (h : Hp) (p : Nat) : va_E := if clsO p < 11 then Sum.inr (clsO p, fvs ad h p (clsO p)) else Sum.inl (cI, lenA p, Sum.inl (fun j => Int32.ofInt (h p (j : Nat))))
def mk (ad : Nat → Nat) (cI : ClassId) (h : Hp) : va_W := (List.range 98).map (fun p => (ad p, ce ad cI h p))
def lenT (o : Hp) (p : Nat) : Nat := if p = 102 then (o 103 0).toNat else lenA p
def Out (ad : Nat → Nat) (A : Nat → Prop) (o : Hp) (U : State) : Prop := (∀ j, j < 4 → va_Z "NodBench" (snm j) "[I" (.ref (ad (98 + j))) A U U.heap) ∧ (∀ p, 98 ≤ p → p < 103 → va_T .int (ad p) (lenT o p) (fun j => .int (Int32.ofInt (o p (j : Nat)))) A U U.heap) ∧ ∀ e ∈ nkL, va_Nw (nkw e) U
def Apart (ad : Nat → Nat) (A : Nat → Prop) : Prop := (∀ i j, i < 98 → j < 98 → ad i = ad j → i = j) ∧ ∀ i, i < 98 → A (ad i)
def Fx (D : va_G) (ad : Nat → Nat) (cI : ClassId) (A : Nat → Prop) (o : Hp) (p : Program) (s : State) (m : MethodId) (args : Array Value) (meth : Method) (c : Code) (mi : Nat) : Prop := p.tables.exec = Jvm.exec ∧ c.code = bb mi ∧ c.maxLocals = nl mi ∧ s.vm.findClass (cnm (ow mi)) = some m.cls ∧ (∀ w ∈ tg, w.before args s = true) ∧ va_K D cl [(cI, .int)] s ∧ Out ad A o s ∧ Apart ad A ∧ (0 ≤ o 103 0 ∧ o 103 0 < 2147483648)
def lvH (ad : Nat → Nat) (ls : Array Slot) (n : Nat) (L : List AV) : Prop := ls.size = n ∧ lv_wf ls ∧ L.length = n ∧ ∀ (i : Nat) (v : AV), L[i]? = some v → nn v = true → ls[i]? = some (Slot.val (cv ad v))
def Hd (D : va_G) (ad : Nat → Nat) (cI : ClassId) (A : Nat → Prop) (o : Hp) (s : State) (h : Hp) (H : Heap) (locs : List Loc) : Prop := va_P D cl (mk ad cI h) H ∧ va_S A s.heap H locs ∧ ∀ p, 98 ≤ p → h p = o p
def rv (r : RV) : List Value := (r.1.map (fun x => Value.int (Int32.ofInt x))).toList
def En (D : va_G) (ad : Nat → Nat) (cI : ClassId) (A : Nat → Prop) (o : Hp) (p : Program) (l : Launch) (e : Env) (R : Room) (s : State) (m : MethodId) (args : Array Value) (below : List Frame) (meth : Method) (c : Code) (cells slots : Nat) (Q : State → Prop) (mi : Nat) (r : RV) : Prop :=
  ∀ H1 locs1 pc1 ls1, Hd D ad cI A o s r.2 H1 locs1 → (r.1 = none → rt mi = none ∧ decode (bb mi) pc1 = .ok (.return_, 1)) → (∀ x, r.1 = some x → decode (bb mi) pc1 = .ok (.ireturn, 1) ∧ (rt mi = some .int ∨ (rt mi = some .boolean ∧ bz x = true))) → W p l e R s m args below meth c H1 locs1 cells slots Q (F0 m pc1 ls1 (rv r))
def WS (l : Launch) (D : va_G) (ad : Nat → Nat) (cI : ClassId) (A : Nat → Prop) (o : Hp) (k : Cf) (r : RV) : Prop :=
  ∀ (p : Program) (e : Env) (R : Room) (s : State) (m : MethodId) (args : Array Value) (below : List Frame) (meth : Method) (c : Code) (H : Heap) (locs : List Loc) (ls : Array Slot) (cells slots : Nat) (Q : State → Prop), Fx D ad cI A o p s m args meth c k.1 → rf k.1 ≤ R.frames → rl k.1 ≤ R.locals → cells ≤ R.cells → slots ≤ R.slots → lvH ad ls (nl k.1) k.2.2.1 → Hd D ad cI A o s k.2.2.2.2 H locs → En D ad cI A o p l e R s m args below meth c cells slots Q k.1 r → W p l e R s m args below meth c H locs cells slots Q (F0 m k.2.1 ls (k.2.2.2.1.map (cv ad)))
/-! numbers -/
theorem wr_eq (x : Int) : (Int32.ofInt x).toInt = wr x := by
  rw [Int32.toInt_ofInt]
  show Int.bmod x 4294967296 = _
  unfold wr
  rw [Int.bmod_def]
  split <;> omega
theorem wr_lt (x y : Int) : Int32.ofInt x < Int32.ofInt y ↔ wr x < wr y := by rw [Int32.lt_iff_toInt_lt, wr_eq, wr_eq]
theorem wr_le (x y : Int) : Int32.ofInt x ≤ Int32.ofInt y ↔ wr x ≤ wr y := by rw [Int32.le_iff_toInt_le, wr_eq, wr_eq]
theorem wr_inj (x y : Int) : Int32.ofInt x = Int32.ofInt y ↔ wr x = wr y := by rw [← Int32.toInt_inj, wr_eq, wr_eq]
theorem wr_rng (x : Int) : -2147483648 ≤ wr x ∧ wr x < 2147483648 := by unfold wr; omega
theorem wr_id {x : Int} (h : -2147483648 ≤ x) (h2 : x < 2147483648) : wr x = x := by unfold wr; omega
theorem of_wr (x : Int) : Int32.ofInt (wr x) = Int32.ofInt x := by rw [← wr_eq, Int32.ofInt_toInt]
theorem wr_0 : wr 0 = 0 := by decide
theorem in_at {i : Int} {n : Nat} (h : inb n i = true) : vp_in (Int32.ofInt i) n ∧ ((Int32.ofInt i).toNatClampNeg : Int) = wr i ∧ (Int32.ofInt i).toNatClampNeg < n := by
  have h1 := of_decide_eq_true h
  have h2 : ((Int32.ofInt i).toNatClampNeg : Int) = wr i := by
    rw [Int32.toNatClampNeg, wr_eq]
    omega
  have h3 : (Int32.ofInt i).toNatClampNeg < n := by omega
  refine ⟨fun q => ?_, h2, h3⟩
  rcases q with q | q
  · rw [show (0 : Int32) = Int32.ofInt 0 from rfl, wr_lt, wr_0] at q
    omega
  · omega
/-! the world as a list -/
theorem mk_len (ad : Nat → Nat) (cI : ClassId) (h : Hp) : (mk ad cI h).length = 98 := by simp [mk]
theorem mk_get (ad : Nat → Nat) (cI : ClassId) (h : Hp) {p : Nat} (hp : p < 98) : (mk ad cI h)[p]? = some (ad p, ce ad cI h p) := by
  simp [mk, hp]
theorem mk_D {ad : Nat → Nat} {cI : ClassId} {A : Nat → Prop} (ha : Apart ad A) (h : Hp) : va_D A (mk ad cI h) := by
  have key : ∀ (i : Nat) (q : Nat × va_E), (mk ad cI h)[i]? = some q → i < 98 ∧ q.1 = ad i := by
    intro i q hq
    have hi : i < 98 := by
      have := (List.getElem?_eq_some_iff.mp hq).1
      rwa [mk_len] at this
    rw [mk_get ad cI h hi] at hq
    cases hq
    exact ⟨hi, rfl⟩
  refine ⟨fun i j x y hi hj hxy => ?_, fun k q hk => ?_⟩
  · obtain ⟨h1, h2⟩ := key i x hi
    obtain ⟨h3, h4⟩ := key j y hj
    exact ha.1 i j h1 h3 (by rw [← h2, ← h4, hxy])
  · obtain ⟨h1, h2⟩ := key k q hk
    rw [h2]
    exact ha.2 k h1
theorem mk_set {ad : Nat → Nat} {cI : ClassId} {h h1 : Hp} {p : Nat} {e : va_E} (hp : p < 98) (he : ce ad cI h1 p = e) (hne : ∀ q, q ≠ p → h1 q = h q) : (mk ad cI h).set p (ad p, e) = mk ad cI h1 := by
  apply List.ext_getElem?
  intro i
  by_cases hi : i < 98
  · rw [mk_get ad cI h1 hi]
    by_cases hip : i = p
    · subst hip
      rw [List.getElem?_set_self (by rw [mk_len]; exact hi), he]
    · rw [List.getElem?_set_ne (Ne.symm hip), mk_get ad cI h hi]
      unfold ce fvs
      rw [hne i hip]
  · rw [List.getElem?_eq_none (by rw [List.length_set, mk_len]; omega), List.getElem?_eq_none (by rw [mk_len]; omega)]
theorem cls_lt : ∀ p, p < 103 → clsO p < 11 → p < 98 := by decide +kernel
theorem cls_hi (p : Nat) (h : ¬ p < 103) : clsO p = 99 := by
  unfold clsO
  rw [List.getD_eq_getElem?_getD, List.getElem?_eq_none (by show 103 ≤ p; omega)]
  rfl
theorem cls_obj {p : Nat} (h : clsO p < 11) : p < 98 := by
  by_cases q : p < 103
  · exact cls_lt p q h
  · rw [cls_hi p q] at h; omega
theorem cls_a0 : ∀ p, p < 103 → clsO p = 20 → p < 98 := by decide +kernel
theorem cls_a1 : ∀ p, p < 103 → clsO p = 21 → 98 ≤ p := by decide +kernel
theorem cls_arr {p : Nat} (h : clsO p = 20) : p < 98 := by
  by_cases q : p < 103
  · exact cls_a0 p q h
  · rw [cls_hi p q] at h; omega
theorem cls_out {p : Nat} (h : clsO p = 21) : 98 ≤ p ∧ p < 103 := by
  by_cases q : p < 103
  · exact ⟨cls_a1 p q h, q⟩
  · rw [cls_hi p q] at h; omega
theorem ce_obj {ad : Nat → Nat} {cI : ClassId} {h : Hp} {p c : Nat} (hc : clsO p = c) (h11 : c < 11) : ce ad cI h p = Sum.inr (c, fvs ad h p c) := by
  unfold ce; rw [hc, if_pos h11]
theorem ce_arr {ad : Nat → Nat} {cI : ClassId} {h : Hp} {p : Nat} (hc : clsO p = 20) : ce ad cI h p = Sum.inl (cI, lenA p, Sum.inl (fun j => Int32.ofInt (h p (j : Nat)))) := by
  unfold ce; rw [hc, if_neg (by omega)]
theorem fvs_get (ad : Nat → Nat) (h : Hp) (p : Nat) {c k : Nat} (hk : k < fdN c) : (fvs ad h p c)[k]? = some (match fo c k with
  | some o => Value.ref (ad (p + o))
  | none => Value.int (Int32.ofInt (h p (k : Nat)))) := by
  simp [fvs, hk]
theorem up_ne {h : Hp} {p q : Nat} {k x : Int} (hq : q ≠ p) : up h p k x q = h q := by
  funext i; unfold up; rw [if_neg (fun z => hq z.1)]
theorem fvs_set (ad : Nat → Nat) (h : Hp) (p : Nat) {c k : Nat} (hk : k < fdN c) (ho : fo c k = none) (x : Int) : (fvs ad h p c).set k (Value.int (Int32.ofInt x)) = fvs ad (up h p (k : Nat) x) p c := by
  apply List.ext_getElem?
  intro i
  have hlen : ∀ h : Hp, (fvs ad h p c).length = fdN c := fun h => by simp [fvs]
  by_cases hi : i < fdN c
  · rw [fvs_get ad _ p hi]
    by_cases hik : i = k
    · subst hik
      rw [List.getElem?_set_self (by rw [hlen]; exact hi), ho]
      simp [up]
    · rw [List.getElem?_set_ne (Ne.symm hik), fvs_get ad h p hi]
      cases hf : fo c i with
      | some o => rfl
      | none =>
        have : up h p (k : Nat) x p (i : Nat) = h p (i : Nat) := by
          unfold up
          rw [if_neg]
          rintro ⟨-, z⟩
          omega
        simp only [this]
  · rw [List.getElem?_eq_none (by rw [List.length_set, hlen]; omega), List.getElem?_eq_none (by rw [hlen]; omega)]
/-! locals -/
theorem lvH_has {ad : Nat → Nat} {ls : Array Slot} {n : Nat} {L : List AV} (h : lvH ad ls n L) {l : List (Nat × Value)} (hl : ∀ q ∈ l, ∃ v, L[q.1]? = some v ∧ nn v = true ∧ q.2 = cv ad v) : lv_has ls n l :=
  ⟨h.1, h.2.1, fun q hq => by
    obtain ⟨v, h1, h2, h3⟩ := hl q hq
    rw [h3]
    exact h.2.2.2 q.1 v h1 h2⟩
def al (ad : Nat → Nat) (L : List AV) : List (Nat × Value) := (List.range L.length).filterMap (fun i => match L[i]? with
  | some v => if nn v = true then some (i, cv ad v) else none
  | none => none)
theorem al_in {ad : Nat → Nat} {L : List AV} {i : Nat} {v : AV} (h : L[i]? = some v) (hn : nn v = true) : (i, cv ad v) ∈ al ad L := by
  refine List.mem_filterMap.mpr ⟨i, List.mem_range.mpr (List.getElem?_eq_some_iff.mp h).1, ?_⟩
  rw [h]
  simp [hn]
theorem al_has {ad : Nat → Nat} {ls : Array Slot} {n : Nat} {L : List AV} (h : lvH ad ls n L) : lv_has ls n (al ad L) := by
  refine lvH_has h fun q hq => ?_
  obtain ⟨i, -, hi⟩ := List.mem_filterMap.mp hq
  cases hv : L[i]? with
  | none => rw [hv] at hi; cases hi
  | some v =>
    rw [hv] at hi
    by_cases hn : nn v = true
    · simp only [hn, if_true] at hi
      cases hi
      exact ⟨v, hv, hn, rfl⟩
    · simp [hn] at hi
theorem cv_cat (ad : Nat → Nat) (v : AV) : (cv ad v).category = catA v := by
  rcases v with x | p | x | u <;> rfl
theorem cv_cats (ad : Nat → Nat) (st : List AV) : ((st.map (cv ad)).map fun v => v.category).sum = catS st := by
  unfold catS
  rw [List.map_map]
  congr 1
  apply List.map_congr_left
  intro v _
  exact cv_cat ad v
theorem lvH_set {ad : Nat → Nat} {ls ls1 : Array Slot} {n a : Nat} {L : List AV} {v : AV} (h : lvH ad ls n L) (hno : noL L a = true) (ha : a < L.length) (hl : lv_has ls1 n ((a, cv ad v) :: (al ad L).filter (fun q => !(q.1 == a) && !(q.1 + 1 == a && q.2.category == 2)))) : lvH ad ls1 n (L.set a v) := by
  refine ⟨hl.1, hl.2.1, by rw [List.length_set]; exact h.2.2.1, fun i w hi hw => ?_⟩
  by_cases hia : i = a
  · subst hia
    rw [List.getElem?_set_self ha] at hi
    cases hi
    exact hl.2.2 (i, cv ad v) List.mem_cons_self
  · rw [List.getElem?_set_ne (Ne.symm hia)] at hi
    refine hl.2.2 (i, cv ad w) (List.mem_cons_of_mem _ (List.mem_filter.mpr ⟨al_in hi hw, ?_⟩))
    have h1 : (i == a) = false := by simp [hia]
    simp only [h1, Bool.not_false, Bool.true_and]
    by_cases h2 : i + 1 = a
    · subst h2
      rw [cv_cat]
      unfold noL at hno
      simp only [Nat.add_sub_cancel, hi] at hno
      rcases w with x | p | x | u <;> simp_all [catA]
    · simp [h2]
theorem lvH_get {ad : Nat → Nat} {ls : Array Slot} {n a : Nat} {L : List AV} {v : AV} (h : lvH ad ls n L) (ha : L[a]? = some v) (hv : nn v = true) : ls[a]? = some (Slot.val (cv ad v)) := h.2.2.2 a v ha hv

