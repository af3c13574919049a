/-! THE CLAIM OUT OF ONE WALK OF THE LAW'S BODY. Your part is whole_start (and what it stands on); all else here is the same for every law, but numbers. -/
def R_law : String := "NodBenchLaw"
def lw_P (b : Addr) (xs : List Int32) (args : Array Value) (s : State) : Prop := args = #[.ref b] ∧ s.IntsAt b xs ∧ xs.length ≤ 3072 ∧ (Jvm.Cond.and given_1 narrow_1).before args s = true
def lw_Q (_ : Array Value) (s : State) (o : Outcome) (t : State) : Prop := o = .returned (some (.int 1)) ∧ Framed s o t [] 98 1916
def lw_Z (below : List Frame) (a : Array Value) (s : State) : State → Prop := fun t => ∃ o, t.status = .running ∧ Ended t below o ∧ lw_Q a s o t
/-- the law's own end, with 1 on the stack, nothing written that was there before, its room as the claim has it -/
theorem lw_ret {p : Program} {l : Launch} {e : Env} {s : State} {m : MethodId} {below : List Frame} {meth : Method} {c : Code} {b : Nat} (hx : p.tables.exec = Jvm.exec) (hb : c.code = code) (hr : meth.sig.returnType = ret) (hlocks : meth.locks = false) {pc : Nat} {H : Heap} {ls : Array Slot} (hdg : decode code pc = .ok (.ireturn, 1)) : W p l e room_1 s m #[Value.ref b] below meth c H [] 98 1916 (lw_Z below #[Value.ref b] s) (F0 m pc ls [.int 1]) := by
  intro T hT X
  obtain ⟨fs, hret, hrun, hended, hW, hframe⟩ := X.leave (v := some (.int 1)) (hlocks := hlocks) (fun h => by rw [hr] at h; cases h)
  have hmeth' : T.vm.method? m = some meth := X.method'
  refine ⟨T.setFrames fs, ?_, .returned (some (.int 1)), hrun, hended, rfl, ⟨_, rfl⟩, hW, hframe⟩
  jvm_step X.here [X.here.top, hx, hb, hdg, hmeth', hr, ret, narrow_b1]
  (try refine ⟨rfl, ?_⟩); (try refine ⟨rfl, ?_⟩)
  first | (intro acts; rw [hret _ acts rfl rfl rfl]) | rw [hret _ _ rfl rfl rfl]
  exact Steps.refl _
/-- what holds at the law's entry: the machine, the code, the tables' words (any of lw_tbl by 'hts w (by decide +kernel)'), the script of L ints xs at the cell b, what the Statement gives of the start (any of its parts by flat_of_before) -/
def lw_At (p : Program) (s : State) (m : MethodId) (meth : Method) (c : Code) (b L : Nat) (xs : Nat → Int32) : Prop :=
  p.tables.exec = Jvm.exec ∧ c.code = code ∧ meth.sig.returnType = ret ∧ c.maxLocals = 4 ∧ s.vm.findClass R_law = some m.cls ∧ (∀ w ∈ lw_tbl, w.before #[Value.ref b] s = true) ∧ va_X b L xs s s.heap ∧ b < s.heap.size ∧ meth.locks = false ∧ (Jvm.Cond.and given_1 narrow_1).before #[Value.ref b] s = true
/-! THE LAW, from its entry to its loop -/
theorem e187_16n (h : Hp) : X (187, 16, [aR 102, aR 0, aR 80, aN], [], h) = X (187, 18, [aR 102, aR 0, aR 80, aI 0], [], h) := (evL_eq lawSp 300 _ _ _ _ _).symm
def iwI : List Nat := [169, 85, 137, 120, 302, 91, 284, 97, 267, 77, 814]
theorem iw_ok : ∀ c, c < 11 → lw_tbl[iwI.getD c 0]? = some (.instantiable (cnm c) (fdN c)) ∧ goodWord (.instantiable (cnm c) (fdN c)) = true := by decide +kernel
def stL : List (List Int) := [[1, 0, 0, 0, 0, 0, 0, 0], [12, 40, 239, 10, 20, 13, 1, 2], [0, 0, 2, 1, 0, 1], [0, 2, 4, 99, 239, 99]]
theorem ls_0 : lw_tbl[356]? = some (.laysStatic "NodBench" "SETTING_LEAST" "[I") := by decide +kernel
theorem ls_1 : lw_tbl[358]? = some (.laysStatic "NodBench" "SETTING_MOST" "[I") := by decide +kernel
theorem ls_2 : lw_tbl[377]? = some (.laysStatic "NodBench" "NUMBER_LEAST" "[I") := by decide +kernel
theorem ls_3 : lw_tbl[375]? = some (.laysStatic "NodBench" "NUMBER_MOST" "[I") := by decide +kernel
theorem ini_9 : lw_tbl[62]? = some (.initialized "NodBench") := by decide +kernel
def oh (L : Nat) (xs : Nat → Int32) : Hp := fun p i => if p = 102 then (xs i.toNat).toInt else if p = 103 then (L : Int) else (stL.getD (p - 98) []).getD i.toNat 0
def h0 (L : Nat) (xs : Nat → Int32) : Hp := fun p i => if p < 98 then ini0 p i else oh L xs p i
theorem st_at_0 {b : Addr} {s : State} {A : Nat → Prop} {L : Nat} {xs : Nat → Int32} (hts : ∀ w ∈ lw_tbl, w.before #[Value.ref b] s = true) (hgv : (Jvm.Cond.and given_1 narrow_1).before #[Value.ref b] s = true) (hA : ∀ a : Nat, a < s.heap.size → ¬ A a) : ∃ t : Nat, va_Z "NodBench" "SETTING_LEAST" "[I" (.ref t) A s s.heap ∧ va_T .int t 8 (fun j => .int (Int32.ofInt (oh L xs 98 (j : Nat)))) A s s.heap := by
  have fl := flat_of_before _ hgv
  have harr : (Cond.arrayOf (.static "NodBench" "SETTING_LEAST" "[I") .int).before #[Value.ref b] s = true := fl _ (by decide +kernel)
  have hlen := va_eqt (fl (.eq (.length (.static "NodBench" "SETTING_LEAST" "[I")) (.int 8)) (by decide +kernel))
  have h0 := va_eqt (fl (.eq (.elem (.static "NodBench" "SETTING_LEAST" "[I") (.int 0)) (.int 1)) (by decide +kernel))
  have h1 := va_eqt (fl (.eq (.elem (.static "NodBench" "SETTING_LEAST" "[I") (.int 1)) (.int 0)) (by decide +kernel))
  have h2 := va_eqt (fl (.eq (.elem (.static "NodBench" "SETTING_LEAST" "[I") (.int 2)) (.int 0)) (by decide +kernel))
  have h3 := va_eqt (fl (.eq (.elem (.static "NodBench" "SETTING_LEAST" "[I") (.int 3)) (.int 0)) (by decide +kernel))
  have h4 := va_eqt (fl (.eq (.elem (.static "NodBench" "SETTING_LEAST" "[I") (.int 4)) (.int 0)) (by decide +kernel))
  have h5 := va_eqt (fl (.eq (.elem (.static "NodBench" "SETTING_LEAST" "[I") (.int 5)) (.int 0)) (by decide +kernel))
  have h6 := va_eqt (fl (.eq (.elem (.static "NodBench" "SETTING_LEAST" "[I") (.int 6)) (.int 0)) (by decide +kernel))
  have h7 := va_eqt (fl (.eq (.elem (.static "NodBench" "SETTING_LEAST" "[I") (.int 7)) (.int 0)) (by decide +kernel))
  obtain ⟨t, h1, h2⟩ := va_Tof (N := 8) (f := fun j => .int (Int32.ofInt (oh L xs 98 (j : Nat)))) (by decide) harr hlen (fun j hj => by
    match j, hj with
    | 0, _ => exact h0
    | 1, _ => exact h1
    | 2, _ => exact h2
    | 3, _ => exact h3
    | 4, _ => exact h4
    | 5, _ => exact h5
    | 6, _ => exact h6
    | 7, _ => exact h7
    | k + 8, h => omega) hA
  exact ⟨t, va_Zref (hts _ (List.mem_of_getElem? ls_0)) (hts _ (List.mem_of_getElem? ini_9)) h1 hA, h2⟩
theorem st_at_1 {b : Addr} {s : State} {A : Nat → Prop} {L : Nat} {xs : Nat → Int32} (hts : ∀ w ∈ lw_tbl, w.before #[Value.ref b] s = true) (hgv : (Jvm.Cond.and given_1 narrow_1).before #[Value.ref b] s = true) (hA : ∀ a : Nat, a < s.heap.size → ¬ A a) : ∃ t : Nat, va_Z "NodBench" "SETTING_MOST" "[I" (.ref t) A s s.heap ∧ va_T .int t 8 (fun j => .int (Int32.ofInt (oh L xs 99 (j : Nat)))) A s s.heap := by
  have fl := flat_of_before _ hgv
  have harr : (Cond.arrayOf (.static "NodBench" "SETTING_MOST" "[I") .int).before #[Value.ref b] s = true := fl _ (by decide +kernel)
  have hlen := va_eqt (fl (.eq (.length (.static "NodBench" "SETTING_MOST" "[I")) (.int 8)) (by decide +kernel))
  have h0 := va_eqt (fl (.eq (.elem (.static "NodBench" "SETTING_MOST" "[I") (.int 0)) (.int 12)) (by decide +kernel))
  have h1 := va_eqt (fl (.eq (.elem (.static "NodBench" "SETTING_MOST" "[I") (.int 1)) (.int 40)) (by decide +kernel))
  have h2 := va_eqt (fl (.eq (.elem (.static "NodBench" "SETTING_MOST" "[I") (.int 2)) (.int 239)) (by decide +kernel))
  have h3 := va_eqt (fl (.eq (.elem (.static "NodBench" "SETTING_MOST" "[I") (.int 3)) (.int 10)) (by decide +kernel))
  have h4 := va_eqt (fl (.eq (.elem (.static "NodBench" "SETTING_MOST" "[I") (.int 4)) (.int 20)) (by decide +kernel))
  have h5 := va_eqt (fl (.eq (.elem (.static "NodBench" "SETTING_MOST" "[I") (.int 5)) (.int 13)) (by decide +kernel))
  have h6 := va_eqt (fl (.eq (.elem (.static "NodBench" "SETTING_MOST" "[I") (.int 6)) (.int 1)) (by decide +kernel))
  have h7 := va_eqt (fl (.eq (.elem (.static "NodBench" "SETTING_MOST" "[I") (.int 7)) (.int 2)) (by decide +kernel))
  obtain ⟨t, h1, h2⟩ := va_Tof (N := 8) (f := fun j => .int (Int32.ofInt (oh L xs 99 (j : Nat)))) (by decide) harr hlen (fun j hj => by
    match j, hj with
    | 0, _ => exact h0
    | 1, _ => exact h1
    | 2, _ => exact h2
    | 3, _ => exact h3
    | 4, _ => exact h4
    | 5, _ => exact h5
    | 6, _ => exact h6
    | 7, _ => exact h7
    | k + 8, h => omega) hA
  exact ⟨t, va_Zref (hts _ (List.mem_of_getElem? ls_1)) (hts _ (List.mem_of_getElem? ini_9)) h1 hA, h2⟩
theorem st_at_2 {b : Addr} {s : State} {A : Nat → Prop} {L : Nat} {xs : Nat → Int32} (hts : ∀ w ∈ lw_tbl, w.before #[Value.ref b] s = true) (hgv : (Jvm.Cond.and given_1 narrow_1).before #[Value.ref b] s = true) (hA : ∀ a : Nat, a < s.heap.size → ¬ A a) : ∃ t : Nat, va_Z "NodBench" "NUMBER_LEAST" "[I" (.ref t) A s s.heap ∧ va_T .int t 6 (fun j => .int (Int32.ofInt (oh L xs 100 (j : Nat)))) A s s.heap := by
  have fl := flat_of_before _ hgv
  have harr : (Cond.arrayOf (.static "NodBench" "NUMBER_LEAST" "[I") .int).before #[Value.ref b] s = true := fl _ (by decide +kernel)
  have hlen := va_eqt (fl (.eq (.length (.static "NodBench" "NUMBER_LEAST" "[I")) (.int 6)) (by decide +kernel))
  have h0 := va_eqt (fl (.eq (.elem (.static "NodBench" "NUMBER_LEAST" "[I") (.int 0)) (.int 0)) (by decide +kernel))
  have h1 := va_eqt (fl (.eq (.elem (.static "NodBench" "NUMBER_LEAST" "[I") (.int 1)) (.int 0)) (by decide +kernel))
  have h2 := va_eqt (fl (.eq (.elem (.static "NodBench" "NUMBER_LEAST" "[I") (.int 2)) (.int 2)) (by decide +kernel))
  have h3 := va_eqt (fl (.eq (.elem (.static "NodBench" "NUMBER_LEAST" "[I") (.int 3)) (.int 1)) (by decide +kernel))
  have h4 := va_eqt (fl (.eq (.elem (.static "NodBench" "NUMBER_LEAST" "[I") (.int 4)) (.int 0)) (by decide +kernel))
  have h5 := va_eqt (fl (.eq (.elem (.static "NodBench" "NUMBER_LEAST" "[I") (.int 5)) (.int 1)) (by decide +kernel))
  obtain ⟨t, h1, h2⟩ := va_Tof (N := 6) (f := fun j => .int (Int32.ofInt (oh L xs 100 (j : Nat)))) (by decide) harr hlen (fun j hj => by
    match j, hj with
    | 0, _ => exact h0
    | 1, _ => exact h1
    | 2, _ => exact h2
    | 3, _ => exact h3
    | 4, _ => exact h4
    | 5, _ => exact h5
    | k + 6, h => omega) hA
  exact ⟨t, va_Zref (hts _ (List.mem_of_getElem? ls_2)) (hts _ (List.mem_of_getElem? ini_9)) h1 hA, h2⟩
theorem st_at_3 {b : Addr} {s : State} {A : Nat → Prop} {L : Nat} {xs : Nat → Int32} (hts : ∀ w ∈ lw_tbl, w.before #[Value.ref b] s = true) (hgv : (Jvm.Cond.and given_1 narrow_1).before #[Value.ref b] s = true) (hA : ∀ a : Nat, a < s.heap.size → ¬ A a) : ∃ t : Nat, va_Z "NodBench" "NUMBER_MOST" "[I" (.ref t) A s s.heap ∧ va_T .int t 6 (fun j => .int (Int32.ofInt (oh L xs 101 (j : Nat)))) A s s.heap := by
  have fl := flat_of_before _ hgv
  have harr : (Cond.arrayOf (.static "NodBench" "NUMBER_MOST" "[I") .int).before #[Value.ref b] s = true := fl _ (by decide +kernel)
  have hlen := va_eqt (fl (.eq (.length (.static "NodBench" "NUMBER_MOST" "[I")) (.int 6)) (by decide +kernel))
  have h0 := va_eqt (fl (.eq (.elem (.static "NodBench" "NUMBER_MOST" "[I") (.int 0)) (.int 0)) (by decide +kernel))
  have h1 := va_eqt (fl (.eq (.elem (.static "NodBench" "NUMBER_MOST" "[I") (.int 1)) (.int 2)) (by decide +kernel))
  have h2 := va_eqt (fl (.eq (.elem (.static "NodBench" "NUMBER_MOST" "[I") (.int 2)) (.int 4)) (by decide +kernel))
  have h3 := va_eqt (fl (.eq (.elem (.static "NodBench" "NUMBER_MOST" "[I") (.int 3)) (.int 99)) (by decide +kernel))
  have h4 := va_eqt (fl (.eq (.elem (.static "NodBench" "NUMBER_MOST" "[I") (.int 4)) (.int 239)) (by decide +kernel))
  have h5 := va_eqt (fl (.eq (.elem (.static "NodBench" "NUMBER_MOST" "[I") (.int 5)) (.int 99)) (by decide +kernel))
  obtain ⟨t, h1, h2⟩ := va_Tof (N := 6) (f := fun j => .int (Int32.ofInt (oh L xs 101 (j : Nat)))) (by decide) harr hlen (fun j hj => by
    match j, hj with
    | 0, _ => exact h0
    | 1, _ => exact h1
    | 2, _ => exact h2
    | 3, _ => exact h3
    | 4, _ => exact h4
    | 5, _ => exact h5
    | k + 6, h => omega) hA
  exact ⟨t, va_Zref (hts _ (List.mem_of_getElem? ls_3)) (hts _ (List.mem_of_getElem? ini_9)) h1 hA, h2⟩
theorem cl_nb : lw_tbl[76]? = some (.classLink R_law 7 (cnm 9)) ∧ lw_tbl[813]? = some (.classLink R_law 10 (cnm 10)) := by decide +kernel
theorem ml_nb : lw_tbl[78]? = some (.methodLink (cnm 13) 9 (yC 9)) ∧ lw_tbl[815]? = some (.methodLink (cnm 13) 12 (yC 10)) := by decide +kernel
theorem in_nb : lw_tbl[62]? = some (.initialized (cnm 9)) ∧ lw_tbl[72]? = some (.initialized (cnm 10)) := by decide +kernel
theorem dl_0 : decode code 0 = .ok (.new 7, 3) := by decide +kernel
theorem dl_3 : decode code 3 = .ok (.dup, 1) := by decide +kernel
theorem dl_4 : decode code 4 = .ok (.invokespecial 9, 3) := by decide +kernel
theorem dl_7 : decode code 7 = .ok (.astore_n 1, 1) := by decide +kernel
theorem dl_8 : decode code 8 = .ok (.new 10, 3) := by decide +kernel
theorem dl_11 : decode code 11 = .ok (.dup, 1) := by decide +kernel
theorem dl_12 : decode code 12 = .ok (.invokespecial 12, 3) := by decide +kernel
theorem dl_15 : decode code 15 = .ok (.astore_n 2, 1) := by decide +kernel
/-! the first heap in two runs -/
def fin1 : Option (Nat × List AV × List CC) := rnC 3000 (9, 0, aR 0 :: List.replicate (nC 9 - 1) aN, [], [Sum.inl (9, dfs 9)])
def fin2 (r : Nat × List AV × List CC) : Option (Nat × List AV × List CC) := rnC 3000 (10, 0, aR r.2.2.length :: List.replicate (nC 10 - 1) aN, [], r.2.2 ++ [Sum.inl (10, dfs 10)])
def fin2Is (o : Option (Nat × List AV × List CC)) : Bool := match o with
  | some r => r.2.2.length == 98 && tot r.2.2 == 1916 && (List.range 98).all (fun p => match r.2.2[sg p]? with
    | some c => cellOk c p
    | none => false)
  | none => false
def fin1Ok : Bool := match fin1 with
  | some r => r.2.2.length == 80 && tot r.2.2 == 1095 && okK [] [] r.2.2
  | none => false
def fin2Ok : Bool := match fin1 with
  | some r => fin2Is (fin2 r)
  | none => false
theorem fin1_ok : fin1Ok = true := by decide +kernel
theorem fin2_ok : fin2Ok = true := by decide +kernel
theorem sg_0 : sg 0 = 0 ∧ sg 80 = 80 := by decide +kernel
theorem born_at {D : va_G} {cI : ClassId} {as : List Nat} {hs : List CC} {H : Heap} {ad : Nat → Nat} {h : Hp} (hP : va_P D cl (aw as cI hs) H) (hok : (List.range 98).all (fun p => match hs[sg p]? with
    | some c => cellOk c p
    | none => false) = true) (had : ∀ p, p < 98 → ad p = ada as (sg p)) (hoff : ∀ c, c < 11 → ∀ p, p < 98 → clsO p = c → ∀ k, k < fdN c → ∀ off, fo c k = some off → p + off < 98) (hh : ∀ p, p < 98 → h p = ini0 p) : va_P D cl (mk ad cI h) H := by
  intro p q hq
  have hp : p < 98 := by
    have := (List.getElem?_eq_some_iff.mp hq).1
    rwa [mk_len] at this
  rw [mk_get ad cI h hp] at hq
  cases hq
  have hc := List.all_eq_true.mp hok p (List.mem_range.mpr hp)
  cases hg : hs[sg p]? with
  | none => rw [hg] at hc; cases hc
  | some c =>
    rw [hg] at hc
    have hat := hP (sg p) _ (aw_get hg)
    rcases c with o | la
    · replace hc : (clsO p == o.1 && decide (o.1 < 11) && o.2.length == fdN o.1 && (List.range (fdN o.1)).all (fun j => match fo o.1 j, o.2[j]? with
        | some off, some (Sum.inr (Sum.inl r)) => sg (p + off) == r
        | none, some (Sum.inl x) => x == ini0 p (j : Nat)
        | _, _ => false)) = true := hc
      simp only [Bool.and_eq_true, beq_iff_eq, decide_eq_true_eq] at hc
      obtain ⟨⟨⟨h1, h2⟩, h3⟩, h4⟩ := hc
      rw [ce_obj h1 h2, had p hp]
      have : fvs ad h p o.1 = o.2.map (cv (ada as)) := by
        apply List.ext_getElem?
        intro j
        by_cases hj : j < fdN o.1
        · rw [fvs_get ad h p hj, List.getElem?_map]
          have h5 := List.all_eq_true.mp h4 j (List.mem_range.mpr hj)
          cases hf : fo o.1 j with
          | some off =>
            rw [hf] at h5
            cases hv : o.2[j]? with
            | none => rw [hv] at h5; cases h5
            | some v =>
              rw [hv] at h5
              rcases v with x | r | x | u
              · cases h5
              · replace h5 := beq_iff_eq.mp h5
                show some (Value.ref (ad (p + off))) = some (Value.ref (ada as r))
                rw [had _ (hoff _ h2 p hp h1 j hj off hf), h5]
              · cases h5
              · cases h5
          | none =>
            rw [hf] at h5
            cases hv : o.2[j]? with
            | none => rw [hv] at h5; cases h5
            | some v =>
              rw [hv] at h5
              rcases v with x | r | x | u
              · replace h5 := beq_iff_eq.mp h5
                show some (Value.int (Int32.ofInt (h p (j : Nat)))) = some (Value.int (Int32.ofInt x))
                rw [hh p hp, h5]
              · cases h5
              · cases h5
              · cases h5
        · rw [List.getElem?_eq_none (by simp [fvs]; omega), List.getElem?_eq_none (by rw [List.length_map]; omega)]
      rw [this]
      exact hat
    · replace hc : (clsO p == 20 && la.length == lenA p && (List.range la.length).all (fun j => la.getD j 0 == ini0 p (j : Nat))) = true := hc
      simp only [Bool.and_eq_true, beq_iff_eq] at hc
      obtain ⟨⟨h1, h2⟩, h3⟩ := hc
      rw [ce_arr h1, had p hp]
      replace hat : H[ada as (sg p)]? = some (vp_cell cI (la.length, Sum.inl (fun j => Int32.ofInt (la.getD j 0)))) := hat
      show H[ada as (sg p)]? = some (vp_cell cI (lenA p, Sum.inl (fun j => Int32.ofInt (h p (j : Nat)))))
      rw [hat, vp_cell_i, vp_cell_i, ← h2]
      congr 1
      unfold arrV
      congr 2
      funext j
      have h5 := List.all_eq_true.mp h3 j.val (List.mem_range.mpr j.isLt)
      show Value.int (Int32.ofInt (la.getD j.val 0)) = Value.int (Int32.ofInt (h p (j.val : Nat)))
      rw [hh p hp, ← beq_iff_eq.mp h5]
theorem off_lt : ∀ p, p < 98 → ∀ k, k < fdN (clsO p) → clsO p < 11 → (match fo (clsO p) k with
  | some off => decide (p + off < 98)
  | none => true) = true := by decide +kernel
/-- what is left: the law's loop, in the small machine -/
def LawRun : Prop := ∀ (L : Nat) (xs : Nat → Int32), L ≤ 3072 → ∃ hf, X (187, 16, [aR 102, aR 0, aR 80, aN], [], h0 L xs) = some (some 1, hf)
set_option maxHeartbeats 4000000 in
theorem whole_start1 (hlaw : LawRun) {p : Program} {e : Env} {s : State} {m : MethodId} {below : List Frame} {meth : Method} {c : Code} (l : Launch) (hflags : l.flags = flags0) {b L : Nat} {xs : Nat → Int32} (hL : L ≤ 3072) (C0 : lw_At p s m meth c b L xs) : W p l e room_1 s m #[Value.ref b] below meth c s.heap [] 0 0 (lw_Z below #[Value.ref b] s) (entryFrame m ([Value.ref b] : List Value).toArray 4) := by
  obtain ⟨hx, hb, hr, hml, hown, hts, hX, hbl, hlocks, hgv⟩ := id C0
  have htg : ∀ w ∈ tg, w.before #[Value.ref b] s = true := fun w hw => hts w (List.mem_filter.mp hw).1
  obtain ⟨A, hAd⟩ : ∃ A : Nat → Prop, A = fun q => s.heap.size ≤ q := ⟨_, rfl⟩
  have hA : ∀ q : Nat, s.heap.size ≤ q → A q := fun q h => by rw [hAd]; exact h
  have hAn : ∀ a : Nat, a < s.heap.size → ¬ A a := fun a h z => by rw [hAd] at z; exact absurd z (Nat.not_le.mpr h)
  have hkn : ∀ k, k < 11 → ∃ (cC : ClassId) (iS : Nat → Nat), u_Kn s (cnm k) (fdT k) (fdN k) cC iS := fun k hk => u_known htg (cl_in hk) (htg _ (tg_at (iw_ok k hk)))
  obtain ⟨dC, dI, hKc⟩ : ∃ (dC : Nat → ClassId) (dI : Nat → Nat → Nat), ∀ k, k < 11 → u_Kn s (cnm k) (fdT k) (fdN k) (dC k) (dI k) := by
    refine ⟨fun k => if h : k < 11 then (hkn k h).choose else (hkn 0 (by decide)).choose, fun k => if h : k < 11 then (hkn k h).choose_spec.choose else (hkn 0 (by decide)).choose_spec.choose, fun k hk => ?_⟩
    simp only [dif_pos hk]
    exact (hkn k hk).choose_spec.choose_spec
  obtain ⟨cI, kA, comp, a1, a2, a3⟩ := Cond.arrayClass_spec (htg _ (tg_at ⟨ac_w, rfl⟩))
  have hK : va_K (dC, dI) cl [(cI, .int)] s := by
    refine ⟨fun k q hq => ?_, fun k q hq => ?_⟩
    · have hk : k < 11 := by
        have := (List.getElem?_eq_some_iff.mp hq).1
        simpa [cl] using this
      rw [cl_get hk] at hq
      cases hq
      exact hKc k hk
    · have hk : k = 0 := by
        have := (List.getElem?_eq_some_iff.mp hq).1
        simpa using this
      subst hk
      cases hq
      exact ⟨fun n z => ⟨fun k h => (by cases h), kA, a2, comp, a3⟩, a1⟩
  have hnk : ∀ q ∈ kcN, va_Nw (kcw q) s := by
    intro q hq
    have : some (kcw q) ∈ kcN.map (fun e => some (kcw e)) := List.mem_map.mpr ⟨q, hq, rfl⟩
    rw [kc_nw] at this
    obtain ⟨i, -, hi⟩ := List.mem_map.mp this
    exact va_Nw.of rfl (hts _ (List.mem_of_getElem? hi))
  have hnk2 : ∀ q ∈ nkL, va_Nw (nkw q) s := by
    intro q hq
    have : some (nkw q) ∈ nkL.map (fun e => some (nkw e)) := List.mem_map.mpr ⟨q, hq, rfl⟩
    rw [nk_ok] at this
    obtain ⟨i, -, hi⟩ := List.mem_map.mp this
    exact va_Nw.of rfl (hts _ (List.mem_of_getElem? hi))
  -- the two runs
  have hf1 := fin1_ok
  have hf2 := fin2_ok
  unfold fin1Ok at hf1
  unfold fin2Ok at hf2
  cases he1 : fin1 with
  | none => rw [he1] at hf1; cases hf1
  | some r1 =>
  rw [he1] at hf1 hf2
  simp only [Bool.and_eq_true, beq_iff_eq] at hf1
  obtain ⟨⟨n1, t1⟩, ok1⟩ := hf1
  replace hf2 : fin2Is (fin2 r1) = true := hf2
  cases he2 : fin2 r1 with
  | none => rw [he2] at hf2; cases hf2
  | some r2 =>
  rw [he2] at hf2
  unfold fin2Is at hf2
  simp only [Bool.and_eq_true, beq_iff_eq] at hf2
  obtain ⟨⟨n2, t2⟩, ok2⟩ := hf2
  have k1 := okK_at ok1
  have w1 := rn_snd l (dC, dI) cI A 3000 _ _ he1
  have w2 := rn_snd l (dC, dI) cI A 3000 _ _ he2
  have z9 : szC (Sum.inl (9, dfs 9)) = 10 := by decide +kernel
  have z10 : szC (Sum.inl (10, dfs 10)) = 27 := by decide +kernel
  have t9 : tot [(Sum.inl (9, dfs 9) : CC)] = 10 := by decide +kernel
  have t10 : tot (r1.2.2 ++ [Sum.inl (10, dfs 10)]) = 1122 := by rw [tot_app, t1, z10]
  have l10 : (r1.2.2 ++ [(Sum.inl (10, dfs 10) : CC)]).length = 81 := by rw [List.length_append, n1]; rfl
  have hS : va_S A s.heap s.heap [] := va_S.rf
  have hP0 : va_P (dC, dI) cl [] s.heap := fun k q h => by simp at h
  have hD0 : va_D A [] := ⟨fun i j p q h => by simp at h, fun k q h => by simp at h⟩
  have hl := lv_entry ([.ref b]) (n := 4) (Nat.le_of_ble_eq_true rfl)
  rw [lg_entry_eq]
  generalize (lg_sl ([.ref b]) ++ List.replicate (4 - (lg_sl ([.ref b])).length) Slot.unset).toArray = ls at hl ⊢
  replace hl : lv_has ls 4 [(0, .ref b)] := hl
  have hn9 : fdN 9 = 10 := by decide +kernel
  have hn10 : fdN 10 = 27 := by decide +kernel
  refine va_new (ci := 9) (fs := dvs 9) (C := cnm 9) (T := fdT 9) (N := fdN 9) hx hb htg (cl_in (by decide)) (tyF 9) (cl_ty 9 (by decide)) hown (htg _ (tg_at ⟨cl_nb.1, rfl⟩)) (htg _ (tg_at (iw_ok 9 (by decide)))) (htg _ (tg_at ⟨in_nb.1, rfl⟩)) hK hP0 hD0 hS hA (cl_get (by decide)) (dvs_def 9 (by decide)) (by show 0 + 1 ≤ 98; decide) (by show 0 + fdN 9 ≤ 1916; rw [hn9]; decide) dl_0 (fun q1 H1 hP1 hD1 hS1 => ?_)
  have hce9 : (Sum.inr (9, dvs 9) : va_E) = ccE [] cI (Sum.inl (9, dfs 9)) := by
    show _ = Sum.inr (9, (dfs 9).map (cv (ada [])))
    rw [dfs_cv]
  have hw9 : ([] ++ [(q1, Sum.inr (9, dvs 9))] : va_W) = aw [q1] cI [Sum.inl (9, dfs 9)] := by
    rw [hce9]
    have := aw_push (as := []) (cI := cI) (hs := []) (q := q1) (c := Sum.inl (9, dfs 9)) rfl rfl (ccE_app (dfs_ok _ _))
    exact this.symm
  rw [hw9] at hP1 hD1
  refine lv_dup hx hb dl_3 rfl ?_
  rw [hn9]
  refine call_c (own := 13) (pl := 0) (as := [q1]) (by decide) w1 ⟨hx, hb, hml, hown, htg⟩ hK hnk hA (Or.inl ⟨_, tg_at ⟨ml_nb.1, rfl⟩, rfl⟩) ⟨by decide, by decide⟩ hl.1 (by show 1 ≤ 8; decide) dl_4 (by rw [n1]; decide) (by rw [t1, t9]; decide) ⟨rfl, hP1, hD1, hS1⟩ (fun H2 locs2 more1 hH2 => ?_)
  rw [n1, t1, t9]
  refine lv_astore_n (lv' := [(1, .ref q1), (0, .ref b)]) hx hb dl_7 rfl hl (by decide) rfl (fun ls1 hl1 => ?_)
  obtain ⟨y1, hP2, hD2, hS2⟩ := hH2
  refine va_new (ci := 10) (fs := dvs 10) (C := cnm 10) (T := fdT 10) (N := fdN 10) hx hb htg (cl_in (by decide)) (tyF 10) (cl_ty 10 (by decide)) hown (htg _ (tg_at ⟨cl_nb.2, rfl⟩)) (htg _ (tg_at (iw_ok 10 (by decide)))) (htg _ (tg_at ⟨in_nb.2, rfl⟩)) hK hP2 hD2 hS2 hA (cl_get (by decide)) (dvs_def 10 (by decide)) (by show 0 + 1 + (80 - 1) + 1 ≤ 98; decide) (by show 0 + 10 + (1095 - 10) + fdN 10 ≤ 1916; rw [hn10]; decide) dl_8 (fun q2 H3 hP3 hD3 hS3 => ?_)
  have hce10 : (Sum.inr (10, dvs 10) : va_E) = ccE ([q1] ++ more1) cI (Sum.inl (10, dfs 10)) := by
    show _ = Sum.inr (10, (dfs 10).map (cv (ada ([q1] ++ more1))))
    rw [dfs_cv]
  rw [hce10, ← aw_push y1 k1.2.2 (ccE_app (dfs_ok _ _))] at hP3 hD3
  refine lv_dup hx hb dl_11 rfl ?_
  rw [hn10]
  have hq2 : ada ([q1] ++ more1 ++ [q2]) r1.2.2.length = q2 := by
    unfold ada
    rw [List.getD_eq_getElem?_getD, List.getElem?_append_right (by omega), y1, Nat.sub_self]
    rfl
  have hcall := @call_c l (dC, dI) cI A p e room_1 s m #[Value.ref b] below meth c H3 locs2 ls1 (0 + 1 + (80 - [(Sum.inl (9, dfs 9) : CC)].length) + 1) (0 + 10 + (1095 - 10) + 27) 12 4 12 13 code (lw_Z below #[Value.ref b] s) [.ref q2] ([q1] ++ more1 ++ [q2]) (r1.2.2 ++ [Sum.inl (10, dfs 10)]) 10 r1.2.2.length r2 (by decide) w2 ⟨hx, hb, hml, hown, htg⟩ hK hnk hA (Or.inl ⟨_, tg_at ⟨ml_nb.2, rfl⟩, rfl⟩) ⟨by decide, by decide⟩ hl1.1 (by show 1 ≤ 8; decide) dl_12 (by rw [n2, l10]; decide) (by rw [t2, t10]; decide) ⟨by simp only [List.length_append, List.length_singleton] at y1 ⊢; omega, hP3, hD3, hS3⟩
  rw [hq2] at hcall
  refine hcall (fun H4 locs4 more2 hH4 => ?_)
  rw [n2, t2, t10, l10]
  refine lv_astore_n (lv' := [(2, .ref q2), (1, .ref q1), (0, .ref b)]) hx hb dl_15 rfl hl1 (by decide) rfl (fun ls2 hl2 => ?_)
  obtain ⟨y4, hP4, hD4, hS4⟩ := hH4
  refine W.widen (k := 98) (n := 1916) (by decide) (by decide) ?_
  -- the places
  obtain ⟨s0, zs0, ts0⟩ := @st_at_0 b s A L xs hts hgv hAn
  obtain ⟨s1, zs1, ts1⟩ := @st_at_1 b s A L xs hts hgv hAn
  obtain ⟨s2, zs2, ts2⟩ := @st_at_2 b s A L xs hts hgv hAn
  obtain ⟨s3, zs3, ts3⟩ := @st_at_3 b s A L xs hts hgv hAn
  generalize has : [q1] ++ more1 ++ [q2] ++ more2 = as at y4 hP4 hD4
  obtain ⟨ad, hadd⟩ : ∃ ad : Nat → Nat, ad = fun pl => if pl < 98 then ada as (sg pl) else if pl = 98 then s0 else if pl = 99 then s1 else if pl = 100 then s2 else if pl = 101 then s3 else b := ⟨_, rfl⟩
  have had : ∀ pl, pl < 98 → ad pl = ada as (sg pl) := fun pl h => by rw [hadd]; simp only [if_pos h]
  have had0 : ad 98 = s0 := by rw [hadd]; rfl
  have had1 : ad 99 = s1 := by rw [hadd]; rfl
  have had2 : ad 100 = s2 := by rw [hadd]; rfl
  have had3 : ad 101 = s3 := by rw [hadd]; rfl
  have had4 : ad 102 = b := by rw [hadd]; rfl
  have hPm : va_P (dC, dI) cl (mk ad cI (h0 L xs)) H4 := born_at hP4 ok2 had (fun k hk pl hpl hck j hj off hof => by
    subst hck
    have := off_lt pl hpl j hj hk
    rw [hof] at this
    exact of_decide_eq_true this) (fun pl hpl => by funext i; unfold h0; rw [if_pos hpl])
  have hgetw : ∀ pl, pl < 98 → ∃ ce, (aw as cI r2.2.2)[sg pl]? = some (ada as (sg pl), ce) := by
    intro pl hpl
    have hlt : sg pl < r2.2.2.length := by rw [n2]; exact sg_ok.1 pl hpl
    exact ⟨_, aw_get (List.getElem?_eq_getElem hlt)⟩
  have hap : Apart ad A := by
    refine ⟨fun i j hi hj hij => ?_, fun i hi => ?_⟩
    · rw [had i hi, had j hj] at hij
      obtain ⟨x1, g1⟩ := hgetw i hi
      obtain ⟨x2, g2⟩ := hgetw j hj
      exact sg_ok.2 i hi j hj (hD4.1 _ _ _ _ g1 g2 hij)
    · obtain ⟨x1, g1⟩ := hgetw i hi
      rw [had i hi]
      exact hD4.2 _ _ g1
  have hout : Out ad A (oh L xs) s := by
    refine ⟨fun j hj => ?_, fun pl h1 h2 => ?_, hnk2⟩
    · match j, hj with
      | 0, _ => rw [show ad (98 + 0) = s0 from had0]; exact zs0
      | 1, _ => rw [show ad (98 + 1) = s1 from had1]; exact zs1
      | 2, _ => rw [show ad (98 + 2) = s2 from had2]; exact zs2
      | 3, _ => rw [show ad (98 + 3) = s3 from had3]; exact zs3
      | k + 4, h => omega
    · rcases (show pl = 98 ∨ pl = 99 ∨ pl = 100 ∨ pl = 101 ∨ pl = 102 by omega) with rfl | rfl | rfl | rfl | rfl
      · rw [had0]; exact ts0
      · rw [had1]; exact ts1
      · rw [had2]; exact ts2
      · rw [had3]; exact ts3
      · rw [had4]
        obtain ⟨scr, g1, g2, g3, g4, g5⟩ := hX
        refine ⟨scr, g1, g2, g3, ?_, ?_, fun j hj => ?_, hAn b hbl⟩
        · rw [g4]; show L ≥ (L : Int).toNat; omega
        · rw [g4]; show Int32.ofNat L = Int32.ofNat ((L : Int).toNat); rw [Int.toNat_natCast]
        · have hj2 : j < L := by
            have : (lenT (oh L xs) 102) = (L : Int).toNat := rfl
            omega
          rw [g5 j hj2]
          show _ = some (Value.int (Int32.ofInt ((xs ((j : Int).toNat)).toInt)))
          rw [Int32.ofInt_toInt, Int.toNat_natCast]
  obtain ⟨hfin, hrun⟩ := hlaw L xs hL
  have hlv : lvH ad ls2 (nl 187) [aR 102, aR 0, aR 80, aN] := by
    refine ⟨hl2.1, hl2.2.1, rfl, fun i v hi hv => ?_⟩
    match i, hi with
    | 0, hi => cases hi; show ls2[0]? = some (.val (.ref (ad 102))); rw [had4]; exact lv_at hl2 2 rfl
    | 1, hi =>
      cases hi
      show ls2[1]? = some (.val (.ref (ad 0)))
      rw [had 0 (by decide), sg_0.1, ← has]
      exact lv_at hl2 1 rfl
    | 2, hi =>
      cases hi
      show ls2[2]? = some (.val (.ref (ad 80)))
      rw [had 80 (by decide), sg_0.2, ← has, ada_app (by simp only [List.length_append, List.length_singleton] at y1 ⊢; omega), ← n1, hq2]
      exact lv_at hl2 0 rfl
    | 3, hi => cases hi; cases hv
    | k + 4, hi => simp at hi
  refine X_snd l (dC, dI) ad cI A (oh L xs) hrun p e room_1 s m #[Value.ref b] below meth c H4 _ ls2 98 1916 (lw_Z below #[Value.ref b] s) ⟨hx, hb, hml, hown, htg, hK, hout, hap, by show (0 : Int) ≤ (L : Int); omega, by show (L : Int) < 2147483648; omega⟩ (by show rf 187 ≤ 12; decide +kernel) (by show rl 187 ≤ 482; decide +kernel) (Nat.le_refl _) (Nat.le_refl _) hlv ⟨hPm, hS4, fun pl hpl => by funext i; show h0 L xs pl i = _; unfold h0; rw [if_neg (by omega)]⟩ ?_
  intro H5 locs5 pc5 ls5 hH5 _ hsome
  have hd5 := (hsome 1 rfl).1
  refine va_forget (fun q hq => ?_) ?_
  · have := hH5.2.1.2.2 q hq
    rw [hAd] at this
    exact this
  · exact lw_ret hx hb hr hlocks hd5

