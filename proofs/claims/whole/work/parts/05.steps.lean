/-! SOUNDNESS, instruction by instruction -/
section SND
variable {l : Launch} {D : va_G} {ad : Nat → Nat} {cI : ClassId} {A : Nat → Prop} {o : Hp}
theorem ws_pure {m pc pc1 : Nat} {L st st1 : List AV} {h : Hp} {r : RV} (ih : WS l D ad cI A o (m, pc1, L, st1, h) r)
    (row : ∀ (p : Program) (e : Env) (R : Room) (s : State) (mm : MethodId) (args : Array Value) (below : List Frame) (meth : Method) (cd : Code) (H : Heap) (locs : List Loc) (ls : Array Slot) (cells slots : Nat) (Q : State → Prop), Fx D ad cI A o p s mm args meth cd m → rf m ≤ R.frames → rl m ≤ R.locals → cells ≤ R.cells → slots ≤ R.slots → lvH ad ls (nl m) L → Hd D ad cI A o s h H locs → W p l e R s mm args below meth cd H locs cells slots Q (F0 mm pc1 ls (st1.map (cv ad))) → W p l e R s mm args below meth cd H locs cells slots Q (F0 mm pc ls (st.map (cv ad)))) : WS l D ad cI A o (m, pc, L, st, h) r := by
  intro p e R s mm args below meth cd H locs ls cells slots Q hF h1 h2 h3 h4 hl hH hE
  exact row p e R s mm args below meth cd H locs ls cells slots Q hF h1 h2 h3 h4 hl hH (ih p e R s mm args below meth cd H locs ls cells slots Q hF h1 h2 h3 h4 hl hH hE)
theorem chk1_at {m pc len : Nat} {i : Instr} (h : chk1 m pc len i = true) : len = 1 ∧ decode (bb m) pc = .ok (i, 1) := by
  have h := Bool.and_eq_true_iff.mp h
  exact ⟨beq_iff_eq.mp h.1, dc_at h.2⟩
theorem d_s2 {F : Cf → Res} (ih : ∀ c r, F c = some r → WS l D ad cI A o c r) {len m pc : Nat} {L st : List AV} {h : Hp} {r : RV} {f : Int → Int → Int} {i : Instr}
    (row : ∀ (p : Program) (e : Env) (R : Room) (s : State) (mm : MethodId) (args : Array Value) (below : List Frame) (meth : Method) (cd : Code) (H : Heap) (locs : List Loc) (ls : Array Slot) (cells slots : Nat) (Q : State → Prop) (rest : List Value) (x y : Int), p.tables.exec = Jvm.exec → cd.code = bb m → decode (bb m) pc = .ok (i, 1) → W p l e R s mm args below meth cd H locs cells slots Q (F0 mm (pc + 1) ls (.int (Int32.ofInt (f x y)) :: rest)) → W p l e R s mm args below meth cd H locs cells slots Q (F0 mm pc ls (.int (Int32.ofInt y) :: .int (Int32.ofInt x) :: rest)))
    (hc : chk1 m pc len i = true) (hr : does F F (s2 f len m pc L st h) = some r) : WS l D ad cI A o (m, pc, L, st, h) r := by
  obtain ⟨rfl, hd⟩ := chk1_at hc
  unfold s2 at hr
  split at hr
  · exact ws_pure (ih _ _ hr) fun p e R s mm args below meth cd H locs ls cells slots Q hF _ _ _ _ _ _ hW => row p e R s mm args below meth cd H locs ls cells slots Q _ _ _ hF.1 hF.2.1 hd hW
  · cases hr
theorem d_s1 {F : Cf → Res} (ih : ∀ c r, F c = some r → WS l D ad cI A o c r) {len m pc : Nat} {L st : List AV} {h : Hp} {r : RV} {f : Int → Int} {i : Instr}
    (row : ∀ (p : Program) (e : Env) (R : Room) (s : State) (mm : MethodId) (args : Array Value) (below : List Frame) (meth : Method) (cd : Code) (H : Heap) (locs : List Loc) (ls : Array Slot) (cells slots : Nat) (Q : State → Prop) (rest : List Value) (x : Int), p.tables.exec = Jvm.exec → cd.code = bb m → decode (bb m) pc = .ok (i, 1) → W p l e R s mm args below meth cd H locs cells slots Q (F0 mm (pc + 1) ls (.int (Int32.ofInt (f x)) :: rest)) → W p l e R s mm args below meth cd H locs cells slots Q (F0 mm pc ls (.int (Int32.ofInt x) :: rest)))
    (hc : chk1 m pc len i = true) (hr : does F F (s1 f len m pc L st h) = some r) : WS l D ad cI A o (m, pc, L, st, h) r := by
  obtain ⟨rfl, hd⟩ := chk1_at hc
  unfold s1 at hr
  split at hr
  · exact ws_pure (ih _ _ hr) fun p e R s mm args below meth cd H locs ls cells slots Q hF _ _ _ _ _ _ hW => row p e R s mm args below meth cd H locs ls cells slots Q _ _ hF.1 hF.2.1 hd hW
  · cases hr
theorem d_q2 {F : Cf → Res} (ih : ∀ c r, F c = some r → WS l D ad cI A o c r) {len m pc : Nat} {L st : List AV} {h : Hp} {r : RV} {f : Int → Int → Int} {i : Instr}
    (row : ∀ (p : Program) (e : Env) (R : Room) (s : State) (mm : MethodId) (args : Array Value) (below : List Frame) (meth : Method) (cd : Code) (H : Heap) (locs : List Loc) (ls : Array Slot) (cells slots : Nat) (Q : State → Prop) (rest : List Value) (x y : Int), p.tables.exec = Jvm.exec → cd.code = bb m → decode (bb m) pc = .ok (i, 1) → W p l e R s mm args below meth cd H locs cells slots Q (F0 mm (pc + 1) ls (.long (Int64.ofInt (f x y)) :: rest)) → W p l e R s mm args below meth cd H locs cells slots Q (F0 mm pc ls (.long (Int64.ofInt y) :: .long (Int64.ofInt x) :: rest)))
    (hc : chk1 m pc len i = true) (hr : does F F (q2 f len m pc L st h) = some r) : WS l D ad cI A o (m, pc, L, st, h) r := by
  obtain ⟨rfl, hd⟩ := chk1_at hc
  unfold q2 at hr
  split at hr
  · exact ws_pure (ih _ _ hr) fun p e R s mm args below meth cd H locs ls cells slots Q hF _ _ _ _ _ _ hW => row p e R s mm args below meth cd H locs ls cells slots Q _ _ _ hF.1 hF.2.1 hd hW
  · cases hr
theorem d_q1 {F : Cf → Res} (ih : ∀ c r, F c = some r → WS l D ad cI A o c r) {len m pc : Nat} {L st : List AV} {h : Hp} {r : RV} {f : Int → Int → Int} {i : Instr}
    (row : ∀ (p : Program) (e : Env) (R : Room) (s : State) (mm : MethodId) (args : Array Value) (below : List Frame) (meth : Method) (cd : Code) (H : Heap) (locs : List Loc) (ls : Array Slot) (cells slots : Nat) (Q : State → Prop) (rest : List Value) (x y : Int), p.tables.exec = Jvm.exec → cd.code = bb m → decode (bb m) pc = .ok (i, 1) → W p l e R s mm args below meth cd H locs cells slots Q (F0 mm (pc + 1) ls (.long (Int64.ofInt (f x y)) :: rest)) → W p l e R s mm args below meth cd H locs cells slots Q (F0 mm pc ls (.int (Int32.ofInt y) :: .long (Int64.ofInt x) :: rest)))
    (hc : chk1 m pc len i = true) (hr : does F F (q1 f len m pc L st h) = some r) : WS l D ad cI A o (m, pc, L, st, h) r := by
  obtain ⟨rfl, hd⟩ := chk1_at hc
  unfold q1 at hr
  split at hr
  · exact ws_pure (ih _ _ hr) fun p e R s mm args below meth cd H locs ls cells slots Q hF _ _ _ _ _ _ hW => row p e R s mm args below meth cd H locs ls cells slots Q _ _ _ hF.1 hF.2.1 hd hW
  · cases hr
theorem d_7 {F : Cf → Res} (ih : ∀ c r, F c = some r → WS l D ad cI A o c r) {len a m pc : Nat} {v : Int} {L st : List AV} {h : Hp} {r : RV} (hc : chk m pc 7 len a v = true) (hr : does F F (sem 7 len a v m pc L st h) = some r) : WS l D ad cI A o (m, pc, L, st, h) r :=
  d_s2 ih (fun p e R s mm args below meth cd H locs ls cells slots Q rest x y hx hb hd hW => lv_iadd hx hb hd (by rw [← Int32.ofInt_add]; exact hW)) hc hr
theorem d_8 {F : Cf → Res} (ih : ∀ c r, F c = some r → WS l D ad cI A o c r) {len a m pc : Nat} {v : Int} {L st : List AV} {h : Hp} {r : RV} (hc : chk m pc 8 len a v = true) (hr : does F F (sem 8 len a v m pc L st h) = some r) : WS l D ad cI A o (m, pc, L, st, h) r :=
  d_s2 ih (fun p e R s mm args below meth cd H locs ls cells slots Q rest x y hx hb hd hW => lv_isub hx hb hd (by rw [← Int32.ofInt_sub]; exact hW)) hc hr
theorem d_9 {F : Cf → Res} (ih : ∀ c r, F c = some r → WS l D ad cI A o c r) {len a m pc : Nat} {v : Int} {L st : List AV} {h : Hp} {r : RV} (hc : chk m pc 9 len a v = true) (hr : does F F (sem 9 len a v m pc L st h) = some r) : WS l D ad cI A o (m, pc, L, st, h) r :=
  d_s2 ih (fun p e R s mm args below meth cd H locs ls cells slots Q rest x y hx hb hd hW => lv_imul hx hb hd (by rw [← Int32.ofInt_mul]; exact hW)) hc hr
theorem d_11 {F : Cf → Res} (ih : ∀ c r, F c = some r → WS l D ad cI A o c r) {len a m pc : Nat} {v : Int} {L st : List AV} {h : Hp} {r : RV} (hc : chk m pc 11 len a v = true) (hr : does F F (sem 11 len a v m pc L st h) = some r) : WS l D ad cI A o (m, pc, L, st, h) r :=
  d_s1 ih (fun p e R s mm args below meth cd H locs ls cells slots Q rest x hx hb hd hW => lv_ineg hx hb hd (by rw [← Int32.ofInt_neg]; exact hW)) hc hr
theorem d_12 {F : Cf → Res} (ih : ∀ c r, F c = some r → WS l D ad cI A o c r) {len a m pc : Nat} {v : Int} {L st : List AV} {h : Hp} {r : RV} (hc : chk m pc 12 len a v = true) (hr : does F F (sem 12 len a v m pc L st h) = some r) : WS l D ad cI A o (m, pc, L, st, h) r :=
  d_s2 ih (fun p e R s mm args below meth cd H locs ls cells slots Q rest x y hx hb hd hW => lv_iand hx hb hd (by rw [jand, Int32.ofInt_toInt] at hW; exact hW)) hc hr
theorem d_13 {F : Cf → Res} (ih : ∀ c r, F c = some r → WS l D ad cI A o c r) {len a m pc : Nat} {v : Int} {L st : List AV} {h : Hp} {r : RV} (hc : chk m pc 13 len a v = true) (hr : does F F (sem 13 len a v m pc L st h) = some r) : WS l D ad cI A o (m, pc, L, st, h) r :=
  d_s2 ih (fun p e R s mm args below meth cd H locs ls cells slots Q rest x y hx hb hd hW => lv_ior hx hb hd (by rw [jor, Int32.ofInt_toInt] at hW; exact hW)) hc hr
theorem d_14 {F : Cf → Res} (ih : ∀ c r, F c = some r → WS l D ad cI A o c r) {len a m pc : Nat} {v : Int} {L st : List AV} {h : Hp} {r : RV} (hc : chk m pc 14 len a v = true) (hr : does F F (sem 14 len a v m pc L st h) = some r) : WS l D ad cI A o (m, pc, L, st, h) r :=
  d_s2 ih (fun p e R s mm args below meth cd H locs ls cells slots Q rest x y hx hb hd hW => lv_ixor hx hb hd (by rw [jxor, Int32.ofInt_toInt] at hW; exact hW)) hc hr
theorem d_15 {F : Cf → Res} (ih : ∀ c r, F c = some r → WS l D ad cI A o c r) {len a m pc : Nat} {v : Int} {L st : List AV} {h : Hp} {r : RV} (hc : chk m pc 15 len a v = true) (hr : does F F (sem 15 len a v m pc L st h) = some r) : WS l D ad cI A o (m, pc, L, st, h) r :=
  d_s2 ih (fun p e R s mm args below meth cd H locs ls cells slots Q rest x y hx hb hd hW => lv_ishl hx hb hd (by rw [jshl, Int32.ofInt_toInt] at hW; exact hW)) hc hr
theorem d_16 {F : Cf → Res} (ih : ∀ c r, F c = some r → WS l D ad cI A o c r) {len a m pc : Nat} {v : Int} {L st : List AV} {h : Hp} {r : RV} (hc : chk m pc 16 len a v = true) (hr : does F F (sem 16 len a v m pc L st h) = some r) : WS l D ad cI A o (m, pc, L, st, h) r :=
  d_s2 ih (fun p e R s mm args below meth cd H locs ls cells slots Q rest x y hx hb hd hW => lv_ishr hx hb hd (by rw [jshr, Int32.ofInt_toInt] at hW; exact hW)) hc hr
theorem d_17 {F : Cf → Res} (ih : ∀ c r, F c = some r → WS l D ad cI A o c r) {len a m pc : Nat} {v : Int} {L st : List AV} {h : Hp} {r : RV} (hc : chk m pc 17 len a v = true) (hr : does F F (sem 17 len a v m pc L st h) = some r) : WS l D ad cI A o (m, pc, L, st, h) r :=
  d_s2 ih (fun p e R s mm args below meth cd H locs ls cells slots Q rest x y hx hb hd hW => lv_iushr hx hb hd rfl (by rw [jushr, Int32.ofInt_toInt] at hW; exact hW)) hc hr
theorem d_20 {F : Cf → Res} (ih : ∀ c r, F c = some r → WS l D ad cI A o c r) {len a m pc : Nat} {v : Int} {L st : List AV} {h : Hp} {r : RV} (hc : chk m pc 20 len a v = true) (hr : does F F (sem 20 len a v m pc L st h) = some r) : WS l D ad cI A o (m, pc, L, st, h) r :=
  d_q2 ih (fun p e R s mm args below meth cd H locs ls cells slots Q rest x y hx hb hd hW => lv_land hx hb hd (by rw [qand, Int64.ofInt_toInt] at hW; exact hW)) hc hr
theorem d_21 {F : Cf → Res} (ih : ∀ c r, F c = some r → WS l D ad cI A o c r) {len a m pc : Nat} {v : Int} {L st : List AV} {h : Hp} {r : RV} (hc : chk m pc 21 len a v = true) (hr : does F F (sem 21 len a v m pc L st h) = some r) : WS l D ad cI A o (m, pc, L, st, h) r :=
  d_q2 ih (fun p e R s mm args below meth cd H locs ls cells slots Q rest x y hx hb hd hW => lv_lor hx hb hd (by rw [qor, Int64.ofInt_toInt] at hW; exact hW)) hc hr
theorem d_22 {F : Cf → Res} (ih : ∀ c r, F c = some r → WS l D ad cI A o c r) {len a m pc : Nat} {v : Int} {L st : List AV} {h : Hp} {r : RV} (hc : chk m pc 22 len a v = true) (hr : does F F (sem 22 len a v m pc L st h) = some r) : WS l D ad cI A o (m, pc, L, st, h) r :=
  d_q1 ih (fun p e R s mm args below meth cd H locs ls cells slots Q rest x y hx hb hd hW => lv_lshl hx hb hd rfl (by rw [qshl, Int64.ofInt_toInt] at hW; exact hW)) hc hr
theorem d_23 {F : Cf → Res} (ih : ∀ c r, F c = some r → WS l D ad cI A o c r) {len a m pc : Nat} {v : Int} {L st : List AV} {h : Hp} {r : RV} (hc : chk m pc 23 len a v = true) (hr : does F F (sem 23 len a v m pc L st h) = some r) : WS l D ad cI A o (m, pc, L, st, h) r :=
  d_q1 ih (fun p e R s mm args below meth cd H locs ls cells slots Q rest x y hx hb hd hW => lv_lshr hx hb hd rfl (by rw [qshr, Int64.ofInt_toInt] at hW; exact hW)) hc hr
theorem d_24 {F : Cf → Res} (ih : ∀ c r, F c = some r → WS l D ad cI A o c r) {len a m pc : Nat} {v : Int} {L st : List AV} {h : Hp} {r : RV} (hc : chk m pc 24 len a v = true) (hr : does F F (sem 24 len a v m pc L st h) = some r) : WS l D ad cI A o (m, pc, L, st, h) r :=
  d_q1 ih (fun p e R s mm args below meth cd H locs ls cells slots Q rest x y hx hb hd hW => lv_lushr hx hb hd rfl (by rw [qushr, Int64.ofInt_toInt] at hW; exact hW)) hc hr
theorem d_27 {F : Cf → Res} (ih : ∀ c r, F c = some r → WS l D ad cI A o c r) {len a m pc : Nat} {v : Int} {L st : List AV} {h : Hp} {r : RV} (hc : chk m pc 27 len a v = true) (hr : does F F (sem 27 len a v m pc L st h) = some r) : WS l D ad cI A o (m, pc, L, st, h) r :=
  d_s1 ih (fun p e R s mm args below meth cd H locs ls cells slots Q rest x hx hb hd hW => lv_i2b hx hb hd rfl (by rw [jbyte, Int32.ofInt_toInt] at hW; exact hW)) hc hr
theorem d_28 {F : Cf → Res} (ih : ∀ c r, F c = some r → WS l D ad cI A o c r) {len a m pc : Nat} {v : Int} {L st : List AV} {h : Hp} {r : RV} (hc : chk m pc 28 len a v = true) (hr : does F F (sem 28 len a v m pc L st h) = some r) : WS l D ad cI A o (m, pc, L, st, h) r :=
  d_s1 ih (fun p e R s mm args below meth cd H locs ls cells slots Q rest x hx hb hd hW => lv_i2s hx hb hd rfl (by rw [jshort, Int32.ofInt_toInt] at hW; exact hW)) hc hr
theorem own_at {m : Nat} {s : State} {mm : MethodId} {e1 : Nat} (h : s.vm.findClass (cnm (ow m)) = some mm.cls) (he : (e1 == ow m) = true) : s.vm.findClass (cnm e1) = some mm.cls := by
  rw [beq_iff_eq.mp he]; exact h
theorem d_0 {F : Cf → Res} (ih : ∀ c r, F c = some r → WS l D ad cI A o c r) {len a m pc : Nat} {v : Int} {L st : List AV} {h : Hp} {r : RV} (hc : chk m pc 0 len a v = true) (hr : does F F (sem 0 len a v m pc L st h) = some r) : WS l D ad cI A o (m, pc, L, st, h) r := by
  replace hc : ((a == 0 && (len == 1 && dc m pc (.iconst v) 1)) || (a == 1 && (len == 2 && (dc m pc (.bipush v) 2 && decide ((Int8.ofInt v).toInt32 = Int32.ofInt v)))) || (a == 2 && (len == 3 && (dc m pc (.sipush v) 3 && decide ((Int16.ofInt v).toInt32 = Int32.ofInt v)))) || chkC m pc len v (a - 3)) = true := hc
  refine ws_pure (ih _ _ hr) fun p e R s mm args below meth cd H locs ls cells slots Q hF _ _ _ _ _ _ hW => ?_
  simp only [Bool.or_eq_true, Bool.and_eq_true, beq_iff_eq, decide_eq_true_eq] at hc
  rcases hc with ((⟨-, rfl, hd⟩ | ⟨-, rfl, hd, hv⟩) | ⟨-, rfl, hd, hv⟩) | hc
  · exact lv_iconst hF.1 hF.2.1 (dc_at hd) rfl hW
  · exact lv_bipush hF.1 hF.2.1 (dc_at hd) hv hW
  · exact lv_sipush hF.1 hF.2.1 (dc_at hd) hv hW
  · unfold chkC at hc
    split at hc
    · rename_i q he
      simp only [Bool.or_eq_true, Bool.and_eq_true, beq_iff_eq, Bool.not_eq_true'] at hc
      obtain ⟨⟨⟨hk, ho⟩, rfl⟩, hd⟩ := hc
      have hw := ct_ok q (List.mem_of_getElem? he)
      have hw2 : (Cond.constant (cnm q.1) q.2.1 (Int32.ofInt q.2.2.1)).before args s = true := by
        have := hF.2.2.2.2.1 _ (tg_at hw)
        unfold ctw at this
        rw [hk] at this
        exact this
      have hown : s.vm.findClass (cnm q.1) = some mm.cls := by rw [ho]; exact hF.2.2.2.1
      rcases hd with ⟨rfl, hd⟩ | ⟨rfl, hd⟩
      · exact lv_ldc hF.1 hF.2.1 hown hw2 (dc_at hd) hW
      · exact lv_ldcw hF.1 hF.2.1 hown hw2 (dc_at hd) hW
    · cases hc
theorem d_18 {F : Cf → Res} (ih : ∀ c r, F c = some r → WS l D ad cI A o c r) {len a m pc : Nat} {v : Int} {L st : List AV} {h : Hp} {r : RV} (hc : chk m pc 18 len a v = true) (hr : does F F (sem 18 len a v m pc L st h) = some r) : WS l D ad cI A o (m, pc, L, st, h) r := by
  replace hc : ((a == 0 && (len == 1 && ((v == 0 && dc m pc (.lconst 0) 1) || (v == 1 && dc m pc (.lconst 1) 1)))) || (len == 3 && chkL m pc v (a - 1))) = true := hc
  refine ws_pure (ih _ _ hr) fun p e R s mm args below meth cd H locs ls cells slots Q hF _ _ _ _ _ _ hW => ?_
  simp only [Bool.or_eq_true, Bool.and_eq_true, beq_iff_eq] at hc
  rcases hc with ⟨-, rfl, ⟨rfl, hd⟩ | ⟨rfl, hd⟩⟩ | ⟨rfl, hcL⟩
  · exact lv_lconst hF.1 hF.2.1 (dc_at hd) rfl hW
  · exact lv_lconst hF.1 hF.2.1 (dc_at hd) rfl hW
  · unfold chkL at hcL
    split at hcL
    · rename_i q he
      simp only [Bool.and_eq_true, beq_iff_eq] at hcL
      obtain ⟨⟨⟨hk, ho⟩, rfl⟩, hd⟩ := hcL
      have hw := ct_ok q (List.mem_of_getElem? he)
      have hw2 : (Cond.constantLong (cnm q.1) q.2.1 (Int64.ofInt q.2.2.1)).before args s = true := by
        have := hF.2.2.2.2.1 _ (tg_at hw)
        unfold ctw at this
        rw [hk] at this
        exact this
      have hown : s.vm.findClass (cnm q.1) = some mm.cls := by rw [ho]; exact hF.2.2.2.1
      exact lv_ldc2 hF.1 hF.2.1 hown hw2 (dc_at hd) hW
    · cases hcL
theorem chkN_at {m pc len a : Nat} {i : Fin 4 → Instr} {j : Nat → Instr} (h : chkN m pc len a i j = true) : (len = 1 ∧ ((Fin.ofNat 4 a : Fin 4) : Nat) = a ∧ decode (bb m) pc = .ok (i (Fin.ofNat 4 a), 1)) ∨ (len = 2 ∧ decode (bb m) pc = .ok (j a, 2)) := by
  unfold chkN at h
  simp only [Bool.or_eq_true, Bool.and_eq_true, beq_iff_eq, decide_eq_true_eq] at h
  rcases h with ⟨⟨h1, h2⟩, h3⟩ | ⟨h1, h2⟩
  · exact Or.inl ⟨h1, Nat.mod_eq_of_lt h2, dc_at h3⟩
  · exact Or.inr ⟨h1, dc_at h2⟩
theorem d_1 {F : Cf → Res} (ih : ∀ c r, F c = some r → WS l D ad cI A o c r) {len a m pc : Nat} {v : Int} {L st : List AV} {h : Hp} {r : RV} (hc : chk m pc 1 len a v = true) (hr : does F F (sem 1 len a v m pc L st h) = some r) : WS l D ad cI A o (m, pc, L, st, h) r := by
  replace hr : does F F (s_iload len a m pc L st h) = some r := hr
  unfold s_iload at hr
  split at hr
  · rename_i x hx
    refine ws_pure (ih _ _ hr) fun p e R s mm args below meth cd H locs ls cells slots Q hF _ _ _ _ hl _ hW => ?_
    have hg := lvH_get hl hx rfl
    rcases chkN_at hc with ⟨rfl, hi, hd⟩ | ⟨rfl, hd⟩
    · exact lv_iload_n hF.1 hF.2.1 hd hi hg hW
    · exact lv_iload hF.1 hF.2.1 hd hg hW
  · cases hr
theorem d_2 {F : Cf → Res} (ih : ∀ c r, F c = some r → WS l D ad cI A o c r) {len a m pc : Nat} {v : Int} {L st : List AV} {h : Hp} {r : RV} (hc : chk m pc 2 len a v = true) (hr : does F F (sem 2 len a v m pc L st h) = some r) : WS l D ad cI A o (m, pc, L, st, h) r := by
  replace hr : does F F (s_aload len a m pc L st h) = some r := hr
  unfold s_aload at hr
  split at hr
  · rename_i x hx
    refine ws_pure (ih _ _ hr) fun p e R s mm args below meth cd H locs ls cells slots Q hF _ _ _ _ hl _ hW => ?_
    have hg := lvH_get hl hx rfl
    rcases chkN_at hc with ⟨rfl, hi, hd⟩ | ⟨rfl, hd⟩
    · exact lv_aload_n hF.1 hF.2.1 hd hi hg hW
    · exact lv_aload hF.1 hF.2.1 hd hg hW
  · cases hr
theorem d_3 {F : Cf → Res} (ih : ∀ c r, F c = some r → WS l D ad cI A o c r) {len a m pc : Nat} {v : Int} {L st : List AV} {h : Hp} {r : RV} (hc : chk m pc 3 len a v = true) (hr : does F F (sem 3 len a v m pc L st h) = some r) : WS l D ad cI A o (m, pc, L, st, h) r := by
  replace hr : does F F (s_lload len a m pc L st h) = some r := hr
  unfold s_lload at hr
  split at hr
  · rename_i x hx
    refine ws_pure (ih _ _ hr) fun p e R s mm args below meth cd H locs ls cells slots Q hF _ _ _ _ hl _ hW => ?_
    have hg := lvH_get hl hx rfl
    rcases chkN_at hc with ⟨rfl, hi, hd⟩ | ⟨rfl, hd⟩
    · exact lv_lload_n hF.1 hF.2.1 hd hi hg hW
    · exact lv_lload hF.1 hF.2.1 hd hg hW
  · cases hr
theorem d_4 {F : Cf → Res} (ih : ∀ c r, F c = some r → WS l D ad cI A o c r) {len a m pc : Nat} {v : Int} {L st : List AV} {h : Hp} {r : RV} (hc : chk m pc 4 len a v = true) (hr : does F F (sem 4 len a v m pc L st h) = some r) : WS l D ad cI A o (m, pc, L, st, h) r := by
  replace hr : does F F (s_istore len a m pc L st h) = some r := hr
  unfold s_istore at hr
  split at hr
  · rename_i x r1 hb
    simp only [Bool.and_eq_true, decide_eq_true_eq] at hb
    intro p e R s mm args below meth cd H locs ls cells slots Q hF h1 h2 h3 h4 hl hH hE
    have hn : a < nl m := by rw [← hl.2.2.1]; exact hb.2
    rcases chkN_at hc with ⟨rfl, hi, hd⟩ | ⟨rfl, hd⟩
    · refine lv_istore_n hF.1 hF.2.1 hd hi (al_has hl) hn rfl (fun ls1 hl1 => ?_)
      exact ih _ _ hr p e R s mm args below meth cd H locs ls1 cells slots Q hF h1 h2 h3 h4 (lvH_set hl hb.1 hb.2 hl1) hH hE
    · refine lv_istore hF.1 hF.2.1 hd (al_has hl) hn rfl (fun ls1 hl1 => ?_)
      exact ih _ _ hr p e R s mm args below meth cd H locs ls1 cells slots Q hF h1 h2 h3 h4 (lvH_set hl hb.1 hb.2 hl1) hH hE
  · cases hr
theorem d_5 {F : Cf → Res} (ih : ∀ c r, F c = some r → WS l D ad cI A o c r) {len a m pc : Nat} {v : Int} {L st : List AV} {h : Hp} {r : RV} (hc : chk m pc 5 len a v = true) (hr : does F F (sem 5 len a v m pc L st h) = some r) : WS l D ad cI A o (m, pc, L, st, h) r := by
  replace hr : does F F (s_astore len a m pc L st h) = some r := hr
  unfold s_astore at hr
  split at hr
  · rename_i x r1 hb
    simp only [Bool.and_eq_true, decide_eq_true_eq] at hb
    intro p e R s mm args below meth cd H locs ls cells slots Q hF h1 h2 h3 h4 hl hH hE
    have hn : a < nl m := by rw [← hl.2.2.1]; exact hb.2
    rcases chkN_at hc with ⟨rfl, hi, hd⟩ | ⟨rfl, hd⟩
    · refine lv_astore_n hF.1 hF.2.1 hd hi (al_has hl) hn rfl (fun ls1 hl1 => ?_)
      exact ih _ _ hr p e R s mm args below meth cd H locs ls1 cells slots Q hF h1 h2 h3 h4 (lvH_set hl hb.1 hb.2 hl1) hH hE
    · refine lv_astore hF.1 hF.2.1 hd (al_has hl) hn rfl (fun ls1 hl1 => ?_)
      exact ih _ _ hr p e R s mm args below meth cd H locs ls1 cells slots Q hF h1 h2 h3 h4 (lvH_set hl hb.1 hb.2 hl1) hH hE
  · cases hr
theorem d_6 {F : Cf → Res} (ih : ∀ c r, F c = some r → WS l D ad cI A o c r) {len a m pc : Nat} {v : Int} {L st : List AV} {h : Hp} {r : RV} (hc : chk m pc 6 len a v = true) (hr : does F F (sem 6 len a v m pc L st h) = some r) : WS l D ad cI A o (m, pc, L, st, h) r := by
  replace hc : (len == 3 && dc m pc (.iinc a v) 3) = true := hc
  simp only [Bool.and_eq_true, beq_iff_eq] at hc
  obtain ⟨rfl, hd⟩ := hc
  replace hr : does F F (s_iinc 3 a v m pc L st h) = some r := hr
  unfold s_iinc at hr
  split at hr
  · rename_i x hx hno
    intro p e R s mm args below meth cd H locs ls cells slots Q hF h1 h2 h3 h4 hl hH hE
    have ha : a < L.length := (List.getElem?_eq_some_iff.mp hx).1
    have hn : a < nl m := by rw [← hl.2.2.1]; exact ha
    obtain ⟨k, hk⟩ := List.getElem?_of_mem (al_in (ad := ad) hx rfl)
    refine lv_iinc (v := Int32.ofInt (x + v)) hF.1 hF.2.1 (dc_at hd) (al_has hl) hk (by rw [Int32.ofInt_add]) hn rfl (fun ls1 hl1 => ?_)
    exact ih _ _ hr p e R s mm args below meth cd H locs ls1 cells slots Q hF h1 h2 h3 h4 (lvH_set (v := aI (x + v)) hl hno ha hl1) hH hE
  · cases hr
theorem d_29 {F : Cf → Res} (ih : ∀ c r, F c = some r → WS l D ad cI A o c r) {len a m pc : Nat} {v : Int} {L st : List AV} {h : Hp} {r : RV} (hc : chk m pc 29 len a v = true) (hr : does F F (sem 29 len a v m pc L st h) = some r) : WS l D ad cI A o (m, pc, L, st, h) r := by
  obtain ⟨rfl, hd⟩ := chk1_at hc
  replace hr : does F F (s_dup 1 m pc L st h) = some r := hr
  unfold s_dup at hr
  split at hr
  · exact ws_pure (ih _ _ hr) fun p e R s mm args below meth cd H locs ls cells slots Q hF _ _ _ _ _ _ hW => lv_dup hF.1 hF.2.1 hd rfl hW
  · exact ws_pure (ih _ _ hr) fun p e R s mm args below meth cd H locs ls cells slots Q hF _ _ _ _ _ _ hW => lv_dup hF.1 hF.2.1 hd rfl hW
  · cases hr
theorem d_30 {F : Cf → Res} (ih : ∀ c r, F c = some r → WS l D ad cI A o c r) {len a m pc : Nat} {v : Int} {L st : List AV} {h : Hp} {r : RV} (hc : chk m pc 30 len a v = true) (hr : does F F (sem 30 len a v m pc L st h) = some r) : WS l D ad cI A o (m, pc, L, st, h) r := by
  obtain ⟨rfl, hd⟩ := chk1_at hc
  replace hr : does F F (s_dup2 1 m pc L st h) = some r := hr
  unfold s_dup2 at hr
  split at hr
  · exact ws_pure (ih _ _ hr) fun p e R s mm args below meth cd H locs ls cells slots Q hF _ _ _ _ _ _ hW => lv_dup2_11 hF.1 hF.2.1 hd rfl rfl hW
  · cases hr
theorem d_31 {F : Cf → Res} (ih : ∀ c r, F c = some r → WS l D ad cI A o c r) {len a m pc : Nat} {v : Int} {L st : List AV} {h : Hp} {r : RV} (hc : chk m pc 31 len a v = true) (hr : does F F (sem 31 len a v m pc L st h) = some r) : WS l D ad cI A o (m, pc, L, st, h) r := by
  obtain ⟨rfl, hd⟩ := chk1_at hc
  replace hr : does F F (s_pop 1 m pc L st h) = some r := hr
  unfold s_pop at hr
  split at hr
  · exact ws_pure (ih _ _ hr) fun p e R s mm args below meth cd H locs ls cells slots Q hF _ _ _ _ _ _ hW => lv_pop hF.1 hF.2.1 hd rfl hW
  · cases hr
theorem d_19 {F : Cf → Res} (ih : ∀ c r, F c = some r → WS l D ad cI A o c r) {len a m pc : Nat} {v : Int} {L st : List AV} {h : Hp} {r : RV} (hc : chk m pc 19 len a v = true) (hr : does F F (sem 19 len a v m pc L st h) = some r) : WS l D ad cI A o (m, pc, L, st, h) r := by
  obtain ⟨rfl, hd⟩ := chk1_at hc
  replace hr : does F F (s_lcmp m pc L st h) = some r := hr
  unfold s_lcmp at hr
  split at hr
  · exact ws_pure (ih _ _ hr) fun p e R s mm args below meth cd H locs ls cells slots Q hF _ _ _ _ _ _ hW => W.lcmp hF.1 hF.2.1 hd (by rw [List.map_cons, cv, qcmp, Int32.ofInt_toInt] at hW; exact hW)
  · cases hr
theorem d_25 {F : Cf → Res} (ih : ∀ c r, F c = some r → WS l D ad cI A o c r) {len a m pc : Nat} {v : Int} {L st : List AV} {h : Hp} {r : RV} (hc : chk m pc 25 len a v = true) (hr : does F F (sem 25 len a v m pc L st h) = some r) : WS l D ad cI A o (m, pc, L, st, h) r := by
  obtain ⟨rfl, hd⟩ := chk1_at hc
  replace hr : does F F (s_l2i m pc L st h) = some r := hr
  unfold s_l2i at hr
  split at hr
  · exact ws_pure (ih _ _ hr) fun p e R s mm args below meth cd H locs ls cells slots Q hF _ _ _ _ _ _ hW => lv_l2i hF.1 hF.2.1 hd Int64.toInt32_ofInt hW
  · cases hr
theorem d_26 {F : Cf → Res} (ih : ∀ c r, F c = some r → WS l D ad cI A o c r) {len a m pc : Nat} {v : Int} {L st : List AV} {h : Hp} {r : RV} (hc : chk m pc 26 len a v = true) (hr : does F F (sem 26 len a v m pc L st h) = some r) : WS l D ad cI A o (m, pc, L, st, h) r := by
  obtain ⟨rfl, hd⟩ := chk1_at hc
  replace hr : does F F (s_i2l m pc L st h) = some r := hr
  unfold s_i2l at hr
  split at hr
  · exact ws_pure (ih _ _ hr) fun p e R s mm args below meth cd H locs ls cells slots Q hF _ _ _ _ _ _ hW => lv_i2l hF.1 hF.2.1 hd (by rw [← Int64.ofInt_int32ToInt, wr_eq]) hW
  · cases hr
theorem d_10 {F : Cf → Res} (ih : ∀ c r, F c = some r → WS l D ad cI A o c r) {len a m pc : Nat} {v : Int} {L st : List AV} {h : Hp} {r : RV} (hc : chk m pc 10 len a v = true) (hr : does F F (sem 10 len a v m pc L st h) = some r) : WS l D ad cI A o (m, pc, L, st, h) r := by
  obtain ⟨rfl, hd⟩ := chk1_at hc
  replace hr : does F F (s_idiv m pc L st h) = some r := hr
  unfold s_idiv at hr
  split at hr
  · rename_i y x r1
    replace hr : cond (decide (wr y ≠ 0)) (F (m, pc + 1, L, aI (jdiv x y) :: r1, h)) none = some r := hr
    cases hy : decide (wr y ≠ 0) with
    | false => rw [hy] at hr; cases hr
    | true =>
      rw [hy] at hr
      have hy := of_decide_eq_true hy
      exact ws_pure (ih _ _ hr) fun p e R s mm args below meth cd H locs ls cells slots Q hF _ _ _ _ _ _ hW => lv_idiv hF.1 hF.2.1 hd (fun z => hy (by rw [← wr_0]; exact (wr_inj y 0).mp z)) (by rw [List.map_cons, cv, jdiv, Int32.ofInt_toInt] at hW; exact hW)
  · cases hr
theorem d_34 {F : Cf → Res} (ih : ∀ c r, F c = some r → WS l D ad cI A o c r) {len a m pc : Nat} {v : Int} {L st : List AV} {h : Hp} {r : RV} (hc : chk m pc 34 len a v = true) (hr : does F F (sem 34 len a v m pc L st h) = some r) : WS l D ad cI A o (m, pc, L, st, h) r := by
  exact ws_pure (ih _ _ hr) fun p e R s mm args below meth cd H locs ls cells slots Q hF _ _ _ _ _ _ hW => lv_goto hF.1 hF.2.1 (dc_at hc) (by omega) hW
theorem br_ws {F : Cf → Res} (ih : ∀ c r, F c = some r → WS l D ad cI A o c r) {b : Bool} {P : Prop} {c1 c2 : Cf} {r : RV} (hb : b = true ↔ P) (hr : does F F (aBr [(b, c1)] (some c2)) = some r) : (P → WS l D ad cI A o c1 r) ∧ (¬ P → WS l D ad cI A o c2 r) := by
  replace hr : cond b (F c1) (F c2) = some r := hr
  refine ⟨fun h => ?_, fun h => ?_⟩
  · rw [hb.mpr h] at hr; exact ih _ _ hr
  · have : b = false := by cases b with
      | true => exact absurd (hb.mp rfl) h
      | false => rfl
    rw [this] at hr; exact ih _ _ hr
theorem cb0 (x y : Int) : cmpB 0 (wr x) (wr y) = true ↔ Int32.ofInt x = Int32.ofInt y := by rw [wr_inj]; exact decide_eq_true_iff
theorem cb1 (x y : Int) : cmpB 1 (wr x) (wr y) = true ↔ Int32.ofInt x ≠ Int32.ofInt y := by rw [ne_eq, wr_inj]; exact decide_eq_true_iff
theorem cb2 (x y : Int) : cmpB 2 (wr x) (wr y) = true ↔ Int32.ofInt x < Int32.ofInt y := by rw [wr_lt]; exact decide_eq_true_iff
theorem cb3 (x y : Int) : cmpB 3 (wr x) (wr y) = true ↔ Int32.ofInt y ≤ Int32.ofInt x := by rw [wr_le]; exact decide_eq_true_iff
theorem cb4 (x y : Int) : cmpB 4 (wr x) (wr y) = true ↔ Int32.ofInt y < Int32.ofInt x := by rw [wr_lt]; exact decide_eq_true_iff
theorem cb5 (x y : Int) : cmpB 5 (wr x) (wr y) = true ↔ Int32.ofInt x ≤ Int32.ofInt y := by rw [wr_le]; exact decide_eq_true_iff
theorem cz0 (x : Int) : cmpB 0 (wr x) 0 = true ↔ Int32.ofInt x = 0 := by have := cb0 x 0; rw [wr_0] at this; exact this
theorem cz1 (x : Int) : cmpB 1 (wr x) 0 = true ↔ ¬ Int32.ofInt x = 0 := by have := cb1 x 0; rw [wr_0] at this; exact this
theorem cz2 (x : Int) : cmpB 2 (wr x) 0 = true ↔ Int32.ofInt x < 0 := by have := cb2 x 0; rw [wr_0] at this; exact this
theorem cz3 (x : Int) : cmpB 3 (wr x) 0 = true ↔ 0 ≤ Int32.ofInt x := by have := cb3 x 0; rw [wr_0] at this; exact this
theorem cz4 (x : Int) : cmpB 4 (wr x) 0 = true ↔ 0 < Int32.ofInt x := by have := cb4 x 0; rw [wr_0] at this; exact this
theorem cz5 (x : Int) : cmpB 5 (wr x) 0 = true ↔ Int32.ofInt x ≤ 0 := by have := cb5 x 0; rw [wr_0] at this; exact this
theorem d_32 {F : Cf → Res} (ih : ∀ c r, F c = some r → WS l D ad cI A o c r) {len a m pc : Nat} {v : Int} {L st : List AV} {h : Hp} {r : RV} (hc : chk m pc 32 len a v = true) (hr : does F F (sem 32 len a v m pc L st h) = some r) : WS l D ad cI A o (m, pc, L, st, h) r := by
  replace hr : does F F (s_if a v m pc L st h) = some r := hr
  unfold s_if at hr
  split at hr
  · rename_i x r1
    replace hc : chkIf m pc a v = true := hc
    unfold chkIf at hc
    simp only [Bool.or_eq_true, Bool.and_eq_true, beq_iff_eq] at hc
    intro p e R s mm args below meth cd H locs ls cells slots Q hF h1 h2 h3 h4 hl hH hE
    have ht : (pc : Int) + ((a : Int) - pc) = (a : Int) := by omega
    rcases hc with ((((⟨rfl, hd⟩ | ⟨rfl, hd⟩) | ⟨rfl, hd⟩) | ⟨rfl, hd⟩) | ⟨rfl, hd⟩) | ⟨rfl, hd⟩
    · obtain ⟨ht1, hf1⟩ := br_ws ih (cz0 x) hr
      exact lv_if_eq (tgt := a) hF.1 hF.2.1 (dc_at hd) ht (fun z => ht1 z p e R s mm args below meth cd H locs ls cells slots Q hF h1 h2 h3 h4 hl hH hE) (fun z => hf1 z p e R s mm args below meth cd H locs ls cells slots Q hF h1 h2 h3 h4 hl hH hE)
    · obtain ⟨ht1, hf1⟩ := br_ws ih (cz1 x) hr
      exact lv_if_ne (tgt := a) hF.1 hF.2.1 (dc_at hd) ht (fun z => ht1 z p e R s mm args below meth cd H locs ls cells slots Q hF h1 h2 h3 h4 hl hH hE) (fun z => hf1 (fun q => q z) p e R s mm args below meth cd H locs ls cells slots Q hF h1 h2 h3 h4 hl hH hE)
    · obtain ⟨ht1, hf1⟩ := br_ws ih (cz2 x) hr
      exact lv_if_lt (tgt := a) hF.1 hF.2.1 (dc_at hd) ht (fun z => ht1 z p e R s mm args below meth cd H locs ls cells slots Q hF h1 h2 h3 h4 hl hH hE) (fun z => hf1 z p e R s mm args below meth cd H locs ls cells slots Q hF h1 h2 h3 h4 hl hH hE)
    · obtain ⟨ht1, hf1⟩ := br_ws ih (cz3 x) hr
      exact lv_if_ge (tgt := a) hF.1 hF.2.1 (dc_at hd) ht (fun z => ht1 z p e R s mm args below meth cd H locs ls cells slots Q hF h1 h2 h3 h4 hl hH hE) (fun z => hf1 z p e R s mm args below meth cd H locs ls cells slots Q hF h1 h2 h3 h4 hl hH hE)
    · obtain ⟨ht1, hf1⟩ := br_ws ih (cz4 x) hr
      exact lv_if_gt (tgt := a) hF.1 hF.2.1 (dc_at hd) ht (fun z => ht1 z p e R s mm args below meth cd H locs ls cells slots Q hF h1 h2 h3 h4 hl hH hE) (fun z => hf1 z p e R s mm args below meth cd H locs ls cells slots Q hF h1 h2 h3 h4 hl hH hE)
    · obtain ⟨ht1, hf1⟩ := br_ws ih (cz5 x) hr
      exact lv_if_le (tgt := a) hF.1 hF.2.1 (dc_at hd) ht (fun z => ht1 z p e R s mm args below meth cd H locs ls cells slots Q hF h1 h2 h3 h4 hl hH hE) (fun z => hf1 z p e R s mm args below meth cd H locs ls cells slots Q hF h1 h2 h3 h4 hl hH hE)
  · cases hr
theorem d_33 {F : Cf → Res} (ih : ∀ c r, F c = some r → WS l D ad cI A o c r) {len a m pc : Nat} {v : Int} {L st : List AV} {h : Hp} {r : RV} (hc : chk m pc 33 len a v = true) (hr : does F F (sem 33 len a v m pc L st h) = some r) : WS l D ad cI A o (m, pc, L, st, h) r := by
  replace hr : does F F (s_icmp a v m pc L st h) = some r := hr
  unfold s_icmp at hr
  split at hr
  · rename_i y x r1
    replace hc : chkIc m pc a v = true := hc
    unfold chkIc at hc
    simp only [Bool.or_eq_true, Bool.and_eq_true, beq_iff_eq] at hc
    intro p e R s mm args below meth cd H locs ls cells slots Q hF h1 h2 h3 h4 hl hH hE
    have ht : (pc : Int) + ((a : Int) - pc) = (a : Int) := by omega
    rcases hc with ((((⟨rfl, hd⟩ | ⟨rfl, hd⟩) | ⟨rfl, hd⟩) | ⟨rfl, hd⟩) | ⟨rfl, hd⟩) | ⟨rfl, hd⟩
    · obtain ⟨ht1, hf1⟩ := br_ws ih (cb0 x y) hr
      exact lv_icmp_eq (tgt := a) hF.1 hF.2.1 (dc_at hd) ht (fun z => ht1 z p e R s mm args below meth cd H locs ls cells slots Q hF h1 h2 h3 h4 hl hH hE) (fun z => hf1 z p e R s mm args below meth cd H locs ls cells slots Q hF h1 h2 h3 h4 hl hH hE)
    · obtain ⟨ht1, hf1⟩ := br_ws ih (cb1 x y) hr
      exact lv_icmp_ne (tgt := a) hF.1 hF.2.1 (dc_at hd) ht (fun z => ht1 z p e R s mm args below meth cd H locs ls cells slots Q hF h1 h2 h3 h4 hl hH hE) (fun z => hf1 (fun q => q z) p e R s mm args below meth cd H locs ls cells slots Q hF h1 h2 h3 h4 hl hH hE)
    · obtain ⟨ht1, hf1⟩ := br_ws ih (cb2 x y) hr
      exact lv_icmp_lt (tgt := a) hF.1 hF.2.1 (dc_at hd) ht (fun z => ht1 z p e R s mm args below meth cd H locs ls cells slots Q hF h1 h2 h3 h4 hl hH hE) (fun z => hf1 z p e R s mm args below meth cd H locs ls cells slots Q hF h1 h2 h3 h4 hl hH hE)
    · obtain ⟨ht1, hf1⟩ := br_ws ih (cb3 x y) hr
      exact lv_icmp_ge (tgt := a) hF.1 hF.2.1 (dc_at hd) ht (fun z => ht1 z p e R s mm args below meth cd H locs ls cells slots Q hF h1 h2 h3 h4 hl hH hE) (fun z => hf1 z p e R s mm args below meth cd H locs ls cells slots Q hF h1 h2 h3 h4 hl hH hE)
    · obtain ⟨ht1, hf1⟩ := br_ws ih (cb4 x y) hr
      exact lv_icmp_gt (tgt := a) hF.1 hF.2.1 (dc_at hd) ht (fun z => ht1 z p e R s mm args below meth cd H locs ls cells slots Q hF h1 h2 h3 h4 hl hH hE) (fun z => hf1 z p e R s mm args below meth cd H locs ls cells slots Q hF h1 h2 h3 h4 hl hH hE)
    · obtain ⟨ht1, hf1⟩ := br_ws ih (cb5 x y) hr
      exact lv_icmp_le (tgt := a) hF.1 hF.2.1 (dc_at hd) ht (fun z => ht1 z p e R s mm args below meth cd H locs ls cells slots Q hF h1 h2 h3 h4 hl hH hE) (fun z => hf1 z p e R s mm args below meth cd H locs ls cells slots Q hF h1 h2 h3 h4 hl hH hE)
  · cases hr
end SND
