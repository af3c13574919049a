/-! SOUNDNESS of the constructors' machine -/
def dcC (m pc : Nat) (i : Instr) (n : Nat) : Bool := decide (decode (bC m) pc = .ok (i, n))
theorem dcC_at {m pc : Nat} {i : Instr} {n : Nat} (h : dcC m pc i n = true) : decode (bC m) pc = .ok (i, n) := of_decide_eq_true h
def ckN (m pc len a : Nat) (i : Fin 4 → Instr) : Bool := len == 1 && decide (a < 4) && dcC m pc (i (Fin.ofNat 4 a)) 1
def ckF (m pc a : Nat) (i : Nat → Instr) : Bool := match fcL[a]? with
  | some e => e.1 == oC m && dcC m pc (i e.2.1) 3
  | none => false
def chkK2 (m pc op len a : Nat) (v : Int) : Bool := match op with
  | 0 => (a == 0 && (len == 1 && dcC m pc (.iconst v) 1)) || (a == 1 && (len == 2 && (dcC m pc (.bipush v) 2 && decide ((Int8.ofInt v).toInt32 = Int32.ofInt v)))) || (a == 2 && (len == 3 && (dcC m pc (.sipush v) 3 && decide ((Int16.ofInt v).toInt32 = Int32.ofInt v))))
  | 1 => ckN m pc len a .iload_n
  | 2 => ckN m pc len a .aload_n
  | 4 => ckN m pc len a .istore_n
  | 5 => ckN m pc len a .astore_n
  | 6 => len == 3 && dcC m pc (.iinc a v) 3
  | 7 => dcC m pc .iadd 1
  | 9 => dcC m pc .imul 1
  | 10 => dcC m pc .idiv 1
  | 29 => dcC m pc .dup 1
  | 32 => v == 1 && dcC m pc (.ifCond .ne ((a : Int) - pc)) 3
  | 33 => (v == 1 && dcC m pc (.if_icmp .ne ((a : Int) - pc)) 3) || (v == 3 && dcC m pc (.if_icmp .ge ((a : Int) - pc)) 3)
  | 34 => dcC m pc (.goto ((a : Int) - pc)) 3
  | 38 => dcC m pc .iastore 1
  | 40 => ckF m pc a .getfield
  | 41 => ckF m pc a .putfield && (match fcL[a]? with
    | some e => e.1 == e.2.2.1 && decide (m < 11)
    | none => false)
  | 47 => dcC m pc .return_ 1 && decide (m < 11)
  | 60 => (match ncL[a]? with
    | some e => e.1 == oC m && dcC m pc (.new e.2.1) 3
    | none => false)
  | 61 => dcC m pc (.newarray .int) 2
  | 62 => (match ocL[a]? with
    | some e => e.1 == oC m && dcC m pc (.invokespecial e.2.1) 3 && decide (1 ≤ fC m) && decide (12 ≤ lC m)
    | none => false)
  | 63 => (match kcL[a]? with
    | some e => e.1 == oC m && dcC m pc (.invokespecial e.2.1) 3 && decide (fC e.2.2.1 + 1 ≤ fC m) && decide (8 + (nC e.2.2.1 + 11) + lC e.2.2.1 ≤ lC m)
    | none => false)
  | 64 => decide (m = 11)
  | _ => false
def chkAllC (m : Nat) : Bool := (prC m).zipIdx.all (fun q => q.1.1 == 99 || chkK2 m q.2 q.1.1 q.1.2.1 q.1.2.2.1 q.1.2.2.2)
theorem ckC_all : ∀ m, m < 12 → chkAllC m = true := by decide +kernel
theorem ckC_ok (m pc : Nat) (e : Nat × Nat × Nat × Int) (he : (prC m)[pc]? = some e) : (e.1 == 99 || chkK2 m pc e.1 e.2.1 e.2.2.1 e.2.2.2) = true := by
  have hm : m < 12 := by
    apply Classical.byContradiction
    intro q
    unfold prC at he
    rw [List.getD_eq_getElem?_getD, show pcL[m]? = none from List.getElem?_eq_none (by show 12 ≤ m; omega)] at he
    simp at he
  refine List.all_eq_true.mp (ckC_all m hm) (e, pc) (List.mem_of_getElem? (i := pc) ?_)
  rw [List.getElem?_zipIdx, he]
  simp
/-! the world -/
def ada (as : List Nat) : Nat → Nat := fun k => as.getD k 0
def ccE (as : List Nat) (cI : ClassId) : CC → va_E
  | Sum.inl o => Sum.inr (o.1, o.2.map (cv (ada as)))
  | Sum.inr l => Sum.inl (cI, l.length, Sum.inl (fun j => Int32.ofInt (l.getD j 0)))
def aw (as : List Nat) (cI : ClassId) (hs : List CC) : va_W := (List.range hs.length).map (fun k => (ada as k, ccE as cI (hs.getD k (Sum.inr []))))
theorem aw_len (as : List Nat) (cI : ClassId) (hs : List CC) : (aw as cI hs).length = hs.length := by simp [aw]
theorem aw_get {as : List Nat} {cI : ClassId} {hs : List CC} {k : Nat} {c : CC} (h : hs[k]? = some c) : (aw as cI hs)[k]? = some (ada as k, ccE as cI c) := by
  have hk : k < hs.length := (List.getElem?_eq_some_iff.mp h).1
  unfold aw
  rw [List.getElem?_map, List.getElem?_range hk]
  show some (ada as k, ccE as cI (hs.getD k (Sum.inr []))) = _
  rw [List.getD_eq_getElem?_getD, h]
  rfl
theorem aw_set {as : List Nat} {cI : ClassId} {hs : List CC} {k : Nat} {c : CC} (hk : k < hs.length) : (aw as cI hs).set k (ada as k, ccE as cI c) = aw as cI (hs.set k c) := by
  apply List.ext_getElem?
  intro i
  by_cases hi : i < hs.length
  · by_cases hik : i = k
    · subst hik
      rw [List.getElem?_set_self (by rw [aw_len]; exact hi), aw_get (c := c) (by rw [List.getElem?_set_self hi])]
    · have hg : hs[i]? = some hs[i] := List.getElem?_eq_getElem hi
      rw [List.getElem?_set_ne (Ne.symm hik), aw_get hg, aw_get (c := hs[i]) (by rw [List.getElem?_set_ne (Ne.symm hik)]; exact hg)]
  · rw [List.getElem?_eq_none (by rw [List.length_set, aw_len]; omega), List.getElem?_eq_none (by rw [aw_len, List.length_set]; omega)]
theorem ada_app {as more : List Nat} {k : Nat} (h : k < as.length) : ada (as ++ more) k = ada as k := by
  unfold ada
  rw [List.getD_eq_getElem?_getD, List.getD_eq_getElem?_getD, List.getElem?_append_left h]
theorem cv_app {as more : List Nat} {v : AV} (h : okA as.length v = true) : cv (ada (as ++ more)) v = cv (ada as) v := by
  rcases v with x | p | x | u
  · rfl
  · show Value.ref _ = Value.ref _
    rw [ada_app (of_decide_eq_true h)]
  · rfl
  · rfl
theorem cvs_app {as more : List Nat} {vs : List AV} (h : vs.all (okA as.length) = true) : vs.map (cv (ada (as ++ more))) = vs.map (cv (ada as)) := by
  apply List.map_congr_left
  intro v hv
  exact cv_app (List.all_eq_true.mp h v hv)
theorem ccE_app {as more : List Nat} {cI : ClassId} {c : CC} (h : okC as.length c = true) : ccE (as ++ more) cI c = ccE as cI c := by
  rcases c with o | l
  · show Sum.inr (o.1, _) = Sum.inr (o.1, _)
    rw [cvs_app h]
  · rfl
theorem aw_more {as more : List Nat} {cI : ClassId} {hs : List CC} (hl : as.length = hs.length) (h : hs.all (okC hs.length) = true) : aw (as ++ more) cI hs = aw as cI hs := by
  apply List.ext_getElem?
  intro i
  by_cases hi : i < hs.length
  · have hg : hs[i]? = some hs[i] := List.getElem?_eq_getElem hi
    rw [aw_get hg, aw_get hg, ada_app (by omega), ccE_app (by rw [hl]; exact List.all_eq_true.mp h _ (List.getElem_mem hi))]
  · rw [List.getElem?_eq_none (by rw [aw_len]; omega), List.getElem?_eq_none (by rw [aw_len]; omega)]
theorem aw_push {as : List Nat} {cI : ClassId} {hs : List CC} {q : Nat} {c : CC} (hl : as.length = hs.length) (h : hs.all (okC hs.length) = true) (hc : ccE (as ++ [q]) cI c = ccE as cI c) : aw (as ++ [q]) cI (hs ++ [c]) = aw as cI hs ++ [(q, ccE as cI c)] := by
  apply List.ext_getElem?
  intro i
  by_cases hi : i < hs.length
  · have hg : hs[i]? = some hs[i] := List.getElem?_eq_getElem hi
    rw [aw_get (c := hs[i]) (by rw [List.getElem?_append_left hi]; exact hg), List.getElem?_append_left (by rw [aw_len]; exact hi), aw_get hg, ada_app (by omega), ccE_app (by rw [hl]; exact List.all_eq_true.mp h _ (List.getElem_mem hi))]
  · by_cases hi2 : i = hs.length
    · subst hi2
      rw [aw_get (c := c) (by rw [List.getElem?_append_right (Nat.le_refl _)]; simp), List.getElem?_append_right (by rw [aw_len]; exact Nat.le_refl _), aw_len, Nat.sub_self, hc]
      have : ada (as ++ [q]) hs.length = q := by
        unfold ada
        rw [List.getD_eq_getElem?_getD, List.getElem?_append_right (by omega), hl, Nat.sub_self]
        rfl
      rw [this]
      rfl
    · rw [List.getElem?_eq_none (by rw [aw_len, List.length_append]; simp; omega), List.getElem?_eq_none (by rw [List.length_append, aw_len]; simp; omega)]
def szC (c : CC) : Nat := match c with
  | Sum.inl o => fdN o.1
  | Sum.inr l => l.length
theorem tot_app (hs : List CC) (c : CC) : tot (hs ++ [c]) = tot hs + szC c := by
  unfold tot
  rw [List.map_append, List.sum_append]
  rcases c with o | l <;> simp [szC]
theorem tot_cons (c : CC) (hs : List CC) : tot (c :: hs) = szC c + tot hs := by
  rcases c with o | l <;> rfl
theorem tot_set : ∀ (hs : List CC) (k : Nat) (c d : CC), hs[k]? = some c → szC d = szC c → tot (hs.set k d) = tot hs
  | [], k, c, d, h, _ => by simp at h
  | a :: hs, 0, c, d, h, hz => by
    simp at h
    subst h
    rw [List.set_cons_zero, tot_cons, tot_cons, hz]
  | a :: hs, k + 1, c, d, h, hz => by
    rw [List.set_cons_succ, tot_cons, tot_cons, tot_set hs k c d (by simpa using h) hz]
/-! what a frame has -/
def FxC (D : va_G) (cI : ClassId) (A : Nat → Prop) (p : Program) (s : State) (m : MethodId) (args : Array Value) (meth : Method) (c : Code) (mi : Nat) : Prop := p.tables.exec = Jvm.exec ∧ c.code = bC mi ∧ c.maxLocals = nC mi ∧ s.vm.findClass (cnm (oC mi)) = some m.cls ∧ (∀ w ∈ tg, w.before args s = true) ∧ va_K D cl [(cI, .int)] s ∧ (∀ e ∈ kcN, va_Nw (kcw e) s) ∧ (∀ q, s.heap.size ≤ q → A q) ∧ (mi < 11 → meth.name = "<init>")
def EnC (D : va_G) (cI : ClassId) (A : Nat → Prop) (p : Program) (l : Launch) (e : Env) (R : Room) (s : State) (m : MethodId) (args : Array Value) (below : List Frame) (meth : Method) (c : Code) (c1 s1 : Nat) (Q : State → Prop) (as : List Nat) (mi : Nat) (r : Nat × List AV × List CC) : Prop :=
  ∀ H1 locs1 ls1 more, (as ++ more).length = r.2.2.length → lvH (ada (as ++ more)) ls1 (nC mi) r.2.1 → va_P D cl (aw (as ++ more) cI r.2.2) H1 → va_D A (aw (as ++ more) cI r.2.2) → va_S A s.heap H1 locs1 → (mi < 11 → decode (bC mi) r.1 = .ok (.return_, 1)) → W p l e R s m args below meth c H1 locs1 c1 s1 Q (F0 m r.1 ls1 [])
def Wld (D : va_G) (cI : ClassId) (A : Nat → Prop) (s : State) (as : List Nat) (hs : List CC) (H : Heap) (locs : List Loc) : Prop := as.length = hs.length ∧ va_P D cl (aw as cI hs) H ∧ va_D A (aw as cI hs) ∧ va_S A s.heap H locs
def WM (l : Launch) (D : va_G) (cI : ClassId) (A : Nat → Prop) (k : Kf) (r : Nat × List AV × List CC) : Prop := (∀ (p : Program) (e : Env) (R : Room) (s : State) (mm : MethodId) (args : Array Value) (below : List Frame) (meth : Method) (cd : Code) (H : Heap) (locs : List Loc) (ls : Array Slot) (cells slots c1 s1 : Nat) (Q : State → Prop) (as : List Nat), FxC D cI A p s mm args meth cd k.1 → fC k.1 ≤ R.frames → lC k.1 ≤ R.locals → r.2.2.length + cells = c1 + k.2.2.2.2.length → tot r.2.2 + slots = s1 + tot k.2.2.2.2 → c1 ≤ R.cells → s1 ≤ R.slots → lvH (ada as) ls (nC k.1) k.2.2.1 → Wld D cI A s as k.2.2.2.2 H locs → EnC D cI A p l e R s mm args below meth cd c1 s1 Q as k.1 r → W p l e R s mm args below meth cd H locs cells slots Q (F0 mm k.2.1 ls (k.2.2.2.1.map (cv (ada as))))) ∧ (k.2.2.2.2.length ≤ r.2.2.length ∧ tot k.2.2.2.2 ≤ tot r.2.2)
section CSND
variable {l : Launch} {D : va_G} {cI : ClassId} {A : Nat → Prop}
theorem wm_pure {m pc pc1 : Nat} {L st st1 : List AV} {hs : List CC} {r : Nat × List AV × List CC} (ih : WM l D cI A (m, pc1, L, st1, hs) r)
    (row : ∀ (p : Program) (e : Env) (R : Room) (s : State) (mm : MethodId) (args : Array Value) (below : List Frame) (meth : Method) (cd : Code) (H : Heap) (locs : List Loc) (ls : Array Slot) (cells slots c1 s1 : Nat) (Q : State → Prop) (as : List Nat), FxC D cI A p s mm args meth cd m → fC m ≤ R.frames → lC m ≤ R.locals → lvH (ada as) ls (nC m) L → Wld D cI A s as hs H locs → W p l e R s mm args below meth cd H locs cells slots Q (F0 mm pc1 ls (st1.map (cv (ada as)))) → W p l e R s mm args below meth cd H locs cells slots Q (F0 mm pc ls (st.map (cv (ada as))))) : WM l D cI A (m, pc, L, st, hs) r := by
  refine ⟨?_, ih.2⟩
  intro p e R s mm args below meth cd H locs ls cells slots c1 s1 Q as hF h1 h2 z1 z2 z3 z4 hl hH hE
  exact row p e R s mm args below meth cd H locs ls cells slots c1 s1 Q as hF h1 h2 hl hH (ih.1 p e R s mm args below meth cd H locs ls cells slots c1 s1 Q as hF h1 h2 z1 z2 z3 z4 hl hH hE)
theorem wm_loc {m pc pc1 : Nat} {L L1 st st1 : List AV} {hs : List CC} {r : Nat × List AV × List CC} (ih : WM l D cI A (m, pc1, L1, st1, hs) r)
    (row : ∀ (p : Program) (e : Env) (R : Room) (s : State) (mm : MethodId) (args : Array Value) (below : List Frame) (meth : Method) (cd : Code) (H : Heap) (locs : List Loc) (ls : Array Slot) (cells slots c1 s1 : Nat) (Q : State → Prop) (as : List Nat), FxC D cI A p s mm args meth cd m → lvH (ada as) ls (nC m) L → (∀ ls1, lvH (ada as) ls1 (nC m) L1 → W p l e R s mm args below meth cd H locs cells slots Q (F0 mm pc1 ls1 (st1.map (cv (ada as))))) → W p l e R s mm args below meth cd H locs cells slots Q (F0 mm pc ls (st.map (cv (ada as))))) : WM l D cI A (m, pc, L, st, hs) r := by
  refine ⟨?_, ih.2⟩
  intro p e R s mm args below meth cd H locs ls cells slots c1 s1 Q as hF h1 h2 z1 z2 z3 z4 hl hH hE
  exact row p e R s mm args below meth cd H locs ls cells slots c1 s1 Q as hF hl (fun ls1 hl1 => ih.1 p e R s mm args below meth cd H locs ls1 cells slots c1 s1 Q as hF h1 h2 z1 z2 z3 z4 hl1 hH hE)
theorem wm_heap {m pc pc1 : Nat} {L st st1 : List AV} {hs hs1 : List CC} {r : Nat × List AV × List CC} (ih : WM l D cI A (m, pc1, L, st1, hs1) r) (hlen : hs1.length = hs.length) (htot : tot hs1 = tot hs)
    (row : ∀ (p : Program) (e : Env) (R : Room) (s : State) (mm : MethodId) (args : Array Value) (below : List Frame) (meth : Method) (cd : Code) (H : Heap) (locs : List Loc) (ls : Array Slot) (cells slots c1 s1 : Nat) (Q : State → Prop) (as : List Nat), FxC D cI A p s mm args meth cd m → lvH (ada as) ls (nC m) L → Wld D cI A s as hs H locs → (∀ H1 locs1, Wld D cI A s as hs1 H1 locs1 → W p l e R s mm args below meth cd H1 locs1 cells slots Q (F0 mm pc1 ls (st1.map (cv (ada as))))) → W p l e R s mm args below meth cd H locs cells slots Q (F0 mm pc ls (st.map (cv (ada as))))) : WM l D cI A (m, pc, L, st, hs) r := by
  have hm := ih.2
  simp only at hm
  refine ⟨?_, by simp only; rw [← hlen, ← htot]; exact hm⟩
  intro p e R s mm args below meth cd H locs ls cells slots c1 s1 Q as hF h1 h2 z1 z2 z3 z4 hl hH hE
  exact row p e R s mm args below meth cd H locs ls cells slots c1 s1 Q as hF hl hH (fun H1 locs1 hH1 => ih.1 p e R s mm args below meth cd H1 locs1 ls cells slots c1 s1 Q as hF h1 h2 (by simp only at z1 ⊢; rw [hlen]; exact z1) (by simp only at z2 ⊢; rw [htot]; exact z2) z3 z4 hl hH1 hE)

theorem g_0 {F : Kf → Option (Nat × List AV × List CC)} (ih : ∀ c r, F c = some r → WM l D cI A c r) {len a m pc : Nat} {v : Int} {L st : List AV} {hs : List CC} {r : Nat × List AV × List CC} (hc : chkK2 m pc 0 len a v = true) (hr : doesC F (semC 0 len a v m pc L st hs) = some r) : WM l D cI A (m, pc, L, st, hs) r := by
  replace hc : ((a == 0 && (len == 1 && dcC m pc (.iconst v) 1)) || (a == 1 && (len == 2 && (dcC m pc (.bipush v) 2 && decide ((Int8.ofInt v).toInt32 = Int32.ofInt v)))) || (a == 2 && (len == 3 && (dcC m pc (.sipush v) 3 && decide ((Int16.ofInt v).toInt32 = Int32.ofInt v))))) = true := hc
  refine wm_pure (ih _ _ hr) (fun p e R s mm args below meth cd H locs ls cells slots c1 s1 Q as hF h1 h2 hl hH hW => ?_)
  simp only [Bool.or_eq_true, Bool.and_eq_true, beq_iff_eq, decide_eq_true_eq] at hc
  rcases hc with (⟨-, rfl, hd⟩ | ⟨-, rfl, hd, hv⟩) | ⟨-, rfl, hd, hv⟩
  · exact lv_iconst hF.1 hF.2.1 (dcC_at hd) rfl hW
  · exact lv_bipush hF.1 hF.2.1 (dcC_at hd) hv hW
  · exact lv_sipush hF.1 hF.2.1 (dcC_at hd) hv hW
theorem ckN_at {m pc len a : Nat} {i : Fin 4 → Instr} (h : ckN m pc len a i = true) : len = 1 ∧ ((Fin.ofNat 4 a : Fin 4) : Nat) = a ∧ decode (bC m) pc = .ok (i (Fin.ofNat 4 a), 1) := by
  unfold ckN at h
  simp only [Bool.and_eq_true, beq_iff_eq, decide_eq_true_eq] at h
  exact ⟨h.1.1, Nat.mod_eq_of_lt h.1.2, dcC_at h.2⟩
theorem g_1 {F : Kf → Option (Nat × List AV × List CC)} (ih : ∀ c r, F c = some r → WM l D cI A c r) {len a m pc : Nat} {v : Int} {L st : List AV} {hs : List CC} {r : Nat × List AV × List CC} (hc : chkK2 m pc 1 len a v = true) (hr : doesC F (semC 1 len a v m pc L st hs) = some r) : WM l D cI A (m, pc, L, st, hs) r := by
  obtain ⟨hl1, hi, hd⟩ := ckN_at hc
  subst hl1
  replace hr : doesC F (k_iload 1 a m pc L st hs) = some r := hr
  unfold k_iload at hr
  split at hr
  · rename_i x hx
    exact wm_pure (ih _ _ hr) (fun p e R s mm args below meth cd H locs ls cells slots c1 s1 Q as hF h1 h2 hl hH hW => lv_iload_n hF.1 hF.2.1 hd hi (lvH_get hl hx rfl) hW)
  · cases hr
theorem g_2 {F : Kf → Option (Nat × List AV × List CC)} (ih : ∀ c r, F c = some r → WM l D cI A c r) {len a m pc : Nat} {v : Int} {L st : List AV} {hs : List CC} {r : Nat × List AV × List CC} (hc : chkK2 m pc 2 len a v = true) (hr : doesC F (semC 2 len a v m pc L st hs) = some r) : WM l D cI A (m, pc, L, st, hs) r := by
  obtain ⟨hl1, hi, hd⟩ := ckN_at hc
  subst hl1
  replace hr : doesC F (k_aload 1 a m pc L st hs) = some r := hr
  unfold k_aload at hr
  split at hr
  · rename_i x hx
    exact wm_pure (ih _ _ hr) (fun p e R s mm args below meth cd H locs ls cells slots c1 s1 Q as hF h1 h2 hl hH hW => lv_aload_n hF.1 hF.2.1 hd hi (lvH_get hl hx rfl) hW)
  · cases hr
theorem g_4 {F : Kf → Option (Nat × List AV × List CC)} (ih : ∀ c r, F c = some r → WM l D cI A c r) {len a m pc : Nat} {v : Int} {L st : List AV} {hs : List CC} {r : Nat × List AV × List CC} (hc : chkK2 m pc 4 len a v = true) (hr : doesC F (semC 4 len a v m pc L st hs) = some r) : WM l D cI A (m, pc, L, st, hs) r := by
  obtain ⟨hl1, hi, hd⟩ := ckN_at hc
  subst hl1
  replace hr : doesC F (k_store 1 a m pc L st hs) = some r := hr
  unfold k_store at hr
  split at hr
  · rename_i x r1
    cases hb : (noL L a && decide (a < L.length)) with
    | false => rw [hb] at hr; cases hr
    | true =>
      rw [hb] at hr
      simp only [Bool.and_eq_true, decide_eq_true_eq] at hb
      refine wm_loc (ih _ _ hr) (fun p e R s mm args below meth cd H locs ls cells slots c1 s1 Q as hF hl kk => ?_)
      exact lv_istore_n hF.1 hF.2.1 hd hi (al_has hl) (by rw [← hl.2.2.1]; exact hb.2) rfl (fun ls1 hl1 => kk ls1 (lvH_set hl hb.1 hb.2 hl1))
  · cases hr
theorem g_5 {F : Kf → Option (Nat × List AV × List CC)} (ih : ∀ c r, F c = some r → WM l D cI A c r) {len a m pc : Nat} {v : Int} {L st : List AV} {hs : List CC} {r : Nat × List AV × List CC} (hc : chkK2 m pc 5 len a v = true) (hr : doesC F (semC 5 len a v m pc L st hs) = some r) : WM l D cI A (m, pc, L, st, hs) r := by
  obtain ⟨hl1, hi, hd⟩ := ckN_at hc
  subst hl1
  replace hr : doesC F (k_astore 1 a m pc L st hs) = some r := hr
  unfold k_astore at hr
  split at hr
  · rename_i x r1
    cases hb : (noL L a && decide (a < L.length)) with
    | false => rw [hb] at hr; cases hr
    | true =>
      rw [hb] at hr
      simp only [Bool.and_eq_true, decide_eq_true_eq] at hb
      refine wm_loc (ih _ _ hr) (fun p e R s mm args below meth cd H locs ls cells slots c1 s1 Q as hF hl kk => ?_)
      exact lv_astore_n hF.1 hF.2.1 hd hi (al_has hl) (by rw [← hl.2.2.1]; exact hb.2) rfl (fun ls1 hl1 => kk ls1 (lvH_set hl hb.1 hb.2 hl1))
  · cases hr
theorem g_6 {F : Kf → Option (Nat × List AV × List CC)} (ih : ∀ c r, F c = some r → WM l D cI A c r) {len a m pc : Nat} {v : Int} {L st : List AV} {hs : List CC} {r : Nat × List AV × List CC} (hc : chkK2 m pc 6 len a v = true) (hr : doesC F (semC 6 len a v m pc L st hs) = some r) : WM l D cI A (m, pc, L, st, hs) r := by
  replace hr : doesC F (k_iinc len a v m pc L st hs) = some r := hr
  replace hc : (len == 3 && dcC m pc (.iinc a v) 3) = true := hc
  simp only [Bool.and_eq_true, beq_iff_eq] at hc
  obtain ⟨hl3, hd⟩ := hc
  subst hl3
  unfold k_iinc at hr
  split at hr
  · rename_i x hx
    cases hb : noL L a with
    | false => rw [hb] at hr; cases hr
    | true =>
      rw [hb] at hr
      refine wm_loc (ih _ _ hr) (fun p e R s mm args below meth cd H locs ls cells slots c1 s1 Q as hF hl kk => ?_)
      have ha : a < L.length := (List.getElem?_eq_some_iff.mp hx).1
      obtain ⟨k, hk⟩ := List.getElem?_of_mem (al_in (ad := ada as) hx rfl)
      exact lv_iinc (v := Int32.ofInt (x + v)) hF.1 hF.2.1 (dcC_at hd) (al_has hl) hk (by rw [Int32.ofInt_add]) (by rw [← hl.2.2.1]; exact ha) rfl (fun ls1 hl1 => kk ls1 (lvH_set (v := aI (x + v)) hl hb ha hl1))
  · cases hr
theorem g_7 {F : Kf → Option (Nat × List AV × List CC)} (ih : ∀ c r, F c = some r → WM l D cI A c r) {len a m pc : Nat} {v : Int} {L st : List AV} {hs : List CC} {r : Nat × List AV × List CC} (hc : chkK2 m pc 7 len a v = true) (hr : doesC F (semC 7 len a v m pc L st hs) = some r) : WM l D cI A (m, pc, L, st, hs) r := by
  replace hr : doesC F (k_2 (fun x y => x + y) m pc L st hs) = some r := hr
  have hd := dcC_at (show dcC m pc .iadd 1 = true from hc)
  unfold k_2 at hr
  split at hr
  · exact wm_pure (ih _ _ hr) (fun p e R s mm args below meth cd H locs ls cells slots c1 s1 Q as hF h1 h2 hl hH hW => lv_iadd hF.1 hF.2.1 hd (by rw [← Int32.ofInt_add]; exact hW))
  · cases hr
theorem g_9 {F : Kf → Option (Nat × List AV × List CC)} (ih : ∀ c r, F c = some r → WM l D cI A c r) {len a m pc : Nat} {v : Int} {L st : List AV} {hs : List CC} {r : Nat × List AV × List CC} (hc : chkK2 m pc 9 len a v = true) (hr : doesC F (semC 9 len a v m pc L st hs) = some r) : WM l D cI A (m, pc, L, st, hs) r := by
  replace hr : doesC F (k_2 (fun x y => x * y) m pc L st hs) = some r := hr
  have hd := dcC_at (show dcC m pc .imul 1 = true from hc)
  unfold k_2 at hr
  split at hr
  · exact wm_pure (ih _ _ hr) (fun p e R s mm args below meth cd H locs ls cells slots c1 s1 Q as hF h1 h2 hl hH hW => lv_imul hF.1 hF.2.1 hd (by rw [← Int32.ofInt_mul]; exact hW))
  · cases hr
theorem g_10 {F : Kf → Option (Nat × List AV × List CC)} (ih : ∀ c r, F c = some r → WM l D cI A c r) {len a m pc : Nat} {v : Int} {L st : List AV} {hs : List CC} {r : Nat × List AV × List CC} (hc : chkK2 m pc 10 len a v = true) (hr : doesC F (semC 10 len a v m pc L st hs) = some r) : WM l D cI A (m, pc, L, st, hs) r := by
  replace hr : doesC F (k_div m pc L st hs) = some r := hr
  have hd := dcC_at (show dcC m pc .idiv 1 = true from hc)
  unfold k_div at hr
  split at hr
  · rename_i y x r1
    cases hy : decide (wr y ≠ 0) with
    | false => rw [hy] at hr; cases hr
    | true =>
      rw [hy] at hr
      have hy := of_decide_eq_true hy
      exact wm_pure (ih _ _ hr) (fun p e R s mm args below meth cd H locs ls cells slots c1 s1 Q as hF h1 h2 hl hH hW => lv_idiv hF.1 hF.2.1 hd (fun z => hy (by rw [← wr_0]; exact (wr_inj y 0).mp z)) (by rw [List.map_cons, cv, jdiv, Int32.ofInt_toInt] at hW; exact hW))
  · cases hr
theorem g_29 {F : Kf → Option (Nat × List AV × List CC)} (ih : ∀ c r, F c = some r → WM l D cI A c r) {len a m pc : Nat} {v : Int} {L st : List AV} {hs : List CC} {r : Nat × List AV × List CC} (hc : chkK2 m pc 29 len a v = true) (hr : doesC F (semC 29 len a v m pc L st hs) = some r) : WM l D cI A (m, pc, L, st, hs) r := by
  replace hr : doesC F (k_dup m pc L st hs) = some r := hr
  have hd := dcC_at (show dcC m pc .dup 1 = true from hc)
  unfold k_dup at hr
  split at hr
  · exact wm_pure (ih _ _ hr) (fun p e R s mm args below meth cd H locs ls cells slots c1 s1 Q as hF h1 h2 hl hH hW => lv_dup hF.1 hF.2.1 hd rfl hW)
  · cases hr
theorem g_34 {F : Kf → Option (Nat × List AV × List CC)} (ih : ∀ c r, F c = some r → WM l D cI A c r) {len a m pc : Nat} {v : Int} {L st : List AV} {hs : List CC} {r : Nat × List AV × List CC} (hc : chkK2 m pc 34 len a v = true) (hr : doesC F (semC 34 len a v m pc L st hs) = some r) : WM l D cI A (m, pc, L, st, hs) r := by
  have hd := dcC_at (show dcC m pc (.goto ((a : Int) - pc)) 3 = true from hc)
  exact wm_pure (ih _ _ hr) (fun p e R s mm args below meth cd H locs ls cells slots c1 s1 Q as hF h1 h2 hl hH hW => lv_goto hF.1 hF.2.1 hd (by omega) hW)
theorem g_32 {F : Kf → Option (Nat × List AV × List CC)} (ih : ∀ c r, F c = some r → WM l D cI A c r) {len a m pc : Nat} {v : Int} {L st : List AV} {hs : List CC} {r : Nat × List AV × List CC} (hc : chkK2 m pc 32 len a v = true) (hr : doesC F (semC 32 len a v m pc L st hs) = some r) : WM l D cI A (m, pc, L, st, hs) r := by
  replace hr : doesC F (k_if a v m pc L st hs) = some r := hr
  replace hc : (v == 1 && dcC m pc (.ifCond .ne ((a : Int) - pc)) 3) = true := hc
  simp only [Bool.and_eq_true, beq_iff_eq] at hc
  obtain ⟨hv, hd⟩ := hc
  subst hv
  unfold k_if at hr
  split at hr
  · rename_i x r1
    refine wm_pure (ih _ _ hr) (fun p e R s mm args below meth cd H locs ls cells slots c1 s1 Q as hF h1 h2 hl hH hW => ?_)
    refine lv_if_ne (tgt := a) hF.1 hF.2.1 (dcC_at hd) (by omega) (fun z => ?_) (fun z => ?_)
    · rw [(cz1 x).mpr z] at hW; exact hW
    · rw [show cmpB 1 (wr x) 0 = false from Bool.eq_false_iff.mpr (fun q => (cz1 x).mp q z)] at hW; exact hW
  · cases hr
theorem g_33 {F : Kf → Option (Nat × List AV × List CC)} (ih : ∀ c r, F c = some r → WM l D cI A c r) {len a m pc : Nat} {v : Int} {L st : List AV} {hs : List CC} {r : Nat × List AV × List CC} (hc : chkK2 m pc 33 len a v = true) (hr : doesC F (semC 33 len a v m pc L st hs) = some r) : WM l D cI A (m, pc, L, st, hs) r := by
  replace hr : doesC F (k_icmp a v m pc L st hs) = some r := hr
  replace hc : ((v == 1 && dcC m pc (.if_icmp .ne ((a : Int) - pc)) 3) || (v == 3 && dcC m pc (.if_icmp .ge ((a : Int) - pc)) 3)) = true := hc
  simp only [Bool.or_eq_true, Bool.and_eq_true, beq_iff_eq] at hc
  unfold k_icmp at hr
  split at hr
  · rename_i y x r1
    refine wm_pure (ih _ _ hr) (fun p e R s mm args below meth cd H locs ls cells slots c1 s1 Q as hF h1 h2 hl hH hW => ?_)
    rcases hc with ⟨hv, hd⟩ | ⟨hv, hd⟩
    · subst hv
      refine lv_icmp_ne (tgt := a) hF.1 hF.2.1 (dcC_at hd) (by omega) (fun z => ?_) (fun z => ?_)
      · rw [(cb1 x y).mpr z] at hW; exact hW
      · rw [show cmpB 1 (wr x) (wr y) = false from Bool.eq_false_iff.mpr (fun q => (cb1 x y).mp q z)] at hW; exact hW
    · subst hv
      refine lv_icmp_ge (tgt := a) hF.1 hF.2.1 (dcC_at hd) (by omega) (fun z => ?_) (fun z => ?_)
      · rw [(cb3 x y).mpr z] at hW; exact hW
      · rw [show cmpB 3 (wr x) (wr y) = false from Bool.eq_false_iff.mpr (fun q => z ((cb3 x y).mp q))] at hW; exact hW
  · cases hr
theorem g_38 {F : Kf → Option (Nat × List AV × List CC)} (ih : ∀ c r, F c = some r → WM l D cI A c r) {len a m pc : Nat} {v : Int} {L st : List AV} {hs : List CC} {r : Nat × List AV × List CC} (hc : chkK2 m pc 38 len a v = true) (hr : doesC F (semC 38 len a v m pc L st hs) = some r) : WM l D cI A (m, pc, L, st, hs) r := by
  replace hr : doesC F (k_ast m pc L st hs) = some r := hr
  have hd := dcC_at (show dcC m pc .iastore 1 = true from hc)
  unfold k_ast at hr
  split at hr
  · rename_i x i p r1
    split at hr
    · rename_i la hp
      cases hb : inb la.length i with
      | false => rw [hb] at hr; cases hr
      | true =>
        rw [hb] at hr
        obtain ⟨b1, b2, b3⟩ := in_at hb
        have hpl : p < hs.length := (List.getElem?_eq_some_iff.mp hp).1
        refine wm_heap (ih _ _ hr) (by simp) (tot_set hs p _ _ hp (by simp [szC])) (fun p0 e R s mm args below meth cd H locs ls cells slots c1 s1 Q as hF hl hH kk => ?_)
        refine va_iast hF.1 hF.2.1 hF.2.2.2.2.2.1 hH.2.1 hH.2.2.1 hH.2.2.2 p 0 (aw_get hp) rfl b1 hd (fun H1 locs1 hP1 hD1 hS1 => kk H1 locs1 ?_)
        have he : (Sum.inl (cI, la.length, Sum.inl (upd (fun j => Int32.ofInt (la.getD j 0)) (Int32.ofInt i).toNatClampNeg (Int32.ofInt x))) : va_E) = ccE as cI (Sum.inr (la.set (wr i).toNat x)) := by
          show _ = Sum.inl (cI, (la.set (wr i).toNat x).length, Sum.inl _)
          rw [List.length_set]
          congr 3
          congr 1
          funext j
          unfold upd
          have hi : (wr i).toNat = (Int32.ofInt i).toNatClampNeg := by omega
          rw [hi, List.getD_eq_getElem?_getD, List.getElem?_set]
          by_cases hj : j = (Int32.ofInt i).toNatClampNeg
          · subst hj
            simp [b3]
          · rw [if_neg hj, if_neg (fun z => hj z.symm)]
            show Int32.ofInt (la.getD j 0) = _
            rw [List.getD_eq_getElem?_getD]
        rw [he, aw_set hpl] at hP1 hD1
        exact ⟨by rw [List.length_set]; exact hH.1, hP1, hD1, hS1⟩
    · cases hr
  · cases hr
theorem fcl_at {m pc a : Nat} {i : Nat → Instr} (hc : ckF m pc a i = true) {e : Nat × Nat × Nat × Nat × Nat} (he : fcL[a]? = some e) : (e.1 == oC m) = true ∧ decode (bC m) pc = .ok (i e.2.1, 3) := by
  unfold ckF at hc
  rw [he] at hc
  simp only [Bool.and_eq_true] at hc
  exact ⟨hc.1, dcC_at hc.2⟩
theorem g_40 {F : Kf → Option (Nat × List AV × List CC)} (ih : ∀ c r, F c = some r → WM l D cI A c r) {len a m pc : Nat} {v : Int} {L st : List AV} {hs : List CC} {r : Nat × List AV × List CC} (hc : chkK2 m pc 40 len a v = true) (hr : doesC F (semC 40 len a v m pc L st hs) = some r) : WM l D cI A (m, pc, L, st, hs) r := by
  replace hr : doesC F (k_get a m pc L st hs) = some r := hr
  unfold k_get at hr
  split at hr
  · rename_i p r1 e he
    obtain ⟨ho, hd⟩ := fcl_at (i := .getfield) hc he
    obtain ⟨⟨hci, hk⟩, hw⟩ := fc_ok e (List.mem_of_getElem? he)
    split at hr
    · rename_i ob hp
      cases hq : ob.1 == e.2.2.1 with
      | false => rw [hq] at hr; cases hr
      | true =>
        rw [hq] at hr
        have hq := beq_iff_eq.mp hq
        cases hv : ob.2[e.2.2.2.1]? with
        | none => rw [hv] at hr; cases hr
        | some v =>
          rw [hv] at hr
          replace hr : doesC F (cond (nn v) (kGo (m, pc + 3, L, v :: r1, hs)) none) = some r := hr
          cases hn : nn v with
          | false => rw [hn] at hr; cases hr
          | true =>
            rw [hn] at hr
            refine wm_pure (ih _ _ hr) (fun p0 e0 R s mm args below meth cd H locs ls cells slots c1 s1 Q as hF h1 h2 hl hH hW => ?_)
            have hown : s.vm.findClass (cnm e.1) = some mm.cls := by rw [beq_iff_eq.mp ho]; exact hF.2.2.2.1
            have hg := aw_get (as := as) (cI := cI) hp
            rw [show ccE as cI (Sum.inl ob) = Sum.inr (e.2.2.1, ob.2.map (cv (ada as))) by rw [← hq]; rfl] at hg
            exact va_get hF.1 hF.2.1 hF.2.2.2.2.1 (cl_in hci) hown hF.2.2.2.2.2.1 hH.2.1 p hg (cl_get hci) e.2.2.2.1 hk (hF.2.2.2.2.1 _ (tg_at hw)) (fun _ z => z) (by rw [List.getElem?_map, hv]; rfl) hd hW
    · cases hr
  · cases hr
theorem cl_ref : ∀ c, c < 11 → ∀ k, k < fdN c → (fo c k).isSome = true → (fdT c k).2.2.2 = true ∧ isReferenceType (tyF c k) = true := by decide +kernel
theorem cl_rn : ∀ c, c < 11 → ∀ k, k < fdN c → (fo c k).isSome = true → ∀ a, narrow (tyF c k) (.ref a) = .ref a ∧ fits (tyF c k) (.ref a) = true := by
  intro c hc k hk h a
  have := (cl_ref c hc k hk h).2
  cases ht : tyF c k with
  | object n => exact ⟨rfl, rfl⟩
  | array t => exact ⟨rfl, rfl⟩
  | _ => rw [ht] at this; cases this
theorem g_41 {F : Kf → Option (Nat × List AV × List CC)} (ih : ∀ c r, F c = some r → WM l D cI A c r) {len a m pc : Nat} {v : Int} {L st : List AV} {hs : List CC} {r : Nat × List AV × List CC} (hc : chkK2 m pc 41 len a v = true) (hr : doesC F (semC 41 len a v m pc L st hs) = some r) : WM l D cI A (m, pc, L, st, hs) r := by
  replace hr : doesC F (k_put a m pc L st hs) = some r := hr
  replace hc : (ckF m pc a .putfield && (match fcL[a]? with
    | some e => e.1 == e.2.2.1 && decide (m < 11)
    | none => false)) = true := hc
  rw [Bool.and_eq_true] at hc
  obtain ⟨hcf, hc2⟩ := hc
  unfold k_put at hr
  split at hr
  · rename_i w p r1 e he
    obtain ⟨ho, hd⟩ := fcl_at (i := .putfield) hcf he
    obtain ⟨⟨hci, hk⟩, hw⟩ := fc_ok e (List.mem_of_getElem? he)
    rw [he] at hc2
    simp only [Bool.and_eq_true, beq_iff_eq, decide_eq_true_eq] at hc2
    split at hr
    · rename_i ob hp
      cases hq : (ob.1 == e.2.2.1 && vOk e.2.2.1 e.2.2.2.1 w && decide (e.2.2.2.1 < ob.2.length)) with
      | false => rw [hq] at hr; cases hr
      | true =>
        rw [hq] at hr
        simp only [Bool.and_eq_true, beq_iff_eq, decide_eq_true_eq] at hq
        obtain ⟨⟨hq1, hv⟩, hlen⟩ := hq
        have hpl : p < hs.length := (List.getElem?_eq_some_iff.mp hp).1
        refine wm_heap (ih _ _ hr) (by simp) (tot_set hs p _ _ hp rfl) (fun p0 e0 R s mm args below meth cd H locs ls cells slots c1 s1 Q as hF hl hH kk => ?_)
        have hown : s.vm.findClass (cnm e.1) = some mm.cls := by rw [beq_iff_eq.mp ho]; exact hF.2.2.2.1
        have hg := aw_get (as := as) (cI := cI) hp
        rw [show ccE as cI (Sum.inl ob) = Sum.inr (e.2.2.1, ob.2.map (cv (ada as))) by rw [← hq1]; rfl] at hg
        have fin : ∀ H1 locs1, va_P D cl ((aw as cI hs).set p (ada as p, Sum.inr (e.2.2.1, (ob.2.map (cv (ada as))).set e.2.2.2.1 (cv (ada as) w)))) H1 → va_D A ((aw as cI hs).set p (ada as p, Sum.inr (e.2.2.1, (ob.2.map (cv (ada as))).set e.2.2.2.1 (cv (ada as) w)))) → va_S A s.heap H1 locs1 → W p0 l e0 R s mm args below meth cd H1 locs1 cells slots Q (F0 mm (pc + 3) ls (r1.map (cv (ada as)))) := by
          intro H1 locs1 hP1 hD1 hS1
          have hc3 : (Sum.inr (e.2.2.1, (ob.2.map (cv (ada as))).set e.2.2.2.1 (cv (ada as) w)) : va_E) = ccE as cI (Sum.inl (ob.1, ob.2.set e.2.2.2.1 w)) := by
            show _ = Sum.inr (ob.1, (ob.2.set e.2.2.2.1 w).map (cv (ada as)))
            rw [List.map_set, hq1]
          rw [hc3, aw_set hpl] at hP1 hD1
          exact kk H1 locs1 ⟨by rw [List.length_set]; exact hH.1, hP1, hD1, hS1⟩
        rcases w with x | q | x | u
        · simp only [vOk, Bool.and_eq_true, Bool.or_eq_true, Option.isNone_iff_eq_none, Bool.not_eq_true'] at hv
          obtain ⟨hf, hb⟩ := hv
          obtain ⟨hfin, hty⟩ := cl_int _ hci _ hk hf
          have hnf : narrow (tyF e.2.2.1 e.2.2.2.1) (.int (Int32.ofInt x)) = .int (Int32.ofInt x) ∧ fits (tyF e.2.2.1 e.2.2.2.1) (.int (Int32.ofInt x)) = true := by
            rcases hty with hty | hty
            · rw [hty]; exact ⟨rfl, rfl⟩
            · rw [hty]
              have hx : x = 0 ∨ x = 1 := by
                rcases hb with hb | hb
                · rw [bo_ok _ hci _ hk, hty] at hb
                  simp at hb
                · exact of_decide_eq_true hb
              rcases hx with rfl | rfl <;> decide
          exact va_put hF.1 hF.2.1 hF.2.2.2.2.1 (cl_in hci) (tyF e.2.2.1) (cl_ty _ hci) (cl_nm _ hci) hown hF.2.2.2.2.2.1 hH.2.1 hH.2.2.1 hH.2.2.2 p hg (cl_get hci) e.2.2.2.1 hk (hF.2.2.2.2.1 _ (tg_at hw)) (fun _ z => z) hfin (cl_ty _ hci _ hk) hnf.1 hnf.2 (by rw [List.length_map]; exact hlen) hd fin
        · replace hv : (fo e.2.2.1 e.2.2.2.1).isSome = true := hv
          have hrn := cl_rn _ hci _ hk hv (ada as q)
          exact va_putF hF.1 hF.2.1 hF.2.2.2.2.1 (cl_in hci) (tyF e.2.2.1) (cl_ty _ hci) (cl_nm _ hci) hown hF.2.2.2.2.2.1 hH.2.1 hH.2.2.1 hH.2.2.2 p hg (cl_get hci) e.2.2.2.1 hk (hF.2.2.2.2.1 _ (tg_at hw)) (fun _ z => z) (cl_ref _ hci _ hk hv).1 (hF.2.2.2.2.2.2.2.2 hc2.2) (by rw [hc2.1]; rfl) (cl_ty _ hci _ hk) hrn.1 hrn.2 (by rw [List.length_map]; exact hlen) hd fin
        · cases hv
        · cases hv
    · cases hr
  · cases hr
theorem g_47 {F : Kf → Option (Nat × List AV × List CC)} (ih : ∀ c r, F c = some r → WM l D cI A c r) {len a m pc : Nat} {v : Int} {L st : List AV} {hs : List CC} {r : Nat × List AV × List CC} (hc : chkK2 m pc 47 len a v = true) (hr : doesC F (semC 47 len a v m pc L st hs) = some r) : WM l D cI A (m, pc, L, st, hs) r := by
  replace hr : doesC F (k_ret pc L st hs) = some r := hr
  replace hc : (dcC m pc .return_ 1 && decide (m < 11)) = true := hc
  rw [Bool.and_eq_true] at hc
  unfold k_ret at hr
  split at hr
  · cases hr
    refine ⟨?_, Nat.le_refl _, Nat.le_refl _⟩
    intro p e R s mm args below meth cd H locs ls cells slots c1 s1 Q as hF h1 h2 z1 z2 z3 z4 hl hH hE
    simp only at z1 z2
    have e1 : c1 = cells := by omega
    have e2 : s1 = slots := by omega
    subst e1; subst e2
    have := hE H locs ls [] (by rw [List.append_nil]; exact hH.1) (by rw [List.append_nil]; exact hl) (by rw [List.append_nil]; exact hH.2.1) (by rw [List.append_nil]; exact hH.2.2.1) hH.2.2.2 (fun _ => dcC_at hc.1)
    exact this
  · cases hr
theorem g_64 {F : Kf → Option (Nat × List AV × List CC)} (ih : ∀ c r, F c = some r → WM l D cI A c r) {len a m pc : Nat} {v : Int} {L st : List AV} {hs : List CC} {r : Nat × List AV × List CC} (hc : chkK2 m pc 64 len a v = true) (hr : doesC F (semC 64 len a v m pc L st hs) = some r) : WM l D cI A (m, pc, L, st, hs) r := by
  replace hr : doesC F (k_ret pc L st hs) = some r := hr
  have hm : m = 11 := of_decide_eq_true hc
  unfold k_ret at hr
  split at hr
  · cases hr
    refine ⟨?_, Nat.le_refl _, Nat.le_refl _⟩
    intro p e R s mm args below meth cd H locs ls cells slots c1 s1 Q as hF h1 h2 z1 z2 z3 z4 hl hH hE
    simp only at z1 z2
    have e1 : c1 = cells := by omega
    have e2 : s1 = slots := by omega
    subst e1; subst e2
    have := hE H locs ls [] (by rw [List.append_nil]; exact hH.1) (by rw [List.append_nil]; exact hl) (by rw [List.append_nil]; exact hH.2.1) (by rw [List.append_nil]; exact hH.2.2.1) hH.2.2.2 (fun q => by simp only at q; omega)
    exact this
  · cases hr
theorem lvH_app {as more : List Nat} {ls : Array Slot} {n : Nat} {L : List AV} (h : lvH (ada as) ls n L) (hk : L.all (okA as.length) = true) : lvH (ada (as ++ more)) ls n L :=
  ⟨h.1, h.2.1, h.2.2.1, fun i v hi hv => by rw [cv_app (List.all_eq_true.mp hk v (List.mem_of_getElem? hi))]; exact h.2.2.2 i v hi hv⟩
theorem okK_at {L st : List AV} {hs : List CC} (h : okK L st hs = true) : L.all (okA hs.length) = true ∧ st.all (okA hs.length) = true ∧ hs.all (okC hs.length) = true := by
  unfold okK at h
  simp only [Bool.and_eq_true] at h
  exact ⟨h.1.1, h.1.2, h.2⟩
theorem dfs_ok (n c : Nat) : okC n (Sum.inl (c, dfs c)) = true := by
  refine List.all_eq_true.mpr (fun v hv => ?_)
  obtain ⟨k, -, rfl⟩ := List.mem_map.mp hv
  cases fo c k <;> rfl
def dvs (c : Nat) : List Value := (List.range (fdN c)).map (fun k => match fo c k with
  | some _ => Value.null
  | none => Value.int 0)
theorem dfs_cv (as : List Nat) (c : Nat) : (dfs c).map (cv (ada as)) = dvs c := by
  unfold dfs dvs
  rw [List.map_map]
  apply List.map_congr_left
  intro k _
  show cv (ada as) (match fo c k with
    | some _ => aN
    | none => aI 0) = _
  cases fo c k <;> rfl
theorem dvs_def : ∀ c, c < 11 → ∀ j, j < fdN c → defaultValue (tyF c j) = vp_V (dvs c) j := by decide +kernel
theorem g_60 {F : Kf → Option (Nat × List AV × List CC)} (ih : ∀ c r, F c = some r → WM l D cI A c r) {len a m pc : Nat} {v : Int} {L st : List AV} {hs : List CC} {r : Nat × List AV × List CC} (hc : chkK2 m pc 60 len a v = true) (hr : doesC F (semC 60 len a v m pc L st hs) = some r) : WM l D cI A (m, pc, L, st, hs) r := by
  replace hr : doesC F (k_new a m pc L st hs) = some r := hr
  replace hc : (match ncL[a]? with
    | some e => e.1 == oC m && dcC m pc (.new e.2.1) 3
    | none => false) = true := hc
  unfold k_new at hr
  cases he : ncL[a]? with
  | none => rw [he] at hr; cases hr
  | some e =>
    rw [he] at hr hc
    simp only [Bool.and_eq_true] at hc
    obtain ⟨ho, hd⟩ := hc
    obtain ⟨hci, w1, w2, w3⟩ := nc_ok e (List.mem_of_getElem? he)
    replace hr : doesC F (cond (okK L st hs) (kGo (m, pc + 3, L, aR hs.length :: st, hs ++ [Sum.inl (e.2.2.1, dfs e.2.2.1)])) none) = some r := hr
    cases hk : okK L st hs with
    | false => rw [hk] at hr; cases hr
    | true =>
      rw [hk] at hr
      obtain ⟨k1, k2, k3⟩ := okK_at hk
      have hi := ih _ _ hr
      have hm := hi.2
      simp only [List.length_append, List.length_singleton, tot_app] at hm
      refine ⟨?_, by simp only; omega, by simp only; omega⟩
      intro p e0 R s mm args below meth cd H locs ls cells slots c1 s1 Q as hF h1 h2 z1 z2 z3 z4 hl hH hE
      simp only at z1 z2
      have hsz : szC (Sum.inl (e.2.2.1, dfs e.2.2.1)) = fdN e.2.2.1 := rfl
      rw [hsz] at hm
      have hown : s.vm.findClass (cnm e.1) = some mm.cls := by rw [beq_iff_eq.mp ho]; exact hF.2.2.2.1
      have hts := hF.2.2.2.2.1
      refine va_new (fs := dvs e.2.2.1) hF.1 hF.2.1 hts (cl_in hci) (tyF e.2.2.1) (cl_ty _ hci) hown (hts _ (tg_at ⟨w1, rfl⟩)) (hts _ (tg_at ⟨w2, rfl⟩)) (hts _ (tg_at ⟨w3, rfl⟩)) hF.2.2.2.2.2.1 hH.2.1 hH.2.2.1 hH.2.2.2 hF.2.2.2.2.2.2.2.1 (cl_get hci) (dvs_def _ hci) (by omega) (by omega) (dcC_at hd) (fun q H1 hP1 hD1 hS1 => ?_)
      have hce : (Sum.inr (e.2.2.1, dvs e.2.2.1) : va_E) = ccE as cI (Sum.inl (e.2.2.1, dfs e.2.2.1)) := by
        show _ = Sum.inr (e.2.2.1, (dfs e.2.2.1).map (cv (ada as)))
        rw [dfs_cv]
      rw [hce, ← aw_push hH.1 k3 (ccE_app (dfs_ok _ _))] at hP1 hD1
      have hlen : as.length = hs.length := hH.1
      have := hi.1 p e0 R s mm args below meth cd H1 locs ls (cells + 1) (slots + fdN e.2.2.1) c1 s1 Q (as ++ [q]) hF h1 h2 (by simp only [List.length_append, List.length_singleton]; omega) (by simp only [tot_app, hsz]; omega) z3 z4 (lvH_app hl (by rw [hlen]; exact k1)) ⟨by simp only [List.length_append, List.length_singleton]; omega, hP1, hD1, hS1⟩ (fun H2 locs2 ls2 more q1 q2 q3 q4 q5 q6 => by
        rw [List.append_assoc] at q1 q2 q3 q4
        exact hE H2 locs2 ls2 ([q] ++ more) q1 q2 q3 q4 q5 q6)
      rw [List.map_cons, cvs_app (by rw [hlen]; exact k2)] at this
      have ha : cv (ada (as ++ [q])) (aR hs.length) = .ref q := by
        show Value.ref (ada (as ++ [q]) hs.length) = _
        unfold ada
        rw [List.getD_eq_getElem?_getD, List.getElem?_append_right (by omega), hlen, Nat.sub_self]
        rfl
      rw [ha] at this
      exact this
theorem g_61 {F : Kf → Option (Nat × List AV × List CC)} (ih : ∀ c r, F c = some r → WM l D cI A c r) {len a m pc : Nat} {v : Int} {L st : List AV} {hs : List CC} {r : Nat × List AV × List CC} (hc : chkK2 m pc 61 len a v = true) (hr : doesC F (semC 61 len a v m pc L st hs) = some r) : WM l D cI A (m, pc, L, st, hs) r := by
  replace hr : doesC F (k_newa m pc L st hs) = some r := hr
  have hd := dcC_at (show dcC m pc (.newarray .int) 2 = true from hc)
  unfold k_newa at hr
  split at hr
  · rename_i n r1
    cases hk : (okK L r1 hs && decide (0 ≤ n ∧ n < 1000)) with
    | false => rw [hk] at hr; cases hr
    | true =>
      rw [hk] at hr
      simp only [Bool.and_eq_true, decide_eq_true_eq] at hk
      obtain ⟨hk, hn0, hn1⟩ := hk
      obtain ⟨k1, k2, k3⟩ := okK_at hk
      have hi := ih _ _ hr
      have hm := hi.2
      simp only [List.length_append, List.length_singleton, tot_app] at hm
      have hsz : szC (Sum.inr (List.replicate n.toNat 0)) = n.toNat := by simp [szC]
      rw [hsz] at hm
      refine ⟨?_, by simp only; omega, by simp only; omega⟩
      intro p e0 R s mm args below meth cd H locs ls cells slots c1 s1 Q as hF h1 h2 z1 z2 z3 z4 hl hH hE
      simp only at z1 z2
      have hts := hF.2.2.2.2.1
      have hwr : wr n = n := wr_id (by omega) (by omega)
      have hneg : ¬ Int32.ofInt n < 0 := by
        rw [show (0 : Int32) = Int32.ofInt 0 from rfl, wr_lt, wr_0, hwr]; omega
      have hN : (Int32.ofInt n).toNatClampNeg = n.toNat := by
        rw [Int32.toNatClampNeg, wr_eq, hwr]
      refine va_newa (atype := .int) (ty := .int) (N' := n.toNat) (a0 := (n.toNat, Sum.inl (fun j => Int32.ofInt ((List.replicate n.toNat (0 : Int)).getD j 0)))) hF.1 hF.2.1 (hts _ (tg_at ⟨ac_w, rfl⟩)) rfl hF.2.2.2.2.2.1 hH.2.1 hH.2.2.1 hH.2.2.2 hF.2.2.2.2.2.2.2.1 (fun cA => ?_) hneg hN ?_ (by omega) (by omega) hd (fun q cA H1 hK1 hP1 hD1 hS1 => ?_)
      · rw [vp_cell_i]
        congr 1
        funext j
        rw [List.getD_eq_getElem?_getD]
        by_cases hj : j < n.toNat
        · rw [List.getElem?_eq_getElem (by rw [List.length_replicate]; exact hj), List.getElem_replicate]
          rfl
        · rw [List.getElem?_eq_none (by rw [List.length_replicate]; omega)]
          rfl
      · have : componentBytes .int = 4 := by decide +kernel
        rw [this]
        omega
      · have hcA : cA = cI := by
          have a1 := (hK1.2 1 (cA, .int) rfl).2
          have a2 := (hF.2.2.2.2.2.1.2 0 (cI, .int) rfl).2
          exact Option.some.inj (Eq.trans (Eq.symm a1) a2)
        subst hcA
        have hce : (Sum.inl (cA, n.toNat, Sum.inl (fun j => Int32.ofInt ((List.replicate n.toNat (0 : Int)).getD j 0))) : va_E) = ccE as cA (Sum.inr (List.replicate n.toNat 0)) := by
          show _ = Sum.inl (cA, (List.replicate n.toNat (0 : Int)).length, Sum.inl _)
          rw [List.length_replicate]
        rw [hce, ← aw_push hH.1 k3 (ccE_app rfl)] at hP1 hD1
        have hlen : as.length = hs.length := hH.1
        have := hi.1 p e0 R s mm args below meth cd H1 locs ls (cells + 1) (slots + n.toNat) c1 s1 Q (as ++ [q]) hF h1 h2 (by simp only [List.length_append, List.length_singleton]; omega) (by simp only [tot_app, hsz]; omega) z3 z4 (lvH_app hl (by rw [hlen]; exact k1)) ⟨by simp only [List.length_append, List.length_singleton]; omega, hP1, hD1, hS1⟩ (fun H2 locs2 ls2 more q1 q2 q3 q4 q5 q6 => by
          rw [List.append_assoc] at q1 q2 q3 q4
          exact hE H2 locs2 ls2 ([q] ++ more) q1 q2 q3 q4 q5 q6)
        rw [List.map_cons, cvs_app (by rw [hlen]; exact k2)] at this
        have ha : cv (ada (as ++ [q])) (aR hs.length) = .ref q := by
          show Value.ref (ada (as ++ [q]) hs.length) = _
          unfold ada
          rw [List.getD_eq_getElem?_getD, List.getElem?_append_right (by omega), hlen, Nat.sub_self]
          rfl
        rw [ha] at this
        exact this
  · cases hr
theorem g_62 {F : Kf → Option (Nat × List AV × List CC)} (ih : ∀ c r, F c = some r → WM l D cI A c r) {len a m pc : Nat} {v : Int} {L st : List AV} {hs : List CC} {r : Nat × List AV × List CC} (hc : chkK2 m pc 62 len a v = true) (hr : doesC F (semC 62 len a v m pc L st hs) = some r) : WM l D cI A (m, pc, L, st, hs) r := by
  replace hr : doesC F (k_oi m pc L st hs) = some r := hr
  replace hc : (match ocL[a]? with
    | some e => e.1 == oC m && dcC m pc (.invokespecial e.2.1) 3 && decide (1 ≤ fC m) && decide (12 ≤ lC m)
    | none => false) = true := hc
  cases he : ocL[a]? with
  | none => rw [he] at hc; cases hc
  | some e =>
    rw [he] at hc
    simp only [Bool.and_eq_true, decide_eq_true_eq] at hc
    obtain ⟨⟨⟨ho, hd⟩, hf⟩, hlc⟩ := hc
    have hw := oc_ok e (List.mem_of_getElem? he)
    unfold k_oi at hr
    split at hr
    · refine wm_pure (ih _ _ hr) (fun p0 e0 R s mm args below meth cd H locs ls cells slots c1 s1 Q as hF h1 h2 hl hH hW => ?_)
      have hown : s.vm.findClass (cnm e.1) = some mm.cls := by rw [beq_iff_eq.mp ho]; exact hF.2.2.2.1
      have hts := hF.2.2.2.2.1
      exact W.objInit hF.1 hF.2.1 hown (hts _ (tg_at ⟨hw, rfl⟩)) (hts _ (tg_at ⟨oc_w, rfl⟩)) (hts _ (tg_at ⟨oc_c, rfl⟩)) rfl (by rw [hF.2.2.1]; exact hl.1) rfl (dcC_at hd) (by omega) (by show 2 * 0 + 0 + 12 ≤ _; omega) hW
    · cases hr
def wsC (y : Nat) : List Cond := Cond.code (yC y) (bC y) (nC y) none :: tg
def rmC (y mc ms : Nat) : Room := { frames := fC y, cells := mc, slots := ms, locals := lC y }
def WIC (D : va_G) (cI : ClassId) (A : Nat → Prop) (as : List Nat) (hs : List CC) (U : State) : Prop := as.length = hs.length ∧ va_P D cl (aw as cI hs) U.heap ∧ va_K D cl [(cI, .int)] U ∧ va_D A (aw as cI hs) ∧ (∀ e ∈ kcN, va_Nw (kcw e) U) ∧ ∀ z, U.heap.size ≤ z → A z
def QC (D : va_G) (cI : ClassId) (A : Nat → Prop) (as : List Nat) (hs : List CC) : Array Value → State → Outcome → State → Prop := va_Qv (fun more : List Nat => (as ++ more).length = hs.length) (fun more t => va_P D cl (aw (as ++ more) cI hs) t.heap ∧ va_D A (aw (as ++ more) cI hs)) A
theorem wic_blind (av : List Value) (as : List Nat) (hs : List CC) : FrameBlind (va_Pc av (WIC D cI A as hs)) := by
  intro a U g mk q
  obtain ⟨q0, q1, q2, q3, q4, q5, q6⟩ := q
  exact ⟨q0, q1, q2, va_K.moved (u := U) (U := U.calling g mk a) (Vm.Alike.refl U.vm) q3, q4, fun e he => va_Nw.same (u := U) (U := U.calling g mk a) rfl rfl (q5 e he), q6⟩
theorem met_c {y : Nat} (hy : y < 11) {as : List Nat} {hs : List CC} {pl : Nat} {q : Nat × List AV × List CC} (hw : WM l D cI A (y, 0, aR pl :: List.replicate (nC y - 1) aN, [], hs) q) : Met l (yC y) (wsC y) (rmC y (q.2.2.length - hs.length) (tot q.2.2 - tot hs)) (va_Pc [.ref (ada as pl)] (WIC D cI A as hs)) (QC D cI A as q.2.2) (q.2.2.length - hs.length) (tot q.2.2 - tot hs) A := by
  refine Met.ofW (cc := bC y) (maxL := nC y) (ret := none) (cm_ok y hy).1 rfl ?_
  intro p e s m args below meth c s₁ B hml hv
  obtain ⟨rfl, hlen, hP, hK, hD, hnk, hA⟩ := hv
  have hx := B.exec
  have hb := B.bytes
  have hr := B.returns
  have hts := atoms_spec (ws := wsC y) B.pre
  have hown : s.vm.findClass (cnm (oC y)) = some m.cls := by
    rw [← (cm_ok y hy).2.1]; exact findClass_of_methodNamed B.named
  have hlocks := B.notSynchronized
  have hin : meth.name = "<init>" := (name_of_methodNamed B.named B.method).1.trans (cm_ok y hy).2.2.2.2.2.1
  have hn1 : nC y ≥ 1 := (cm_ok y hy).2.2.2.2.2.2
  rw [lg_entry_eq]
  have hm := hw.2
  simp only at hm
  have hl0 := lv_entry ([.ref (ada as pl)]) (n := nC y) (by show 1 ≤ nC y; exact hn1)
  have hl : lvH (ada as) ((lg_sl [Value.ref (ada as pl)] ++ List.replicate (nC y - (lg_sl [Value.ref (ada as pl)]).length) Slot.unset).toArray) (nC y) (aR pl :: List.replicate (nC y - 1) aN) := by
    refine ⟨hl0.1, hl0.2.1, by rw [List.length_cons, List.length_replicate]; omega, fun i v hi hv => ?_⟩
    cases i with
    | zero => cases hi; exact hl0.2.2 (0, .ref (ada as pl)) List.mem_cons_self
    | succ i =>
      rw [List.getElem?_cons_succ] at hi
      have := List.eq_of_mem_replicate (List.mem_of_getElem? hi)
      subst this
      cases hv
  refine hw.1 p e (rmC y (q.2.2.length - hs.length) (tot q.2.2 - tot hs)) s m _ below meth c s.heap [] _ 0 0 (q.2.2.length - hs.length) (tot q.2.2 - tot hs) _ as ⟨hx, hb, hml, hown, fun w h => hts w (List.mem_cons_of_mem _ h), hK, hnk, hA, fun _ => hin⟩ (Nat.le_refl _) (Nat.le_refl _) (by simp only; omega) (by simp only; omega) (Nat.le_refl _) (Nat.le_refl _) hl ⟨hlen, hP, hD, va_S.rf⟩ ?_
  intro H1 locs1 ls1 more q1 q2 q3 q4 q5 q6
  exact W.vret hx hb hr (fun t ht hW => ⟨⟨more, rfl, q1, by rw [ht]; exact q3, q4⟩, q5.F ht⟩) q5.2.2 (q6 hy)
theorem wsC_good {y : Nat} (hy : y < 11) : GoodIn tg (wsC y) := by
  intro w hw
  rcases List.mem_cons.mp hw with rfl | hw
  · exact ⟨tg_of (cc_all y hy) rfl, good_of_word rfl⟩
  · exact tg_good w hw
/-- a constructor's call, in any frame -/
theorem call_c {p : Program} {e : Env} {R : Room} {s : State} {mm : MethodId} {args : Array Value} {below : List Frame} {meth : Method} {cd : Code} {H : Heap} {locs : List Loc} {ls : Array Slot} {cells slots pc nL idx own : Nat} {cc : ByteArray} {Q : State → Prop} {rest : List Value} {as : List Nat} {hs : List CC} {y pl : Nat} {q : Nat × List AV × List CC}
    (hy : y < 11) (hw : WM l D cI A (y, 0, aR pl :: List.replicate (nC y - 1) aN, [], hs) q)
    (S : CallFix p mm cd cc nL s args tg (cnm own)) (hK : va_K D cl [(cI, .int)] s) (hnk : ∀ e ∈ kcN, va_Nw (kcw e) s) (hA : ∀ z, s.heap.size ≤ z → A z)
    (hlink : (∃ w ∈ tg, w = Cond.methodLink (cnm own) idx (yC y)) ∨ ∃ host, va_Nw (.methodLinkNest (cnm own) idx (yC y) host) s)
    (hR : fC y + 1 ≤ R.frames ∧ 8 + (nC y + 11) + lC y ≤ R.locals) (hsz : ls.size = nL) (hrest : (rest.map fun v => v.category).sum ≤ 8) (hdg : decode cc pc = .ok (.invokespecial idx, 3))
    (hcel : cells + (q.2.2.length - hs.length) ≤ R.cells) (hslo : slots + (tot q.2.2 - tot hs) ≤ R.slots) (hH : Wld D cI A s as hs H locs)
    (kk : ∀ H1 locs1 more, Wld D cI A s (as ++ more) q.2.2 H1 locs1 → W p l e R s mm args below meth cd H1 locs1 (cells + (q.2.2.length - hs.length)) (slots + (tot q.2.2 - tot hs)) Q (F0 mm (pc + 3) ls rest)) : W p l e R s mm args below meth cd H locs cells slots Q (F0 mm pc ls (.ref (ada as pl) :: rest)) := by
  have hts := S.2.2.2.2
  have hcm := cm_ok y hy
  have hini := hts _ (tg_at ⟨ct_ini y hy, rfl⟩)
  have hins := hts _ (tg_at ⟨ci_ok y hy, rfl⟩)
  have hd : (yC y).cls ≠ "java/lang/invoke/MethodHandle" ∧ (yC y).cls ≠ "java/lang/invoke/VarHandle" ∧ (parseMethodDescriptor (yC y).desc).map (fun d => d.parameters.length) = some 0 := ⟨hcm.2.2.1, hcm.2.2.2.1, hcm.2.2.2.2.1⟩
  have hpre : PreS s H (va_Pc [.ref (ada as pl)] (WIC D cI A as hs)) (.ref (ada as pl) :: []) := by
    refine ⟨wic_blind _ as hs, fun U hU hW => ⟨rfl, hH.1, by rw [hU]; exact hH.2.1, va_K.moved hW.alike hK, hH.2.2.1, fun e he => va_Nw.warmM hW (hnk e he), fun z hz => hA z ?_⟩⟩
    rw [hU] at hz
    exact Nat.le_trans hH.2.2.2.1 hz
  have hrun : va_Run p l e R s mm args below meth cd H locs cells slots (q.2.2.length - hs.length) (tot q.2.2 - tot hs) (F0 mm pc ls (.ref (ada as pl) :: rest)) rest (QC D cI A as q.2.2 [Value.ref (ada as pl)].toArray) A := by
    rcases hlink with ⟨w, hw1, rfl⟩ | ⟨host, hn⟩
    · exact va_runI (As := []) S (met_c hy hw) (cwI 0 hts (wsC_good hy) rfl rfl rfl hini (hts _ hw1) hins hcm.2.2.2.2.2.1 hd hR) hpre rfl rfl hsz rfl (lv_room hrest) hdg ⟨hcel, hslo⟩
    · exact va_runIN (As := []) S (met_c hy hw) ⟨va_cnB 0 hts (wsC_good hy) rfl rfl rfl hn hini hd hR, hcm.2.2.2.2.2.1, hins⟩ hpre rfl rfl hsz rfl (lv_room hrest) hdg ⟨hcel, hslo⟩
  refine va_callv (a := [Value.ref (ada as pl)].toArray) (A0 := A) (A1 := A) hrun hH.2.2.2 (fun _ _ z => z) (fun _ z => z) (fun more t H1 locs1 ht hvm hp hB hz hk hS => ?_)
  exact kk H1 locs1 more ⟨hp, by rw [← ht]; exact hB.1, hB.2, hS⟩
theorem g_63 {F : Kf → Option (Nat × List AV × List CC)} (ih : ∀ c r, F c = some r → WM l D cI A c r) {len a m pc : Nat} {v : Int} {L st : List AV} {hs : List CC} {r : Nat × List AV × List CC} (hc : chkK2 m pc 63 len a v = true) (hr : doesC F (semC 63 len a v m pc L st hs) = some r) : WM l D cI A (m, pc, L, st, hs) r := by
  replace hr : doesC F (k_ci a m pc L st hs) = some r := hr
  replace hc : (match kcL[a]? with
    | some e => e.1 == oC m && dcC m pc (.invokespecial e.2.1) 3 && decide (fC e.2.2.1 + 1 ≤ fC m) && decide (8 + (nC e.2.2.1 + 11) + lC e.2.2.1 ≤ lC m)
    | none => false) = true := hc
  unfold k_ci at hr
  split at hr
  · rename_i pl r1 e he
    rw [he] at hc
    simp only [Bool.and_eq_true, decide_eq_true_eq, beq_iff_eq] at hc
    obtain ⟨⟨⟨ho, hd⟩, hrf⟩, hrl⟩ := hc
    obtain ⟨hy, hw0⟩ := kc_ok e (List.mem_of_getElem? he)
    cases hk : (okK L r1 hs && decide (catS r1 ≤ 8) && decide (pl < hs.length)) with
    | false => rw [hk] at hr; cases hr
    | true =>
      rw [hk] at hr
      simp only [Bool.and_eq_true, decide_eq_true_eq] at hk
      obtain ⟨⟨hk, hcat⟩, hpl⟩ := hk
      obtain ⟨k1, k2, k3⟩ := okK_at hk
      replace hr : (match F (e.2.2.1, 0, aR pl :: List.replicate (nC e.2.2.1 - 1) aN, [], hs) with
        | some q => F (m, pc + 3, L, r1, q.2.2)
        | none => none) = some r := hr
      cases hq : F (e.2.2.1, 0, aR pl :: List.replicate (nC e.2.2.1 - 1) aN, [], hs) with
      | none => rw [hq] at hr; cases hr
      | some q =>
        rw [hq] at hr
        have hi := ih _ _ hr
        have hw := ih _ _ hq
        have hm := hi.2
        have hm2 := hw.2
        simp only at hm hm2
        refine ⟨?_, by simp only; omega, by simp only; omega⟩
        intro p e0 R s mm args below meth cd H locs ls cells slots c1 s1 Q as hF h1 h2 z1 z2 z3 z4 hl hH hE
        simp only at z1 z2 h1 h2
        have hown : s.vm.findClass (cnm e.1) = some mm.cls := by rw [ho]; exact hF.2.2.2.1
        have hlen : as.length = hs.length := hH.1
        have hlink : (∃ w ∈ tg, w = Cond.methodLink (cnm e.1) e.2.1 (yC e.2.2.1)) ∨ ∃ host, va_Nw (.methodLinkNest (cnm e.1) e.2.1 (yC e.2.2.1) host) s := by
          by_cases h2k : e.2.2.2.1 = 2
          · obtain ⟨z, hz, y1, y2, y3⟩ := kc_nest e (List.mem_of_getElem? he) h2k
            have hn := hF.2.2.2.2.2.2.1 z hz
            unfold kcw at hn
            rw [y1, y2, y3] at hn
            exact Or.inr ⟨_, hn⟩
          · exact Or.inl ⟨_, tg_at ⟨hw0 h2k, rfl⟩, rfl⟩
        refine call_c (pl := pl) hy hw ⟨hF.1, hF.2.1, hF.2.2.1, hown, hF.2.2.2.2.1⟩ hF.2.2.2.2.2.1 hF.2.2.2.2.2.2.1 hF.2.2.2.2.2.2.2.1 hlink ⟨by omega, by omega⟩ hl.1 (by rw [cv_cats]; exact hcat) (dcC_at hd) (by omega) (by omega) hH (fun H1 locs1 more hH1 => ?_)
        have := hi.1 p e0 R s mm args below meth cd H1 locs1 ls (cells + (q.2.2.length - hs.length)) (slots + (tot q.2.2 - tot hs)) c1 s1 Q (as ++ more) hF h1 h2 (by simp only; omega) (by simp only; omega) z3 z4 (lvH_app hl (by rw [hlen]; exact k1)) hH1 (fun H2 locs2 ls2 more2 q1 q2 q3 q4 q5 q6 => by
          rw [List.append_assoc] at q1 q2 q3 q4
          exact hE H2 locs2 ls2 (more ++ more2) q1 q2 q3 q4 q5 q6)
        simp only at this
        rw [cvs_app (by rw [hlen]; exact k2)] at this
        exact this
  · cases hr
theorem g_all {F : Kf → Option (Nat × List AV × List CC)} (ih : ∀ c r, F c = some r → WM l D cI A c r) {len a m pc : Nat} {v : Int} {L st : List AV} {hs : List CC} {r : Nat × List AV × List CC} (op : Nat) (hc : chkK2 m pc op len a v = true) (hr : doesC F (semC op len a v m pc L st hs) = some r) : WM l D cI A (m, pc, L, st, hs) r := by
  unfold semC at hr
  split at hr
  · exact g_0 ih hc hr
  · exact g_1 ih hc hr
  · exact g_2 ih hc hr
  · exact g_4 ih hc hr
  · exact g_5 ih hc hr
  · exact g_6 ih hc hr
  · exact g_7 ih hc hr
  · exact g_9 ih hc hr
  · exact g_10 ih hc hr
  · exact g_29 ih hc hr
  · exact g_32 ih hc hr
  · exact g_33 ih hc hr
  · exact g_34 ih hc hr
  · exact g_38 ih hc hr
  · exact g_40 ih hc hr
  · exact g_41 ih hc hr
  · exact g_47 ih hc hr
  · exact g_60 ih hc hr
  · exact g_61 ih hc hr
  · exact g_62 ih hc hr
  · exact g_63 ih hc hr
  · exact g_64 ih hc hr
  · cases hr
theorem rn_snd (l : Launch) (D : va_G) (cI : ClassId) (A : Nat → Prop) : ∀ (n : Nat) (c : Kf) (r : Nat × List AV × List CC), rnC n c = some r → WM l D cI A c r
  | 0, c, r, h => by cases h
  | n + 1, c, r, h => by
    obtain ⟨m, pc, L, st, hs⟩ := c
    have ih := rn_snd l D cI A n
    replace h : doesC (rnC n) (match (prC m)[pc]? with
      | some e => semC e.1 e.2.1 e.2.2.1 e.2.2.2 m pc L st hs
      | none => none) = some r := h
    cases he : (prC m)[pc]? with
    | none => rw [he] at h; cases h
    | some e =>
      rw [he] at h
      have hc := ckC_ok m pc e he
      simp only [Bool.or_eq_true, beq_iff_eq] at hc
      rcases hc with hc | hc
      · obtain ⟨op, len, a, v⟩ := e
        replace hc : op = 99 := hc
        subst hc
        cases h
      · exact g_all ih e.1 hc h
end CSND

