/-! SOUNDNESS, the heap, calls, the end -/
section SND2
variable {l : Launch} {D : va_G} {ad : Nat → Nat} {cI : ClassId} {A : Nat → Prop} {o : Hp}
theorem sw_pick {F : Cf → Res} {m : Nat} {L st : List AV} {h : Hp} {x : Int} {d : Nat} {r : RV} : ∀ (kts : List (Int × Nat)), (kts.map (fun kt => ((decide (x = kt.1), (m, kt.2, L, st, h)) : Bool × Cf))).foldr (fun q acc => cond q.1 (F q.2) acc) (F (m, d, L, st, h)) = some r → ∃ t, F (m, t, L, st, h) = some r ∧ ((∃ i : Nat, (kts.map Prod.fst)[i]? = some x ∧ (kts.map Prod.snd)[i]? = some t ∧ ∀ j : Nat, j < i → (kts.map Prod.fst)[j]? ≠ some x) ∨ (t = d ∧ ∀ i : Nat, (kts.map Prod.fst)[i]? ≠ some x))
  | [], hr => ⟨d, hr, Or.inr ⟨rfl, fun i => by simp⟩⟩
  | kt :: kts, hr => by
    replace hr : cond (decide (x = kt.1)) (F (m, kt.2, L, st, h)) ((kts.map (fun kt => ((decide (x = kt.1), (m, kt.2, L, st, h)) : Bool × Cf))).foldr (fun q acc => cond q.1 (F q.2) acc) (F (m, d, L, st, h))) = some r := hr
    cases hx : decide (x = kt.1) with
    | true =>
      rw [hx] at hr
      have hx := of_decide_eq_true hx
      exact ⟨kt.2, hr, Or.inl ⟨0, by simp [hx], by simp, fun j hj => absurd hj (Nat.not_lt_zero j)⟩⟩
    | false =>
      rw [hx] at hr
      have hx := of_decide_eq_false hx
      obtain ⟨t, h1, h2⟩ := sw_pick kts hr
      refine ⟨t, h1, ?_⟩
      rcases h2 with ⟨i, h3, h4, h5⟩ | ⟨h3, h4⟩
      · refine Or.inl ⟨i + 1, by simpa using h3, by simpa using h4, fun j hj => ?_⟩
        cases j with
        | zero => simp; exact fun q => hx q.symm
        | succ j => simpa using h5 j (by omega)
      · refine Or.inr ⟨h3, fun i => ?_⟩
        cases i with
        | zero => simp; exact fun q => hx q.symm
        | succ i => simpa using h4 i
theorem d_35 {F : Cf → Res} (ih : ∀ c r, F c = some r → WS l D ad cI A o c r) {len a m pc : Nat} {v : Int} {L st : List AV} {h : Hp} {r : RV} (hc : chk m pc 35 len a v = true) (hr : does F F (sem 35 len a v m pc L st h) = some r) : WS l D ad cI A o (m, pc, L, st, h) r := by
  replace hr : does F F (s_switch a m L st h) = some r := hr
  replace hc : chkT m pc len a = true := hc
  unfold s_switch at hr
  split at hr
  · rename_i x r1 e he
    unfold chkT at hc
    rw [he] at hc
    simp only [Bool.and_eq_true, decide_eq_true_eq] at hc
    obtain ⟨⟨-, hd⟩, hk⟩ := hc
    have hd := dc_at hd
    obtain ⟨t, ht, hcase⟩ := sw_pick e.2.2.2 hr
    refine ws_pure (ih _ _ ht) fun p e2 R s mm args below meth cd H locs ls cells slots Q hF _ _ _ _ _ _ hW => ?_
    have hlen : e.2.2.2.length = (e.2.2.2.map Prod.fst).length := by simp
    rcases hcase with ⟨i, h1, h2, -⟩ | ⟨rfl, h1⟩
    · have hi : i < e.2.2.2.length := by
        have := (List.getElem?_eq_some_iff.mp h1).1
        simpa using this
      have hx : wr x = swLo e + (i : Nat) := by
        rw [hk, List.getElem?_map, List.getElem?_range hi] at h1
        exact (Option.some.inj h1).symm
      have ho : (e.2.2.2.map (fun kt => (kt.2 : Int) - pc))[i]? = some ((t : Int) - pc) := by
        rw [List.getElem?_map] at h2 ⊢
        cases hq : e.2.2.2[i]? with
        | none => rw [hq] at h2; cases h2
        | some kt => rw [hq] at h2; cases h2; rfl
      refine lv_tableIn hF.1 hF.2.1 hd (off := (t : Int) - pc) (tgt := t) ?_ ?_ ?_ (by omega) hW
      · rw [wr_eq]; omega
      · rw [wr_eq]; omega
      · rw [wr_eq, hx, show (swLo e + (i : Nat) - swLo e).toNat = i by omega]
        simpa using ho
    · refine lv_tableOut hF.1 hF.2.1 hd ?_ (by omega) hW
      rw [wr_eq]
      apply Classical.byContradiction
      intro q
      have hi : (wr x - swLo e).toNat < e.2.2.2.length := by omega
      apply h1 (wr x - swLo e).toNat
      rw [hk, List.getElem?_map, List.getElem?_range hi]
      exact congrArg some (show swLo e + (((wr x - swLo e).toNat : Nat) : Int) = wr x by omega)
  · cases hr
theorem lk_off {x : Int} {pc d t : Int} : ∀ (kts : List (Int × Nat)), ((∃ i : Nat, (kts.map Prod.fst)[i]? = some x ∧ ((kts.map Prod.snd)[i]?).map (fun n : Nat => (n : Int) - pc) = some t ∧ ∀ j : Nat, j < i → (kts.map Prod.fst)[j]? ≠ some x) ∨ (t = d ∧ ∀ i : Nat, (kts.map Prod.fst)[i]? ≠ some x)) → Op.lookupswitch.offset (kts.map (fun kt => (kt.1, (kt.2 : Int) - pc))) d x = t
  | [], h => by
    rcases h with ⟨i, h1, -⟩ | ⟨h1, -⟩
    · simp at h1
    · rw [h1]; rfl
  | kt :: kts, h => by
    rw [List.map_cons, Op.lookupswitch.offset_cons]
    by_cases hx : x = kt.1
    · rw [if_pos hx.symm]
      rcases h with ⟨i, h1, h2, h3⟩ | ⟨-, h2⟩
      · cases i with
        | zero => simpa using h2
        | succ i => exact absurd (by simp [hx]) (h3 0 (by omega))
      · exact absurd (by simp [hx]) (h2 0)
    · rw [if_neg (fun q => hx q.symm)]
      refine lk_off kts ?_
      rcases h with ⟨i, h1, h2, h3⟩ | ⟨h1, h2⟩
      · cases i with
        | zero => simp at h1; exact absurd h1.symm hx
        | succ i => exact Or.inl ⟨i, by simpa using h1, by simpa using h2, fun j hj => by simpa using h3 (j + 1) (by omega)⟩
      · exact Or.inr ⟨h1, fun i => by simpa using h2 (i + 1)⟩
theorem d_36 {F : Cf → Res} (ih : ∀ c r, F c = some r → WS l D ad cI A o c r) {len a m pc : Nat} {v : Int} {L st : List AV} {h : Hp} {r : RV} (hc : chk m pc 36 len a v = true) (hr : does F F (sem 36 len a v m pc L st h) = some r) : WS l D ad cI A o (m, pc, L, st, h) r := by
  replace hr : does F F (s_switch a m L st h) = some r := hr
  replace hc : chkK m pc len a = true := hc
  unfold s_switch at hr
  split at hr
  · rename_i x r1 e he
    unfold chkK at hc
    rw [he] at hc
    simp only [Bool.and_eq_true] at hc
    obtain ⟨⟨-, hd⟩, hk⟩ := hc
    have hd := dc_at hd
    obtain ⟨t, ht, hcase⟩ := sw_pick e.2.2.2 hr
    refine ws_pure (ih _ _ ht) fun p e2 R s mm args below meth cd H locs ls cells slots Q hF _ _ _ _ _ _ hW => ?_
    refine lv_lookup hF.1 hF.2.1 hd hk (off := (t : Int) - pc) (tgt := t) ?_ (by omega) hW
    rw [wr_eq]
    refine lk_off e.2.2.2 ?_
    rcases hcase with ⟨i, h1, h2, h3⟩ | ⟨rfl, h1⟩
    · exact Or.inl ⟨i, h1, by rw [h2]; rfl, h3⟩
    · exact Or.inr ⟨rfl, h1⟩
  · cases hr
theorem lenP_eq {h : Hp} {p : Nat} (hp : clsO p = 20) : lenP h p = (lenA p : Nat) := by
  unfold lenP
  rw [if_neg]
  intro q
  have := cls_arr hp
  omega
theorem lenP_out {h : Hp} {p : Nat} (hst : ∀ p, 98 ≤ p → h p = o p) (h0 : 0 ≤ o 103 0) : lenP h p = (lenT o p : Nat) := by
  unfold lenP lenT
  split
  · rw [hst 103 (by omega)]; omega
  · rfl
theorem d_37 {F : Cf → Res} (ih : ∀ c r, F c = some r → WS l D ad cI A o c r) {len a m pc : Nat} {v : Int} {L st : List AV} {h : Hp} {r : RV} (hc : chk m pc 37 len a v = true) (hr : does F F (sem 37 len a v m pc L st h) = some r) : WS l D ad cI A o (m, pc, L, st, h) r := by
  replace hr : does F F (s_iaload m pc L st h) = some r := hr
  have hd := dc_at (show dc m pc .iaload 1 = true from hc)
  unfold s_iaload at hr
  split at hr
  · rename_i i p r1
    cases hq : isArr p with
    | false => rw [hq] at hr; cases hr
    | true =>
      rw [hq] at hr
      replace hr : cond (inb (lenP h p) i) (F (m, pc + 1, L, aI (h p (wr i)) :: r1, h)) none = some r := hr
      cases hb : inb (lenP h p) i with
      | false => rw [hb] at hr; cases hr
      | true =>
        rw [hb] at hr
        refine ws_pure (ih _ _ hr) fun p0 e R s mm args below meth cd H locs ls cells slots Q hF _ _ _ _ _ hH hW => ?_
        unfold isArr at hq
        simp only [Bool.or_eq_true, beq_iff_eq] at hq
        rcases hq with hq | hq
        · rw [lenP_eq hq] at hb
          obtain ⟨b1, b2, b3⟩ := in_at hb
          have hg := mk_get ad cI h (cls_arr hq)
          rw [ce_arr hq] at hg
          refine va_iald hF.1 hF.2.1 hF.2.2.2.2.2.1 hH.1 p 0 hg rfl b1 hd ?_
          rw [b2]
          exact hW
        · rw [lenP_out (o := o) hH.2.2 hF.2.2.2.2.2.2.2.2.1] at hb
          obtain ⟨b1, b2, b3⟩ := in_at hb
          have hp := cls_out hq
          refine va_ti hF.1 hF.2.1 (hF.2.2.2.2.2.2.1.2.1 p hp.1 hp.2) hH.2.1 b1 rfl hd ?_
          rw [b2, ← hH.2.2 p hp.1]
          exact hW
  · cases hr
theorem ws_heap {m pc pc1 : Nat} {L st st1 : List AV} {h h1 : Hp} {r : RV} (ih : WS l D ad cI A o (m, pc1, L, st1, h1) r)
    (row : ∀ (p : Program) (e : Env) (R : Room) (s : State) (mm : MethodId) (args : Array Value) (below : List Frame) (meth : Method) (cd : Code) (H : Heap) (locs : List Loc) (ls : Array Slot) (cells slots : Nat) (Q : State → Prop), Fx D ad cI A o p s mm args meth cd m → rf m ≤ R.frames → rl m ≤ R.locals → cells ≤ R.cells → slots ≤ R.slots → lvH ad ls (nl m) L → Hd D ad cI A o s h H locs → (∀ (H1 : Heap) (locs1 : List Loc), Hd D ad cI A o s h1 H1 locs1 → W p l e R s mm args below meth cd H1 locs1 cells slots Q (F0 mm pc1 ls (st1.map (cv ad)))) → W p l e R s mm args below meth cd H locs cells slots Q (F0 mm pc ls (st.map (cv ad)))) : WS l D ad cI A o (m, pc, L, st, h) r := by
  intro p e R s mm args below meth cd H locs ls cells slots Q hF h1 h2 h3 h4 hl hH hE
  exact row p e R s mm args below meth cd H locs ls cells slots Q hF h1 h2 h3 h4 hl hH fun H1 locs1 hH1 => ih p e R s mm args below meth cd H1 locs1 ls cells slots Q hF h1 h2 h3 h4 hl hH1 hE
theorem d_38 {F : Cf → Res} (ih : ∀ c r, F c = some r → WS l D ad cI A o c r) {len a m pc : Nat} {v : Int} {L st : List AV} {h : Hp} {r : RV} (hc : chk m pc 38 len a v = true) (hr : does F F (sem 38 len a v m pc L st h) = some r) : WS l D ad cI A o (m, pc, L, st, h) r := by
  replace hr : does F F (s_iastore m pc L st h) = some r := hr
  have hd := dc_at (show dc m pc .iastore 1 = true from hc)
  unfold s_iastore at hr
  split at hr
  · rename_i x i p r1
    cases hq : clsO p == 20 with
    | false => rw [hq] at hr; cases hr
    | true =>
      rw [hq] at hr
      replace hr : cond (inb (lenA p) i) (F (m, pc + 1, L, r1, up h p (wr i) x)) none = some r := hr
      cases hb : inb (lenA p) i with
      | false => rw [hb] at hr; cases hr
      | true =>
        rw [hb] at hr
        have hq := beq_iff_eq.mp hq
        have hp := cls_arr hq
        refine ws_heap (ih _ _ hr) fun p0 e R s mm args below meth cd H locs ls cells slots Q hF _ _ _ _ _ hH hW => ?_
        obtain ⟨b1, b2, b3⟩ := in_at hb
        have hg := mk_get ad cI h hp
        rw [ce_arr hq] at hg
        refine va_iast hF.1 hF.2.1 hF.2.2.2.2.2.1 hH.1 (mk_D hF.2.2.2.2.2.2.2.1 h) hH.2.1 p 0 hg rfl b1 hd (fun H1 locs1 hP1 _ hS1 => hW H1 locs1 ⟨?_, hS1, fun q hq2 => ?_⟩)
        · rw [mk_set (h1 := up h p (wr i) x) hp ?_ (fun q hq2 => up_ne hq2)] at hP1
          · exact hP1
          · rw [ce_arr hq]
            congr 3
            congr 1
            funext j
            unfold upd up
            by_cases hj : j = (Int32.ofInt i).toNatClampNeg
            · rw [if_pos hj, if_pos ⟨rfl, by rw [hj]; exact b2⟩]
            · rw [if_neg hj, if_neg (fun z => hj (by omega))]
        · rw [up_ne (by omega)]
          exact hH.2.2 q hq2
  · cases hr
theorem d_39 {F : Cf → Res} (ih : ∀ c r, F c = some r → WS l D ad cI A o c r) {len a m pc : Nat} {v : Int} {L st : List AV} {h : Hp} {r : RV} (hc : chk m pc 39 len a v = true) (hr : does F F (sem 39 len a v m pc L st h) = some r) : WS l D ad cI A o (m, pc, L, st, h) r := by
  replace hr : does F F (s_alen m pc L st h) = some r := hr
  have hd := dc_at (show dc m pc .arraylength 1 = true from hc)
  unfold s_alen at hr
  split at hr
  · rename_i p r1
    cases hq : isArr p with
    | false => rw [hq] at hr; cases hr
    | true =>
      rw [hq] at hr
      refine ws_pure (ih _ _ hr) fun p0 e R s mm args below meth cd H locs ls cells slots Q hF _ _ _ _ _ hH hW => ?_
      unfold isArr at hq
      simp only [Bool.or_eq_true, beq_iff_eq] at hq
      rcases hq with hq | hq
      · have hg := mk_get ad cI h (cls_arr hq)
        rw [ce_arr hq] at hg
        refine va_alen hF.1 hF.2.1 hF.2.2.2.2.2.1 hH.1 p 0 hg rfl (v := Int32.ofInt (lenP h p)) ?_ hd hW
        rw [lenP_eq hq, Int32.ofInt_eq_ofNat]
      · have hp := cls_out hq
        refine va_tlen hF.1 hF.2.1 (hF.2.2.2.2.2.2.1.2.1 p hp.1 hp.2) hH.2.1 (v := Int32.ofInt (lenP h p)) ?_ hd hW
        rw [lenP_out (o := o) hH.2.2 hF.2.2.2.2.2.2.2.2.1, Int32.ofInt_eq_ofNat]
  · cases hr
theorem fl_at {m pc a : Nat} {i : Nat → Instr} (hc : chkG m pc a i = true) {e : Nat × Nat × Nat × Nat × Nat} (he : flL[a]? = some e) : (e.1 == ow m) = true ∧ decode (bb m) pc = .ok (i e.2.1, 3) := by
  unfold chkG at hc
  rw [he] at hc
  simp only [Bool.and_eq_true] at hc
  exact ⟨hc.1, dc_at hc.2⟩
theorem d_40 {F : Cf → Res} (ih : ∀ c r, F c = some r → WS l D ad cI A o c r) {len a m pc : Nat} {v : Int} {L st : List AV} {h : Hp} {r : RV} (hc : chk m pc 40 len a v = true) (hr : does F F (sem 40 len a v m pc L st h) = some r) : WS l D ad cI A o (m, pc, L, st, h) r := by
  replace hr : does F F (s_get a m pc L st h) = some r := hr
  unfold s_get at hr
  split at hr
  · rename_i p r1 e he
    obtain ⟨ho, hd⟩ := fl_at (i := .getfield) hc he
    obtain ⟨⟨hci, hk⟩, hw⟩ := fl_ok e (List.mem_of_getElem? he)
    cases hq : clsO p == e.2.2.1 with
    | false => rw [hq] at hr; cases hr
    | true =>
      rw [hq] at hr
      have hq := beq_iff_eq.mp hq
      have hp := cls_obj (p := p) (by rw [hq]; exact hci)
      have row : ∀ (p0 : Program) (e0 : Env) (R : Room) (s : State) (mm : MethodId) (args : Array Value) (below : List Frame) (meth : Method) (cd : Code) (H : Heap) (locs : List Loc) (ls : Array Slot) (cells slots : Nat) (Q : State → Prop), Fx D ad cI A o p0 s mm args meth cd m → Hd D ad cI A o s h H locs → ∀ v, (fvs ad h p e.2.2.1)[e.2.2.2.1]? = some v → W p0 l e0 R s mm args below meth cd H locs cells slots Q (F0 mm (pc + 3) ls (v :: r1.map (cv ad))) → W p0 l e0 R s mm args below meth cd H locs cells slots Q (F0 mm pc ls (.ref (ad p) :: r1.map (cv ad))) := by
        intro p0 e0 R s mm args below meth cd H locs ls cells slots Q hF hH v hv hW
        have hg := mk_get ad cI h hp
        rw [ce_obj hq hci] at hg
        have hown : s.vm.findClass (cnm e.1) = some mm.cls := by rw [beq_iff_eq.mp ho]; exact hF.2.2.2.1
        exact va_get hF.1 hF.2.1 hF.2.2.2.2.1 (cl_in hci) hown hF.2.2.2.2.2.1 hH.1 p hg (cl_get hci) e.2.2.2.1 hk (hF.2.2.2.2.1 _ (tg_at hw)) (fun _ z => z) hv hd hW
      have hv := fvs_get ad h p (c := e.2.2.1) hk
      cases hf : fo e.2.2.1 e.2.2.2.1 with
      | some off =>
        rw [hf] at hv
        simp only [hf] at hr
        exact ws_pure (ih _ _ hr) fun p0 e0 R s mm args below meth cd H locs ls cells slots Q hF _ _ _ _ _ hH hW => row p0 e0 R s mm args below meth cd H locs ls cells slots Q hF hH _ hv hW
      | none =>
        rw [hf] at hv
        simp only [hf] at hr
        exact ws_pure (ih _ _ hr) fun p0 e0 R s mm args below meth cd H locs ls cells slots Q hF _ _ _ _ _ hH hW => row p0 e0 R s mm args below meth cd H locs ls cells slots Q hF hH _ hv hW
  · cases hr
theorem d_41 {F : Cf → Res} (ih : ∀ c r, F c = some r → WS l D ad cI A o c r) {len a m pc : Nat} {v : Int} {L st : List AV} {h : Hp} {r : RV} (hc : chk m pc 41 len a v = true) (hr : does F F (sem 41 len a v m pc L st h) = some r) : WS l D ad cI A o (m, pc, L, st, h) r := by
  replace hr : does F F (s_put a m pc L st h) = some r := hr
  unfold s_put at hr
  split at hr
  · rename_i x p r1 e he
    obtain ⟨ho, hd⟩ := fl_at (i := .putfield) hc he
    obtain ⟨⟨hci, hk⟩, hw⟩ := fl_ok e (List.mem_of_getElem? he)
    cases hq : (clsO p == e.2.2.1 && (fo e.2.2.1 e.2.2.2.1).isNone && (!(bo e.2.2.1 e.2.2.2.1) || bz x)) with
    | false => rw [hq] at hr; cases hr
    | true =>
      rw [hq] at hr
      simp only [Bool.and_eq_true, Bool.or_eq_true, beq_iff_eq, Option.isNone_iff_eq_none, Bool.not_eq_true'] at hq
      obtain ⟨⟨hq, hf⟩, hb⟩ := hq
      have hp := cls_obj (p := p) (by rw [hq]; exact hci)
      obtain ⟨hfin, hty⟩ := cl_int _ hci _ hk hf
      have hnf : narrow (tyF e.2.2.1 e.2.2.2.1) (.int (Int32.ofInt x)) = .int (Int32.ofInt x) ∧ fits (tyF e.2.2.1 e.2.2.2.1) (.int (Int32.ofInt x)) = true := by
        rcases hty with hty | hty
        · rw [hty]; exact ⟨rfl, rfl⟩
        · rw [hty]
          have hx : x = 0 ∨ x = 1 := by
            rcases hb with hb | hb
            · rw [bo_ok _ hci _ hk, hty] at hb
              simp at hb
            · exact of_decide_eq_true hb
          rcases hx with rfl | rfl <;> decide
      refine ws_heap (ih _ _ hr) fun p0 e0 R s mm args below meth cd H locs ls cells slots Q hF _ _ _ _ _ hH hW => ?_
      have hg := mk_get ad cI h hp
      rw [ce_obj hq hci] at hg
      have hown : s.vm.findClass (cnm e.1) = some mm.cls := by rw [beq_iff_eq.mp ho]; exact hF.2.2.2.1
      refine va_put hF.1 hF.2.1 hF.2.2.2.2.1 (cl_in hci) (tyF e.2.2.1) (cl_ty _ hci) (cl_nm _ hci) hown hF.2.2.2.2.2.1 hH.1 (mk_D hF.2.2.2.2.2.2.2.1 h) hH.2.1 p hg (cl_get hci) e.2.2.2.1 hk (hF.2.2.2.2.1 _ (tg_at hw)) (fun _ z => z) hfin (cl_ty _ hci _ hk) hnf.1 hnf.2 (by simp [fvs]; exact hk) hd (fun H1 locs1 hP1 _ hS1 => hW H1 locs1 ⟨?_, hS1, fun q hq2 => ?_⟩)
      · replace hP1 : va_P D cl ((mk ad cI h).set p (ad p, Sum.inr (e.2.2.1, (fvs ad h p e.2.2.1).set e.2.2.2.1 (Value.int (Int32.ofInt x))))) H1 := hP1
        rw [fvs_set ad h p hk hf x, mk_set (h1 := up h p (e.2.2.2.1 : Nat) x) hp (ce_obj hq hci) (fun q hq2 => up_ne hq2)] at hP1
        exact hP1
      · rw [up_ne (by omega)]
        exact hH.2.2 q hq2
  · cases hr
theorem d_42 {F : Cf → Res} (ih : ∀ c r, F c = some r → WS l D ad cI A o c r) {len a m pc : Nat} {v : Int} {L st : List AV} {h : Hp} {r : RV} (hc : chk m pc 42 len a v = true) (hr : does F F (sem 42 len a v m pc L st h) = some r) : WS l D ad cI A o (m, pc, L, st, h) r := by
  replace hr : does F F (s_gets a m pc L st h) = some r := hr
  replace hc : chkS m pc a = true := hc
  unfold s_gets at hr
  split at hr
  · rename_i e he
    unfold chkS at hc
    rw [he] at hc
    simp only [Bool.and_eq_true] at hc
    obtain ⟨hj, hw⟩ := sl_ok e (List.mem_of_getElem? he)
    refine ws_pure (ih _ _ hr) fun p0 e0 R s mm args below meth cd H locs ls cells slots Q hF _ _ _ _ _ hH hW => ?_
    have hown : s.vm.findClass (cnm e.1) = some mm.cls := by rw [beq_iff_eq.mp hc.1]; exact hF.2.2.2.1
    exact va_gets hF.1 hF.2.1 (hF.2.2.2.2.2.2.1.1 e.2.2.1 hj) hH.2.1 hown (hF.2.2.2.2.1 _ (tg_at hw)) (fun _ z => z) (dc_at hc.2) hW
  · cases hr
theorem cp_fit (ad : Nat → Nat) (st : List AV) (n : Nat) (h : decide (catS st ≤ 8) = true) : ((st.map (cv ad)).map fun v => v.category).sum ≤ 8 := by
  rw [cv_cats]; exact of_decide_eq_true h
theorem d_45 {F : Cf → Res} (ih : ∀ c r, F c = some r → WS l D ad cI A o c r) {len a m pc : Nat} {v : Int} {L st : List AV} {h : Hp} {r : RV} (hc : chk m pc 45 len a v = true) (hr : does F F (sem 45 len a v m pc L st h) = some r) : WS l D ad cI A o (m, pc, L, st, h) r := by
  replace hr : does F F (s_copy m pc L st h) = some r := hr
  replace hc : chkP m pc a = true := hc
  unfold chkP at hc
  split at hc
  · rename_i e he
    simp only [Bool.and_eq_true, decide_eq_true_eq] at hc
    obtain ⟨⟨⟨ho, hd⟩, hf1⟩, hl26⟩ := hc
    have hw := cp_ok e (List.mem_of_getElem? he)
    unfold s_copy at hr
    split at hr
    · rename_i n dp q sp p r1
      cases hg : (clsO p == 20 && clsO q == 20 && decide (catS r1 ≤ 8)) with
      | false => rw [hg] at hr; cases hr
      | true =>
        rw [hg] at hr
        replace hr : cond (cpB (lenA p) (lenA q) sp dp n) (F (m, pc + 3, L, r1, cpy h p q (wr sp) (wr dp) (wr n))) none = some r := hr
        cases hb : cpB (lenA p) (lenA q) sp dp n with
        | false => rw [hb] at hr; cases hr
        | true =>
          rw [hb] at hr
          simp only [Bool.and_eq_true, beq_iff_eq, decide_eq_true_eq] at hg
          obtain ⟨⟨hcp, hcq⟩, hcat⟩ := hg
          have hb := of_decide_eq_true hb
          obtain ⟨b1, b2, b3, b4, b5⟩ := hb
          have hn : ∀ z : Int, 0 ≤ wr z → ¬ Int32.ofInt z < 0 ∧ ((Int32.ofInt z).toNatClampNeg : Int) = wr z := by
            intro z hz
            refine ⟨fun y => ?_, ?_⟩
            · rw [show (0 : Int32) = Int32.ofInt 0 from rfl, wr_lt, wr_0] at y
              omega
            · rw [Int32.toNatClampNeg, wr_eq]; omega
          obtain ⟨c1, c2⟩ := hn sp b1
          obtain ⟨c3, c4⟩ := hn dp b2
          obtain ⟨c5, c6⟩ := hn n b3
          refine ws_heap (ih _ _ hr) fun p0 e0 R s mm args below meth cd H locs ls cells slots Q hF h1 h2 _ _ hl hH hW => ?_
          have hown : s.vm.findClass (cnm e.1) = some mm.cls := by rw [beq_iff_eq.mp ho]; exact hF.2.2.2.1
          have hgp := mk_get ad cI h (cls_arr hcp)
          rw [ce_arr hcp] at hgp
          have hgq := mk_get ad cI h (cls_arr hcq)
          rw [ce_arr hcq] at hgq
          have hts := hF.2.2.2.2.1
          refine va_copyi hF.1 hF.2.1 (by rw [hF.2.2.1, hl.1]) hown (hts _ (tg_at ⟨hw, rfl⟩)) (hts _ (tg_at ⟨cp_w.1, rfl⟩)) (hts _ (tg_at ⟨cp_w.2.1, rfl⟩)) (hts _ (tg_at ⟨cp_w.2.2, rfl⟩)) hF.2.2.2.2.2.1 hH.1 (mk_D hF.2.2.2.2.2.2.2.1 h) hH.2.1 p q 0 0 hgp hgq rfl rfl rfl c1 c3 c5 (by omega) (by omega) (fun _ _ => rfl) (by omega) ?_ (dc_at hd) (fun H1 locs1 hP1 _ hS1 => hW H1 locs1 ⟨?_, hS1, fun z hz => ?_⟩)
          · rw [cv_cats]
            have : nativeFrameWords "java/lang/System" "arraycopy" 5 = 7 := by decide +kernel
            rw [this]
            omega
          · rw [mk_set (h1 := cpy h p q (wr sp) (wr dp) (wr n)) (cls_arr hcq) ?_ (fun z hz => by funext i; unfold cpy; rw [if_neg (fun y => hz y.1)])] at hP1
            · exact hP1
            · rw [ce_arr hcq]
              congr 3
              congr 1
              funext j
              unfold va_cpy cpy
              by_cases hj : (Int32.ofInt dp).toNatClampNeg ≤ j ∧ j < (Int32.ofInt dp).toNatClampNeg + (Int32.ofInt n).toNatClampNeg
              · rw [if_pos hj, if_pos ⟨rfl, by omega, by omega⟩]
                congr 2
                omega
              · rw [if_neg hj, if_neg (fun z => hj ⟨by omega, by omega⟩)]
          · have : z ≠ q := by have := cls_arr hcq; omega
            show cpy h p q (wr sp) (wr dp) (wr n) z = o z
            rw [show cpy h p q (wr sp) (wr dp) (wr n) z = h z by funext i; unfold cpy; rw [if_neg (fun y => this y.1)]]
            exact hH.2.2 z hz
    · cases hr
  · cases hc
theorem mk_at {m pc a k : Nat} (hc : chkM m pc a k = true) : ∃ e : Nat × Nat × Nat × Nat, e.2.2.1 = k ∧ e.1 = ow m ∧ decode (bb m) pc = .ok (.invokestatic e.2.1, 3) ∧ 1 ≤ rf m ∧ 21 ≤ rl m ∧ lw_tbl[e.2.2.2]? = some (.methodLink (cnm e.1) e.2.1 (mkN e.2.2.1)) := by
  unfold chkM at hc
  split at hc
  · rename_i e he
    simp only [Bool.and_eq_true, decide_eq_true_eq, beq_iff_eq] at hc
    exact ⟨e, hc.1.1.1.1, hc.1.1.1.2, dc_at hc.1.1.2, hc.1.2, hc.2, mk_ok e (List.mem_of_getElem? he)⟩
  · cases hc
theorem d_48 {F : Cf → Res} (ih : ∀ c r, F c = some r → WS l D ad cI A o c r) {len a m pc : Nat} {v : Int} {L st : List AV} {h : Hp} {r : RV} (hc : chk m pc 48 len a v = true) (hr : does F F (sem 48 len a v m pc L st h) = some r) : WS l D ad cI A o (m, pc, L, st, h) r := by
  replace hr : does F F (s_m2 jmax m pc L st h) = some r := hr
  obtain ⟨e, e1, e2, e3, e4, e5, e6⟩ := mk_at (show chkM m pc a 48 = true from hc)
  unfold s_m2 at hr
  split at hr
  · rename_i y x r1
    cases hg : decide (catS r1 ≤ 8) with
    | false => rw [hg] at hr; cases hr
    | true =>
      rw [hg] at hr
      have hg := of_decide_eq_true hg
      refine ws_pure (ih _ _ hr) fun p0 e0 R s mm args below meth cd H locs ls cells slots Q hF h1 h2 h3 h4 hl hH hW => ?_
      have hts := hF.2.2.2.2.1
      have hown : s.vm.findClass (cnm e.1) = some mm.cls := by rw [e2]; exact hF.2.2.2.1
      rw [e1] at e6
      refine va_mmax hF.1 hF.2.1 (by rw [hF.2.2.1, hl.1]) hown (hts _ (tg_at ⟨e6, rfl⟩)) (hts _ (tg_at ⟨mw_max.1, rfl⟩)) (hts _ (tg_at ⟨mw_max.2, rfl⟩)) (hts _ (tg_at ⟨mc_max, rfl⟩)) (by omega) (by rw [cv_cats]; omega) h3 h4 e3 ?_
      have : (if Int32.ofInt x < Int32.ofInt y then Int32.ofInt y else Int32.ofInt x) = Int32.ofInt (jmax x y) := by
        unfold jmax
        by_cases z : wr x < wr y
        · rw [if_pos z, if_pos ((wr_lt x y).mpr z)]
        · rw [if_neg z, if_neg (fun q => z ((wr_lt x y).mp q))]
      rw [this]
      exact hW
  · cases hr
theorem d_49 {F : Cf → Res} (ih : ∀ c r, F c = some r → WS l D ad cI A o c r) {len a m pc : Nat} {v : Int} {L st : List AV} {h : Hp} {r : RV} (hc : chk m pc 49 len a v = true) (hr : does F F (sem 49 len a v m pc L st h) = some r) : WS l D ad cI A o (m, pc, L, st, h) r := by
  replace hr : does F F (s_m2 jmin m pc L st h) = some r := hr
  obtain ⟨e, e1, e2, e3, e4, e5, e6⟩ := mk_at (show chkM m pc a 49 = true from hc)
  unfold s_m2 at hr
  split at hr
  · rename_i y x r1
    cases hg : decide (catS r1 ≤ 8) with
    | false => rw [hg] at hr; cases hr
    | true =>
      rw [hg] at hr
      have hg := of_decide_eq_true hg
      refine ws_pure (ih _ _ hr) fun p0 e0 R s mm args below meth cd H locs ls cells slots Q hF h1 h2 h3 h4 hl hH hW => ?_
      have hts := hF.2.2.2.2.1
      have hown : s.vm.findClass (cnm e.1) = some mm.cls := by rw [e2]; exact hF.2.2.2.1
      rw [e1] at e6
      refine va_mmin hF.1 hF.2.1 (by rw [hF.2.2.1, hl.1]) hown (hts _ (tg_at ⟨e6, rfl⟩)) (hts _ (tg_at ⟨mw_min.1, rfl⟩)) (hts _ (tg_at ⟨mw_min.2, rfl⟩)) (hts _ (tg_at ⟨mc_min, rfl⟩)) (by omega) (by rw [cv_cats]; omega) h3 h4 e3 ?_
      have : (if Int32.ofInt y < Int32.ofInt x then Int32.ofInt y else Int32.ofInt x) = Int32.ofInt (jmin x y) := by
        unfold jmin
        by_cases z : wr y < wr x
        · rw [if_pos z, if_pos ((wr_lt y x).mpr z)]
        · rw [if_neg z, if_neg (fun q => z ((wr_lt y x).mp q))]
      rw [this]
      exact hW
  · cases hr
theorem d_50 {F : Cf → Res} (ih : ∀ c r, F c = some r → WS l D ad cI A o c r) {len a m pc : Nat} {v : Int} {L st : List AV} {h : Hp} {r : RV} (hc : chk m pc 50 len a v = true) (hr : does F F (sem 50 len a v m pc L st h) = some r) : WS l D ad cI A o (m, pc, L, st, h) r := by
  replace hr : does F F (s_m1 jabs m pc L st h) = some r := hr
  obtain ⟨e, e1, e2, e3, e4, e5, e6⟩ := mk_at (show chkM m pc a 50 = true from hc)
  unfold s_m1 at hr
  split at hr
  · rename_i x r1
    cases hg : decide (catS r1 ≤ 8) with
    | false => rw [hg] at hr; cases hr
    | true =>
      rw [hg] at hr
      have hg := of_decide_eq_true hg
      refine ws_pure (ih _ _ hr) fun p0 e0 R s mm args below meth cd H locs ls cells slots Q hF h1 h2 h3 h4 hl hH hW => ?_
      have hts := hF.2.2.2.2.1
      have hown : s.vm.findClass (cnm e.1) = some mm.cls := by rw [e2]; exact hF.2.2.2.1
      rw [e1] at e6
      refine va_mabs hF.1 hF.2.1 (by rw [hF.2.2.1, hl.1]) hown (hts _ (tg_at ⟨e6, rfl⟩)) (hts _ (tg_at ⟨mw_abs.1, rfl⟩)) (hts _ (tg_at ⟨mw_abs.2, rfl⟩)) (hts _ (tg_at ⟨mc_abs, rfl⟩)) (by omega) (by rw [cv_cats]; omega) h3 h4 e3 ?_
      have : (if 0 ≤ Int32.ofInt x then Int32.ofInt x else 0 - Int32.ofInt x) = Int32.ofInt (jabs x) := by
        unfold jabs
        have h0 : (0 : Int32) ≤ Int32.ofInt x ↔ 0 ≤ wr x := by
          rw [show (0 : Int32) = Int32.ofInt 0 from rfl, wr_le, wr_0]
        by_cases z : 0 ≤ wr x
        · rw [if_pos z, if_pos (h0.mpr z)]
        · rw [if_neg z, if_neg (fun q => z (h0.mp q)), Int32.ofInt_sub]
          rfl
      rw [this]
      exact hW
  · cases hr
theorem d_46 {F : Cf → Res} (ih : ∀ c r, F c = some r → WS l D ad cI A o c r) {len a m pc : Nat} {v : Int} {L st : List AV} {h : Hp} {r : RV} (hc : chk m pc 46 len a v = true) (hr : does F F (sem 46 len a v m pc L st h) = some r) : WS l D ad cI A o (m, pc, L, st, h) r := by
  replace hr : does F F (s_iret m st h) = some r := hr
  replace hc : (dc m pc .ireturn 1 && decide (rt m = some .int ∨ rt m = some .boolean)) = true := hc
  simp only [Bool.and_eq_true, decide_eq_true_eq] at hc
  unfold s_iret at hr
  split at hr
  · rename_i x
    replace hr : cond (match rt m with
      | some .boolean => bz x
      | _ => true) (some (some x, h)) none = some r := hr
    have key : r = (some x, h) ∧ (rt m = some .int ∨ (rt m = some .boolean ∧ bz x = true)) := by
      rcases hc.2 with ht | ht
      · rw [ht] at hr
        exact ⟨(Option.some.inj hr).symm, Or.inl ht⟩
      · rw [ht] at hr
        replace hr : cond (bz x) (some (some x, h)) none = some r := hr
        cases hb : bz x with
        | false => rw [hb] at hr; cases hr
        | true =>
          rw [hb] at hr
          exact ⟨(Option.some.inj hr).symm, Or.inr ⟨ht, rfl⟩⟩
    obtain ⟨rfl, key⟩ := key
    intro p e R s mm args below meth cd H locs ls cells slots Q hF h1 h2 h3 h4 hl hH hE
    exact hE H locs pc ls hH (fun q => by cases q) (fun y hy => by cases hy; exact ⟨dc_at hc.1, key⟩)
  · cases hr
theorem d_47 {F : Cf → Res} (ih : ∀ c r, F c = some r → WS l D ad cI A o c r) {len a m pc : Nat} {v : Int} {L st : List AV} {h : Hp} {r : RV} (hc : chk m pc 47 len a v = true) (hr : does F F (sem 47 len a v m pc L st h) = some r) : WS l D ad cI A o (m, pc, L, st, h) r := by
  replace hr : does F F (s_ret st h) = some r := hr
  replace hc : (dc m pc .return_ 1 && decide (rt m = none)) = true := hc
  simp only [Bool.and_eq_true, decide_eq_true_eq] at hc
  unfold s_ret at hr
  split at hr
  · replace hr : some ((none, h) : RV) = some r := hr
    cases hr
    intro p e R s mm args below meth cd H locs ls cells slots Q hF h1 h2 h3 h4 hl hH hE
    exact hE H locs pc ls hH (fun _ => ⟨hc.2, dc_at hc.1⟩) (fun y hy => by cases hy)
  · cases hr
end SND2
