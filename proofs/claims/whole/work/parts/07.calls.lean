/-! SOUNDNESS, calls; the whole -/
section SND3
variable {l : Launch} {D : va_G} {ad : Nat → Nat} {cI : ClassId} {A : Nat → Prop} {o : Hp}
def WI (D : va_G) (ad : Nat → Nat) (cI : ClassId) (A : Nat → Prop) (o : Hp) (h : Hp) (U : State) : Prop := va_P D cl (mk ad cI h) U.heap ∧ va_K D cl [(cI, .int)] U ∧ Out ad A o U ∧ (∀ p, 98 ≤ p → h p = o p) ∧ Apart ad A ∧ (0 ≤ o 103 0 ∧ o 103 0 < 2147483648)
def Qr (D : va_G) (ad : Nat → Nat) (cI : ClassId) (A : Nat → Prop) (o : Hp) (q : RV) : Array Value → State → Outcome → State → Prop := match q with
  | (none, h1) => va_Qv (fun _ : Unit => ∀ p, 98 ≤ p → h1 p = o p) (fun _ t => va_P D cl (mk ad cI h1) t.heap) A
  | (some x, h1) => va_Qi (fun (y : Int32) (_ : Unit) => y = Int32.ofInt x ∧ ∀ p, 98 ≤ p → h1 p = o p) (fun _ t => va_P D cl (mk ad cI h1) t.heap) A
def wsm (y : Nat) : List Cond := Cond.code (yy y) (bb y) (nl y) (rt y) :: tg
def rmm (y : Nat) : Room := { frames := rf y, cells := 0, slots := 0, locals := rl y }
theorem ex_len (ad : Nat → Nat) : ∀ as : List AV, (lg_sl (as.map (cv ad))).length = (ex as).length
  | [] => rfl
  | v :: as => by
    have ih := ex_len ad as
    unfold lg_sl at ih ⊢
    rw [List.map_cons, List.flatMap_cons, List.length_append, ih]
    rcases v with x | p | x | u
    · show 1 + _ = (aI x :: ex as).length
      rw [List.length_cons]; omega
    · show 1 + _ = (aR p :: ex as).length
      rw [List.length_cons]; omega
    · show 2 + _ = (aL x :: aN :: ex as).length
      rw [List.length_cons, List.length_cons]; omega
    · show 1 + _ = (aN :: ex as).length
      rw [List.length_cons]; omega
theorem ex_args (ad : Nat → Nat) : ∀ (as : List AV) (k i : Nat) (v : AV), (ex as)[i]? = some v → nn v = true → (k + i, cv ad v) ∈ lv_args k (as.map (cv ad))
  | [], k, i, v, h, _ => by simp [ex] at h
  | w :: as, k, i, v, h, hn => by
    rcases w with x | p | x | u
    · have h : (aI x :: ex as)[i]? = some v := h
      show (k + i, cv ad v) ∈ (k, Value.int (Int32.ofInt x)) :: lv_args (k + 1) (as.map (cv ad))
      cases i with
      | zero => cases h; exact List.mem_cons_self
      | succ i =>
        have := ex_args ad as (k + 1) i v (by simpa using h) hn
        rw [show k + 1 + i = k + (i + 1) by omega] at this
        exact List.mem_cons_of_mem _ this
    · have h : (aR p :: ex as)[i]? = some v := h
      show (k + i, cv ad v) ∈ (k, Value.ref (ad p)) :: lv_args (k + 1) (as.map (cv ad))
      cases i with
      | zero => cases h; exact List.mem_cons_self
      | succ i =>
        have := ex_args ad as (k + 1) i v (by simpa using h) hn
        rw [show k + 1 + i = k + (i + 1) by omega] at this
        exact List.mem_cons_of_mem _ this
    · have h : (aL x :: aN :: ex as)[i]? = some v := h
      show (k + i, cv ad v) ∈ (k, Value.long (Int64.ofInt x)) :: lv_args (k + 2) (as.map (cv ad))
      cases i with
      | zero => cases h; exact List.mem_cons_self
      | succ i =>
        cases i with
        | zero => simp at h; subst h; cases hn
        | succ i =>
          have := ex_args ad as (k + 2) i v (by simpa using h) hn
          rw [show k + 2 + i = k + (i + 1 + 1) by omega] at this
          exact List.mem_cons_of_mem _ this
    · have h : (aN :: ex as)[i]? = some v := h
      show (k + i, cv ad v) ∈ (k, Value.null) :: lv_args (k + 1) (as.map (cv ad))
      cases i with
      | zero => simp at h; subst h; cases hn
      | succ i =>
        have := ex_args ad as (k + 1) i v (by simpa using h) hn
        rw [show k + 1 + i = k + (i + 1) by omega] at this
        exact List.mem_cons_of_mem _ this
theorem ent_lvH (ad : Nat → Nat) {y : Nat} {as : List AV} (hlen : (ex as).length ≤ nl y) : lvH ad ((lg_sl (as.map (cv ad)) ++ List.replicate (nl y - (lg_sl (as.map (cv ad))).length) Slot.unset).toArray) (nl y) (ent y as) := by
  have hl := lv_entry (as.map (cv ad)) (n := nl y) (by rw [ex_len]; exact hlen)
  refine ⟨hl.1, hl.2.1, by unfold ent; rw [List.length_append, List.length_replicate]; omega, fun i v hi hv => ?_⟩
  unfold ent at hi
  by_cases h : i < (ex as).length
  · rw [List.getElem?_append_left h] at hi
    refine hl.2.2 (i, cv ad v) ?_
    have := ex_args ad as 0 i v hi hv
    rw [Nat.zero_add] at this
    exact this
  · rw [List.getElem?_append_right (by omega)] at hi
    have := List.eq_of_mem_replicate (List.mem_of_getElem? hi)
    subst this
    cases hv
theorem wi_blind (as : List Value) (h : Hp) : FrameBlind (va_Pc as (WI D ad cI A o h)) := by
  intro a U g mk q
  obtain ⟨q0, q1, q2, q3, q4⟩ := q
  refine ⟨q0, q1, va_K.moved (u := U) (U := U.calling g mk a) (Vm.Alike.refl U.vm) q2, ⟨fun j hj => ?_, fun p h1 h2 => ?_, fun e he => ?_⟩, q4⟩
  · exact va_Z.moved (u := U) (U := U.calling g mk a) (Vm.Alike.refl U.vm) (q3.1 j hj)
  · exact va_T.moved (u := U) (U := U.calling g mk a) (Vm.Alike.refl U.vm) (q3.2.1 p h1 h2)
  · exact va_Nw.same (u := U) (U := U.calling g mk a) rfl rfl (q3.2.2 e he)
theorem wi_at {s : State} {h : Hp} {H : Heap} {locs : List Loc} (hK : va_K D cl [(cI, .int)] s) (hO : Out ad A o s) (hap : Apart ad A) (h0 : 0 ≤ o 103 0 ∧ o 103 0 < 2147483648) (hH : Hd D ad cI A o s h H locs) (as : List Value) : ∀ U : State, U.heap = H → s.WarmedH U.vm → va_Pc as (WI D ad cI A o h) as.toArray U := by
  intro U hU hW
  refine ⟨rfl, by rw [hU]; exact hH.1, va_K.moved hW.alike hK, ⟨fun j hj => ?_, fun p h1 h2 => ?_, fun e he => va_Nw.warmM hW (hO.2.2 e he)⟩, hH.2.2, hap, h0⟩
  · rw [hU]
    exact va_Z.kept (va_Z.moved hW.alike (hO.1 j hj)) hH.2.1.2.1
  · rw [hU]
    exact va_T.kept (va_T.moved hW.alike (hO.2.1 p h1 h2)) hH.2.1.2.1
theorem met_of {y : Nat} (hy : y < NM) {as : List AV} (hlen : (ex as).length ≤ nl y) {h : Hp} {q : RV} (hw : WS l D ad cI A o (y, 0, ent y as, [], h) q) : Met l (yy y) (wsm y) (rmm y) (va_Pc (as.map (cv ad)) (WI D ad cI A o h)) (Qr D ad cI A o q) 0 0 A := by
  refine Met.ofW (cc := bb y) (maxL := nl y) (ret := rt y) (mt_ok y hy).1 rfl ?_
  intro p e s m args below meth c s₁ B hml hv
  obtain ⟨rfl, hP, hK, hO, hst, hap, h0⟩ := hv
  have hx := B.exec
  have hb := B.bytes
  have hr := B.returns
  have hts := atoms_spec (ws := wsm y) B.pre
  have hown : s.vm.findClass (cnm (ow y)) = some m.cls := by
    rw [← (mt_ok y hy).2.1]; exact findClass_of_methodNamed B.named
  have hlocks := B.notSynchronized
  rw [lg_entry_eq]
  refine hw p e (rmm y) s m _ below meth c s.heap [] _ 0 0 _ ⟨hx, hb, hml, hown, fun w h => hts w (List.mem_cons_of_mem _ h), hK, hO, hap, h0⟩ (Nat.le_refl _) (Nat.le_refl _) (Nat.le_refl _) (Nat.le_refl _) (ent_lvH ad hlen) ⟨hP, va_S.rf, hst⟩ ?_
  intro H1 locs1 pc1 ls1 hH hn hs
  obtain ⟨q1, h1⟩ := q
  cases q1 with
  | none =>
    obtain ⟨ht, hd⟩ := hn rfl
    exact W.vret hx hb (by rw [hr, ht]) (fun t ht hW => ⟨⟨(), rfl, hH.2.2, by show va_P D cl (mk ad cI h1) t.heap; rw [ht]; exact hH.1⟩, hH.2.1.F ht⟩) hH.2.1.2.2 hd
  | some x =>
    obtain ⟨hd, ht⟩ := hs x rfl
    have fin : ∀ t : State, t.heap = H1 → s.WarmedH t.vm → Qr D ad cI A o (some x, h1) (as.map (cv ad)).toArray s (.returned (some (.int (Int32.ofInt x)))) t := fun t ht hW => ⟨⟨_, (), rfl, ⟨rfl, hH.2.2⟩, by show va_P D cl (mk ad cI h1) t.heap; rw [ht]; exact hH.1⟩, hH.2.1.F ht⟩
    rcases ht with ht | ⟨ht, hz⟩
    · exact W.zret hx hb (by rw [hr, ht]) rfl fin hH.2.1.2.2 hd
    · refine W.zret hx hb (by rw [hr, ht]) ?_ fin hH.2.1.2.2 hd
      rcases of_decide_eq_true hz with rfl | rfl <;> decide
theorem after_call {p : Program} {e : Env} {R : Room} {s : State} {mm : MethodId} {args : Array Value} {below : List Frame} {meth : Method} {cd : Code} {H : Heap} {locs : List Loc} {ls : Array Slot} {cells slots pc : Nat} {Q : State → Prop} {st0 rest : List Value} {a : Array Value} {h : Hp} {q : RV} (hrun : va_Run p l e R s mm args below meth cd H locs cells slots 0 0 (F0 mm pc ls st0) rest (Qr D ad cI A o q a) A) (hH : Hd D ad cI A o s h H locs) (kk : ∀ (H1 : Heap) (locs1 : List Loc), Hd D ad cI A o s q.2 H1 locs1 → W p l e R s mm args below meth cd H1 locs1 cells slots Q (F0 mm (pc + 3) ls (rv q ++ rest))) : W p l e R s mm args below meth cd H locs cells slots Q (F0 mm pc ls st0) := by
  obtain ⟨q1, h1⟩ := q
  cases q1 with
  | none =>
    refine va_callv (a := a) (A0 := A) (A1 := A) hrun hH.2.1 (fun _ _ z => z) (fun _ z => z) (fun u t H1 locs1 ht hvm hp hB hz hk hS => ?_)
    exact kk H1 locs1 ⟨by rw [← ht]; exact hB, hS, hp⟩
  | some x =>
    refine va_calli (a := a) (A0 := A) (A1 := A) hrun hH.2.1 (fun _ _ z => z) (fun _ z => z) (fun r u t H1 locs1 ht hvm hp hB hz hk hS => ?_)
    obtain ⟨rfl, hp⟩ := hp
    exact kk H1 locs1 ⟨by rw [← ht]; exact hB, hS, hp⟩
theorem ws_call {F : Cf → Res} (ih : ∀ c r, F c = some r → WS l D ad cI A o c r) {y m pc : Nat} {L rest as st : List AV} {h : Hp} {r : RV} (hy : y < NM) (hr : does F F (s_call y m pc L rest as h) = some r)
    (run : ∀ (p : Program) (e : Env) (R : Room) (s : State) (mm : MethodId) (args : Array Value) (below : List Frame) (meth : Method) (cd : Code) (H : Heap) (locs : List Loc) (ls : Array Slot) (cells slots : Nat), Fx D ad cI A o p s mm args meth cd m → rf m ≤ R.frames → rl m ≤ R.locals → cells ≤ R.cells → slots ≤ R.slots → lvH ad ls (nl m) L → Hd D ad cI A o s h H locs → catS rest ≤ 8 → ∀ q : RV, Met l (yy y) (wsm y) (rmm y) (va_Pc (as.map (cv ad)) (WI D ad cI A o h)) (Qr D ad cI A o q) 0 0 A → va_Run p l e R s mm args below meth cd H locs cells slots 0 0 (F0 mm pc ls (st.map (cv ad))) (rest.map (cv ad)) (Qr D ad cI A o q (as.map (cv ad)).toArray) A) : WS l D ad cI A o (m, pc, L, st, h) r := by
  unfold s_call at hr
  cases hg : (decide (catS rest ≤ 8) && decide ((ex as).length ≤ nl y)) with
  | false => rw [hg] at hr; cases hr
  | true =>
    rw [hg] at hr
    simp only [Bool.and_eq_true, decide_eq_true_eq] at hg
    obtain ⟨hcat, hlen⟩ := hg
    have key : ∃ q : RV, F (y, 0, ent y as, [], h) = some q ∧ F (m, pc + 3, L, q.1.toList.map aI ++ rest, q.2) = some r := by
      cases ht : rt y with
      | none =>
        rw [ht] at hr
        replace hr : bV (F (y, 0, ent y as, [], h)) (fun h1 => F (m, pc + 3, L, rest, h1)) = some r := hr
        cases hq : F (y, 0, ent y as, [], h) with
        | none => rw [hq] at hr; cases hr
        | some q =>
          rw [hq] at hr
          obtain ⟨q1, h1⟩ := q
          cases q1 with
          | none => exact ⟨_, rfl, hr⟩
          | some x => cases hr
      | some ty =>
        rw [ht] at hr
        replace hr : bI (F (y, 0, ent y as, [], h)) (fun x h1 => F (m, pc + 3, L, aI x :: rest, h1)) = some r := hr
        cases hq : F (y, 0, ent y as, [], h) with
        | none => rw [hq] at hr; cases hr
        | some q =>
          rw [hq] at hr
          obtain ⟨q1, h1⟩ := q
          cases q1 with
          | none => cases hr
          | some x => exact ⟨_, rfl, hr⟩
    obtain ⟨q, hq, hr⟩ := key
    intro p e R s mm args below meth cd H locs ls cells slots Q hF h1 h2 h3 h4 hl hH hE
    refine after_call (run p e R s mm args below meth cd H locs ls cells slots hF h1 h2 h3 h4 hl hH hcat q (met_of hy hlen (ih _ _ hq))) hH (fun H1 locs1 hH1 => ?_)
    have hW := ih _ _ hr p e R s mm args below meth cd H1 locs1 ls cells slots Q hF h1 h2 h3 h4 hl hH1 hE
    have : (q.1.toList.map aI ++ rest).map (cv ad) = rv q ++ rest.map (cv ad) := by
      obtain ⟨q1, hq2⟩ := q
      cases q1 <;> rfl
    rw [← this]
    exact hW
theorem wsm_good {y : Nat} (hy : y < NM) : GoodIn tg (wsm y) := by
  intro w hw
  rcases List.mem_cons.mp hw with rfl | hw
  · exact ⟨tg_of (cw_all y hy) rfl, good_of_word rfl⟩
  · exact tg_good w hw
theorem kl_at {m pc a : Nat} {i : Nat → Instr} (hc : chkV m pc a i = true) {e : Nat × Nat × Nat × Nat × Nat × Nat × Nat × Nat × Nat} (he : klL[a]? = some e) : e.1 = ow m ∧ decode (bb m) pc = .ok (i e.2.1, 3) ∧ rf e.2.2.1 + 1 ≤ rf m ∧ 8 + (nl e.2.2.1 + 11) + rl e.2.2.1 ≤ rl m := by
  unfold chkV at hc
  rw [he] at hc
  simp only [Bool.and_eq_true, decide_eq_true_eq, beq_iff_eq] at hc
  exact ⟨hc.1.1.1, dc_at hc.1.1.2, hc.1.2, hc.2⟩
theorem d_43 {F : Cf → Res} (ih : ∀ c r, F c = some r → WS l D ad cI A o c r) {len a m pc : Nat} {v : Int} {L st : List AV} {h : Hp} {r : RV} (hc : chk m pc 43 len a v = true) (hr : does F F (sem 43 len a v m pc L st h) = some r) : WS l D ad cI A o (m, pc, L, st, h) r := by
  replace hr : does F F (s_inv a m pc L st h) = some r := hr
  unfold s_inv at hr
  split at hr
  · rename_i e he
    obtain ⟨ho, hd, hrf, hrl⟩ := kl_at (i := .invokestatic) hc he
    obtain ⟨hy, hk3, -, hws⟩ := kl_ok e (List.mem_of_getElem? he)
    cases hg : (!(e.2.2.2.1 == 1) && decide (np e.2.2.1 ≤ st.length)) with
    | false => rw [hg] at hr; cases hr
    | true =>
      rw [hg] at hr
      simp only [Bool.and_eq_true, decide_eq_true_eq, Bool.not_eq_true', beq_eq_false_iff_ne] at hg
      refine ws_call ih hy hr ?_
      intro p e0 R s mm args below meth cd H locs ls cells slots hF h1 h2 h3 h4 hl hH hcat q hM
      have hown : s.vm.findClass (cnm e.1) = some mm.cls := by rw [ho]; exact hF.2.2.2.1
      have hts := hF.2.2.2.2.1
      have S : CallFix p mm cd (bb m) (nl m) s args tg (cnm e.1) := ⟨hF.1, hF.2.1, hF.2.2.1, hown, hts⟩
      have hmt := mt_ok e.2.2.1 hy
      have hR : (rmm e.2.2.1).frames + 1 ≤ R.frames ∧ 8 + (nl e.2.2.1 + 11) + (rmm e.2.2.1).locals ≤ R.locals := ⟨by show rf e.2.2.1 + 1 ≤ _; omega, by show 8 + (nl e.2.2.1 + 11) + rl e.2.2.1 ≤ _; omega⟩
      have hpre : PreS s H (va_Pc (((st.take (np e.2.2.1)).reverse).map (cv ad)) (WI D ad cI A o h)) (((st.take (np e.2.2.1)).reverse).map (cv ad)) := ⟨wi_blind _ h, wi_at hF.2.2.2.2.2.1 hF.2.2.2.2.2.2.1 hF.2.2.2.2.2.2.2.1 hF.2.2.2.2.2.2.2.2 hH _⟩
      have hstack : (F0 mm pc ls (st.map (cv ad))).stack = (((st.take (np e.2.2.1)).reverse).map (cv ad)).reverse ++ (st.drop (np e.2.2.1)).map (cv ad) := by
        show st.map (cv ad) = _
        rw [List.map_reverse, List.reverse_reverse, ← List.map_append, List.take_append_drop]
      have hnum : (((st.take (np e.2.2.1)).reverse).map (cv ad)).length = np e.2.2.1 := by
        simp; omega
      have hroom : 2 * (F0 mm pc ls (st.map (cv ad))).monitorRoom + (((st.drop (np e.2.2.1)).map (cv ad)).map fun v => v.category).sum ≤ 8 := lv_room (by rw [cv_cats]; exact hcat)
      have hkind : e.2.2.2.1 = 0 ∨ e.2.2.2.1 = 2 := by omega
      rcases hkind with hk | hk
      · have hq : klq e = kl0 e := by unfold klq; rw [hk]; rfl
        rw [hq] at hws
        have w1 := hws _ (show _ ∈ kl0 e from List.mem_cons_self)
        have w2 := hws _ (show _ ∈ kl0 e from List.mem_cons_of_mem _ List.mem_cons_self)
        have w3 := hws _ (show _ ∈ kl0 e from List.mem_cons_of_mem _ (List.mem_cons_of_mem _ List.mem_cons_self))
        have hT : GoodIn tg (va_wsS (cnm e.1) e.2.1 (yy e.2.2.1) (wsm e.2.2.1)) := by
          intro w hw
          rcases List.mem_append.mp hw with hw | hw
          · rcases List.mem_cons.mp hw with rfl | hw
            · exact ⟨tg_at w1, good_of_word w1.2⟩
            rcases List.mem_cons.mp hw with rfl | hw
            · exact ⟨tg_at w2, good_of_word w2.2⟩
            rcases List.mem_cons.mp hw with rfl | hw
            · exact ⟨tg_at w3, good_of_word w3.2⟩
            · cases hw
          · exact wsm_good hy w hw
        exact va_runS S hM (va_cwS (np e.2.2.1) hts hT rfl rfl rfl ⟨hmt.2.2.1, hmt.2.2.2.1, hmt.2.2.2.2.1⟩ hR) hpre rfl hnum hl.1 hstack hroom hd ⟨h3, h4⟩
      · have hq : klq e = kl2 e := by unfold klq; rw [hk]; rfl
        rw [hq] at hws
        have w2 := hws _ (show _ ∈ kl2 e from List.mem_cons_self)
        have w3 := hws _ (show _ ∈ kl2 e from List.mem_cons_of_mem _ List.mem_cons_self)
        obtain ⟨z, hz, z1, z2, z3⟩ := kl_nest e (List.mem_of_getElem? he) hk
        have hnw := hF.2.2.2.2.2.2.1.2.2 z hz
        unfold nkw at hnw
        rw [z1, z2, z3] at hnw
        exact va_runSN S hM ⟨va_cnB (np e.2.2.1) hts (wsm_good hy) rfl rfl rfl hnw (hts _ (tg_at w3)) ⟨hmt.2.2.1, hmt.2.2.2.1, hmt.2.2.2.2.1⟩ hR, hts _ (tg_at w2), trivial⟩ hpre rfl hnum hl.1 hstack hroom hd ⟨h3, h4⟩
  · cases hr
theorem d_44 {F : Cf → Res} (ih : ∀ c r, F c = some r → WS l D ad cI A o c r) {len a m pc : Nat} {v : Int} {L st : List AV} {h : Hp} {r : RV} (hc : chk m pc 44 len a v = true) (hr : does F F (sem 44 len a v m pc L st h) = some r) : WS l D ad cI A o (m, pc, L, st, h) r := by
  replace hr : does F F (s_invV a m pc L st h) = some r := hr
  unfold s_invV at hr
  split at hr
  · rename_i e he
    obtain ⟨ho, hd, hrf, hrl⟩ := kl_at (i := .invokevirtual) hc he
    obtain ⟨hy, hk3, hk1, hws⟩ := kl_ok e (List.mem_of_getElem? he)
    cases hg : (e.2.2.2.1 == 1 && decide (np e.2.2.1 ≤ st.length)) with
    | false => rw [hg] at hr; cases hr
    | true =>
      rw [hg] at hr
      simp only [Bool.and_eq_true, decide_eq_true_eq, beq_iff_eq] at hg
      have hci := hk1 hg.1
      cases hdr : st.drop (np e.2.2.1) with
      | nil => rw [hdr] at hr; cases hr
      | cons top rest =>
        rw [hdr] at hr
        rcases top with x | pl | x | u
        · cases hr
        · replace hr : does F F (cond (clsO pl == ow e.2.2.1) (s_call e.2.2.1 m pc L rest (aR pl :: (st.take (np e.2.2.1)).reverse) h) none) = some r := hr
          cases hq : clsO pl == ow e.2.2.1 with
          | false => rw [hq] at hr; cases hr
          | true =>
            rw [hq] at hr
            have hq := beq_iff_eq.mp hq
            have hpl := cls_obj (p := pl) (by rw [hq]; exact hci)
            refine ws_call ih hy hr ?_
            intro p e0 R s mm args below meth cd H locs ls cells slots hF h1 h2 h3 h4 hl hH hcat q hM
            have hown : s.vm.findClass (cnm e.1) = some mm.cls := by rw [ho]; exact hF.2.2.2.1
            have hts := hF.2.2.2.2.1
            have S : CallFix p mm cd (bb m) (nl m) s args tg (cnm e.1) := ⟨hF.1, hF.2.1, hF.2.2.1, hown, hts⟩
            have hmt := mt_ok e.2.2.1 hy
            have hR : (rmm e.2.2.1).frames + 1 ≤ R.frames ∧ 8 + (nl e.2.2.1 + 11) + (rmm e.2.2.1).locals ≤ R.locals := ⟨by show rf e.2.2.1 + 1 ≤ _; omega, by show 8 + (nl e.2.2.1 + 11) + rl e.2.2.1 ≤ _; omega⟩
            have hge := mk_get ad cI h hpl
            rw [ce_obj hq hci] at hge
            have hrec := va_recv hF.2.2.2.2.2.1 hH.1 (cl_get hci) hge
            have hcls : cnm (ow e.2.2.1) = (yy e.2.2.1).cls := hmt.2.1.symm
            have hpre : PreV s H (yy e.2.2.1).cls (ad pl) (va_Pc ((aR pl :: (st.take (np e.2.2.1)).reverse).map (cv ad)) (WI D ad cI A o h)) (((st.take (np e.2.2.1)).reverse).map (cv ad)) := ⟨wi_blind _ h, by rw [← hcls]; exact hrec, wi_at hF.2.2.2.2.2.1 hF.2.2.2.2.2.2.1 hF.2.2.2.2.2.2.2.1 hF.2.2.2.2.2.2.2.2 hH _⟩
            have hstack : (F0 mm pc ls (st.map (cv ad))).stack = (((st.take (np e.2.2.1)).reverse).map (cv ad)).reverse ++ .ref (ad pl) :: rest.map (cv ad) := by
              show st.map (cv ad) = _
              have e1 : st = st.take (np e.2.2.1) ++ aR pl :: rest := by
                conv => lhs; rw [← List.take_append_drop (np e.2.2.1) st, hdr]
              rw [List.map_reverse, List.reverse_reverse]
              conv => lhs; rw [e1, List.map_append]
              rfl
            have hnum : (((st.take (np e.2.2.1)).reverse).map (cv ad)).length = np e.2.2.1 := by
              simp; omega
            have hroom : 2 * (F0 mm pc ls (st.map (cv ad))).monitorRoom + ((rest.map (cv ad)).map fun v => v.category).sum ≤ 8 := lv_room (by rw [cv_cats]; exact hcat)
            have hq2 : klq e = kl1 e := by unfold klq; rw [hg.1]; rfl
            rw [hq2] at hws
            have w1 := hws _ (show _ ∈ kl1 e from List.mem_cons_self)
            have w2 := hws _ (show _ ∈ kl1 e from List.mem_cons_of_mem _ List.mem_cons_self)
            have w3 := hws _ (show _ ∈ kl1 e from List.mem_cons_of_mem _ (List.mem_cons_of_mem _ List.mem_cons_self))
            have w4 := hws _ (show _ ∈ kl1 e from List.mem_cons_of_mem _ (List.mem_cons_of_mem _ (List.mem_cons_of_mem _ List.mem_cons_self)))
            have hT : GoodIn tg (wsV (cnm e.1) e.2.1 (yy e.2.2.1).cls (yy e.2.2.1) (wsm e.2.2.1)) := by
              intro w hw
              rcases List.mem_append.mp hw with hw | hw
              · rcases List.mem_cons.mp hw with rfl | hw
                · exact ⟨tg_at w1, good_of_word w1.2⟩
                rcases List.mem_cons.mp hw with rfl | hw
                · exact ⟨tg_at w2, good_of_word w2.2⟩
                rcases List.mem_cons.mp hw with rfl | hw
                · exact ⟨tg_at w3, good_of_word w3.2⟩
                rcases List.mem_cons.mp hw with rfl | hw
                · exact ⟨tg_at w4, good_of_word w4.2⟩
                · cases hw
              · exact wsm_good hy w hw
            exact va_runV S hM (cwV (np e.2.2.1) hts hT rfl rfl rfl ⟨rfl, hmt.2.2.1, hmt.2.2.2.1, hmt.2.2.2.2.1⟩ hR) hpre rfl hnum hl.1 hstack hroom hd ⟨h3, h4⟩
        · cases hr
        · cases hr
  · cases hr
theorem d_all {F : Cf → Res} (ih : ∀ c r, F c = some r → WS l D ad cI A o c r) {len a m pc : Nat} {v : Int} {L st : List AV} {h : Hp} {r : RV} : ∀ (op : Nat), chk m pc op len a v = true → does F F (sem op len a v m pc L st h) = some r → WS l D ad cI A o (m, pc, L, st, h) r
  | 0, hc, hr => d_0 ih hc hr
  | 1, hc, hr => d_1 ih hc hr
  | 2, hc, hr => d_2 ih hc hr
  | 3, hc, hr => d_3 ih hc hr
  | 4, hc, hr => d_4 ih hc hr
  | 5, hc, hr => d_5 ih hc hr
  | 6, hc, hr => d_6 ih hc hr
  | 7, hc, hr => d_7 ih hc hr
  | 8, hc, hr => d_8 ih hc hr
  | 9, hc, hr => d_9 ih hc hr
  | 10, hc, hr => d_10 ih hc hr
  | 11, hc, hr => d_11 ih hc hr
  | 12, hc, hr => d_12 ih hc hr
  | 13, hc, hr => d_13 ih hc hr
  | 14, hc, hr => d_14 ih hc hr
  | 15, hc, hr => d_15 ih hc hr
  | 16, hc, hr => d_16 ih hc hr
  | 17, hc, hr => d_17 ih hc hr
  | 18, hc, hr => d_18 ih hc hr
  | 19, hc, hr => d_19 ih hc hr
  | 20, hc, hr => d_20 ih hc hr
  | 21, hc, hr => d_21 ih hc hr
  | 22, hc, hr => d_22 ih hc hr
  | 23, hc, hr => d_23 ih hc hr
  | 24, hc, hr => d_24 ih hc hr
  | 25, hc, hr => d_25 ih hc hr
  | 26, hc, hr => d_26 ih hc hr
  | 27, hc, hr => d_27 ih hc hr
  | 28, hc, hr => d_28 ih hc hr
  | 29, hc, hr => d_29 ih hc hr
  | 30, hc, hr => d_30 ih hc hr
  | 31, hc, hr => d_31 ih hc hr
  | 32, hc, hr => d_32 ih hc hr
  | 33, hc, hr => d_33 ih hc hr
  | 34, hc, hr => d_34 ih hc hr
  | 35, hc, hr => d_35 ih hc hr
  | 36, hc, hr => d_36 ih hc hr
  | 37, hc, hr => d_37 ih hc hr
  | 38, hc, hr => d_38 ih hc hr
  | 39, hc, hr => d_39 ih hc hr
  | 40, hc, hr => d_40 ih hc hr
  | 41, hc, hr => d_41 ih hc hr
  | 42, hc, hr => d_42 ih hc hr
  | 43, hc, hr => d_43 ih hc hr
  | 44, hc, hr => d_44 ih hc hr
  | 45, hc, hr => d_45 ih hc hr
  | 46, hc, hr => d_46 ih hc hr
  | 47, hc, hr => d_47 ih hc hr
  | 48, hc, hr => d_48 ih hc hr
  | 49, hc, hr => d_49 ih hc hr
  | 50, hc, hr => d_50 ih hc hr
  | n + 51, hc, hr => by cases hr
theorem snd_all (l : Launch) (D : va_G) (ad : Nat → Nat) (cI : ClassId) (A : Nat → Prop) (o : Hp) : ∀ (n : Nat) (c : Cf) (r : RV), exec n c = some r → WS l D ad cI A o c r
  | 0, c, r, h => by cases h
  | n + 1, c, r, h => by
    obtain ⟨m, pc, L, st, hp⟩ := c
    have ih := snd_all l D ad cI A o n
    rw [exec_succ] at h
    have h : does (exec n) (exec n) (match (prg m)[pc]? with
      | some e => sem e.1 e.2.1 e.2.2.1 e.2.2.2 m pc L st hp
      | none => none) = some r := h
    cases he : (prg m)[pc]? with
    | none => rw [he] at h; cases h
    | some e =>
      rw [he] at h
      have hc := chk_ok m pc e he
      simp only [Bool.or_eq_true, beq_iff_eq] at hc
      rcases hc with hc | hc
      · obtain ⟨op, len, a, v⟩ := e
        replace hc : op = 99 := hc
        subst hc
        cases h
      · exact d_all ih e.1 hc h
/-- what the small machine comes to, the machine does -/
theorem X_snd (l : Launch) (D : va_G) (ad : Nat → Nat) (cI : ClassId) (A : Nat → Prop) (o : Hp) {c : Cf} {r : RV} (h : X c = some r) : WS l D ad cI A o c r := by
  obtain ⟨n, hn⟩ := (X_iff c r).mp h
  exact snd_all l D ad cI A o n c r hn
end SND3
