/-! THE MACHINE IN SMALL: a heap is numbers by place and index; a configuration is method, pc, locals, stack, heap -/
abbrev Hp : Type := Nat → Int → Int
abbrev AV : Type := Int ⊕ (Nat ⊕ (Int ⊕ Unit))
abbrev aI (x : Int) : AV := Sum.inl x
abbrev aR (p : Nat) : AV := Sum.inr (Sum.inl p)
abbrev aL (x : Int) : AV := Sum.inr (Sum.inr (Sum.inl x))
abbrev aN : AV := Sum.inr (Sum.inr (Sum.inr ()))
abbrev Cf : Type := Nat × Nat × List AV × List AV × Hp
abbrev RV : Type := Option Int × Hp
abbrev Res : Type := Option RV
abbrev Act : Type := Option ((Bool × RV) ⊕ (Cf ⊕ ((List (Bool × Cf) × Option Cf) ⊕ ((Cf × (Int → Hp → Cf)) ⊕ (Cf × (Hp → Cf))))))
abbrev aRet (b : Bool) (r : RV) : Act := some (Sum.inl (b, r))
abbrev aGo (c : Cf) : Act := some (Sum.inr (Sum.inl c))
abbrev aBr (l : List (Bool × Cf)) (d : Option Cf) : Act := some (Sum.inr (Sum.inr (Sum.inl (l, d))))
abbrev aCI (c : Cf) (k : Int → Hp → Cf) : Act := some (Sum.inr (Sum.inr (Sum.inr (Sum.inl (c, k)))))
abbrev aCV (c : Cf) (k : Hp → Cf) : Act := some (Sum.inr (Sum.inr (Sum.inr (Sum.inr (c, k)))))
/-- an int as the machine reads it -/
def wr (x : Int) : Int := (x + 2147483648) % 4294967296 - 2147483648
def up (h : Hp) (p : Nat) (k x : Int) : Hp := fun q i => if q = p ∧ i = k then x else h q i
def cpy (h : Hp) (p q : Nat) (sp dp n : Int) : Hp := fun r i => if r = q ∧ dp ≤ i ∧ i < dp + n then h p (sp + (i - dp)) else h r i
def jand (x y : Int) : Int := (Int32.ofInt x &&& Int32.ofInt y).toInt
def jor (x y : Int) : Int := (Int32.ofInt x ||| Int32.ofInt y).toInt
def jxor (x y : Int) : Int := (Int32.ofInt x ^^^ Int32.ofInt y).toInt
def jshl (x y : Int) : Int := (Int32.ofInt x <<< (Int32.ofInt y &&& 31)).toInt
def jshr (x y : Int) : Int := (Int32.ofInt x >>> (Int32.ofInt y &&& 31)).toInt
def jushr (x y : Int) : Int := ((Int32.ofInt x).toUInt32 >>> ((Int32.ofInt y).toUInt32 &&& Int32.toUInt32 31)).toInt32.toInt
def jdiv (x y : Int) : Int := (Int32.ofInt x / Int32.ofInt y).toInt
def jbyte (x : Int) : Int := (Int32.ofInt x).toInt8.toInt32.toInt
def jshort (x : Int) : Int := (Int32.ofInt x).toInt16.toInt32.toInt
def jmax (x y : Int) : Int := if wr x < wr y then y else x
def jmin (x y : Int) : Int := if wr y < wr x then y else x
def jabs (x : Int) : Int := if 0 ≤ wr x then x else 0 - x
def qcmp (x y : Int) : Int := (lg_cmp (Int64.ofInt x) (Int64.ofInt y)).toInt
def qand (x y : Int) : Int := (Int64.ofInt x &&& Int64.ofInt y).toInt
def qor (x y : Int) : Int := (Int64.ofInt x ||| Int64.ofInt y).toInt
def qshl (x y : Int) : Int := (Int64.ofInt x <<< ((Int32.ofInt y).toInt64 &&& 63)).toInt
def qshr (x y : Int) : Int := (Int64.ofInt x >>> ((Int32.ofInt y).toInt64 &&& 63)).toInt
def qushr (x y : Int) : Int := ((Int64.ofInt x).toUInt64 >>> ((Int32.ofInt y).toInt64.toUInt64 &&& Int64.toUInt64 63)).toInt64.toInt
def cmpB (k : Int) (x y : Int) : Bool := match k with
  | 0 => decide (x = y)
  | 1 => decide (x ≠ y)
  | 2 => decide (x < y)
  | 3 => decide (y ≤ x)
  | 4 => decide (y < x)
  | _ => decide (x ≤ y)
def inb (n i : Int) : Bool := decide (0 ≤ wr i ∧ wr i < n)
def bz (x : Int) : Bool := decide (x = 0 ∨ x = 1)
def cpB (lp lq sp dp n : Int) : Bool := decide (0 ≤ wr sp ∧ 0 ≤ wr dp ∧ 0 ≤ wr n ∧ wr sp + wr n ≤ lp ∧ wr dp + wr n ≤ lq)
def lenP (h : Hp) (p : Nat) : Int := if p = 102 then h 103 0 else (lenA p : Int)
def boL : List (List Bool) := [[], [false, false, false, false, false, false, false, false, false, false, false, false, false, false, false, true], [], [], [], [], [], [], [], [false, false, false, false, false, true], [false, false, false, false, false, false, false, false, true, false, false, false, false, false, false, false, false, false, false, false, false, false, true]]
def bo (c k : Nat) : Bool := (boL.getD c []).getD k false
theorem bo_ok : ∀ c, c < 11 → ∀ k, k < fdN c → bo c k = decide (tyF c k = .boolean) := by decide +kernel
def catA : AV → Nat
  | Sum.inr (Sum.inr (Sum.inl _)) => 2
  | _ => 1
def catS (st : List AV) : Nat := (st.map catA).sum
def ex : List AV → List AV
  | [] => []
  | Sum.inr (Sum.inr (Sum.inl x)) :: r => aL x :: aN :: ex r
  | v :: r => v :: ex r
def ent (m : Nat) (as : List AV) : List AV := ex as ++ List.replicate (nl m - (ex as).length) aN
def noL (L : List AV) (a : Nat) : Bool := a == 0 || (match L[a - 1]? with
  | some (Sum.inr (Sum.inr (Sum.inl _))) => false
  | _ => true)
def isArr (p : Nat) : Bool := clsO p == 20 || clsO p == 21
def s1 (f : Int → Int) (len m pc : Nat) (L st : List AV) (h : Hp) : Act := match st with
  | Sum.inl x :: r => aGo (m, pc + len, L, aI (f x) :: r, h)
  | _ => none
def s2 (f : Int → Int → Int) (len m pc : Nat) (L st : List AV) (h : Hp) : Act := match st with
  | Sum.inl y :: Sum.inl x :: r => aGo (m, pc + len, L, aI (f x y) :: r, h)
  | _ => none
def q2 (f : Int → Int → Int) (len m pc : Nat) (L st : List AV) (h : Hp) : Act := match st with
  | Sum.inr (Sum.inr (Sum.inl y)) :: Sum.inr (Sum.inr (Sum.inl x)) :: r => aGo (m, pc + len, L, aL (f x y) :: r, h)
  | _ => none
def q1 (f : Int → Int → Int) (len m pc : Nat) (L st : List AV) (h : Hp) : Act := match st with
  | Sum.inl y :: Sum.inr (Sum.inr (Sum.inl x)) :: r => aGo (m, pc + len, L, aL (f x y) :: r, h)
  | _ => none
def s_iload (len a m pc : Nat) (L st : List AV) (h : Hp) : Act := match L[a]? with
  | some (Sum.inl x) => aGo (m, pc + len, L, aI x :: st, h)
  | _ => none
def s_aload (len a m pc : Nat) (L st : List AV) (h : Hp) : Act := match L[a]? with
  | some (Sum.inr (Sum.inl x)) => aGo (m, pc + len, L, aR x :: st, h)
  | _ => none
def s_lload (len a m pc : Nat) (L st : List AV) (h : Hp) : Act := match L[a]? with
  | some (Sum.inr (Sum.inr (Sum.inl x))) => aGo (m, pc + len, L, aL x :: st, h)
  | _ => none
def s_istore (len a m pc : Nat) (L st : List AV) (h : Hp) : Act := match st, (noL L a && decide (a < L.length)) with
  | Sum.inl x :: r, true => aGo (m, pc + len, L.set a (aI x), r, h)
  | _, _ => none
def s_astore (len a m pc : Nat) (L st : List AV) (h : Hp) : Act := match st, (noL L a && decide (a < L.length)) with
  | Sum.inr (Sum.inl x) :: r, true => aGo (m, pc + len, L.set a (aR x), r, h)
  | _, _ => none
def s_iinc (len a : Nat) (v : Int) (m pc : Nat) (L st : List AV) (h : Hp) : Act := match L[a]?, noL L a with
  | some (Sum.inl x), true => aGo (m, pc + len, L.set a (aI (x + v)), st, h)
  | _, _ => none
def s_dup (len m pc : Nat) (L st : List AV) (h : Hp) : Act := match st with
  | Sum.inl x :: r => aGo (m, pc + len, L, aI x :: aI x :: r, h)
  | Sum.inr (Sum.inl p) :: r => aGo (m, pc + len, L, aR p :: aR p :: r, h)
  | _ => none
def s_dup2 (len m pc : Nat) (L st : List AV) (h : Hp) : Act := match st with
  | Sum.inl x :: Sum.inr (Sum.inl p) :: r => aGo (m, pc + len, L, aI x :: aR p :: aI x :: aR p :: r, h)
  | _ => none
def s_pop (len m pc : Nat) (L st : List AV) (h : Hp) : Act := match st with
  | Sum.inl _ :: r => aGo (m, pc + len, L, r, h)
  | _ => none
def s_if (a : Nat) (v : Int) (m pc : Nat) (L st : List AV) (h : Hp) : Act := match st with
  | Sum.inl x :: r => aBr [(cmpB v (wr x) 0, (m, a, L, r, h))] (some (m, pc + 3, L, r, h))
  | _ => none
def s_icmp (a : Nat) (v : Int) (m pc : Nat) (L st : List AV) (h : Hp) : Act := match st with
  | Sum.inl y :: Sum.inl x :: r => aBr [(cmpB v (wr x) (wr y), (m, a, L, r, h))] (some (m, pc + 3, L, r, h))
  | _ => none
def s_switch (a m : Nat) (L st : List AV) (h : Hp) : Act := match st, swL[a]? with
  | Sum.inl x :: r, some e => aBr (e.2.2.2.map (fun kt => (decide (wr x = kt.1), (m, kt.2, L, r, h)))) (some (m, e.2.2.1, L, r, h))
  | _, _ => none
def s_iaload (m pc : Nat) (L st : List AV) (h : Hp) : Act := match st with
  | Sum.inl i :: Sum.inr (Sum.inl p) :: r => cond (isArr p) (aBr [(inb (lenP h p) i, (m, pc + 1, L, aI (h p (wr i)) :: r, h))] none) none
  | _ => none
def s_iastore (m pc : Nat) (L st : List AV) (h : Hp) : Act := match st with
  | Sum.inl x :: Sum.inl i :: Sum.inr (Sum.inl p) :: r => cond (clsO p == 20) (aBr [(inb (lenA p) i, (m, pc + 1, L, r, up h p (wr i) x))] none) none
  | _ => none
def s_alen (m pc : Nat) (L st : List AV) (h : Hp) : Act := match st with
  | Sum.inr (Sum.inl p) :: r => cond (isArr p) (aGo (m, pc + 1, L, aI (lenP h p) :: r, h)) none
  | _ => none
def s_get (a m pc : Nat) (L st : List AV) (h : Hp) : Act := match st, flL[a]? with
  | Sum.inr (Sum.inl p) :: r, some e => cond (clsO p == e.2.2.1) (match fo e.2.2.1 e.2.2.2.1 with
    | some o => aGo (m, pc + 3, L, aR (p + o) :: r, h)
    | none => aGo (m, pc + 3, L, aI (h p (e.2.2.2.1 : Nat)) :: r, h)) none
  | _, _ => none
def s_put (a m pc : Nat) (L st : List AV) (h : Hp) : Act := match st, flL[a]? with
  | Sum.inl x :: Sum.inr (Sum.inl p) :: r, some e => cond (clsO p == e.2.2.1 && (fo e.2.2.1 e.2.2.2.1).isNone && (!(bo e.2.2.1 e.2.2.2.1) || bz x)) (aGo (m, pc + 3, L, r, up h p (e.2.2.2.1 : Nat) x)) none
  | _, _ => none
def s_gets (a m pc : Nat) (L st : List AV) (h : Hp) : Act := match slL[a]? with
  | some e => aGo (m, pc + 3, L, aR (98 + e.2.2.1) :: st, h)
  | none => none
def s_call (y m pc : Nat) (L rest args : List AV) (h : Hp) : Act := cond (decide (catS rest ≤ 8) && decide ((ex args).length ≤ nl y)) (match rt y with
    | none => aCV (y, 0, ent y args, [], h) (fun h1 => (m, pc + 3, L, rest, h1))
    | some _ => aCI (y, 0, ent y args, [], h) (fun x h1 => (m, pc + 3, L, aI x :: rest, h1))) none
def s_inv (a m pc : Nat) (L st : List AV) (h : Hp) : Act := match klL[a]? with
  | some e => cond (!(e.2.2.2.1 == 1) && decide (np e.2.2.1 ≤ st.length)) (s_call e.2.2.1 m pc L (st.drop (np e.2.2.1)) (st.take (np e.2.2.1)).reverse h) none
  | none => none
def s_invV (a m pc : Nat) (L st : List AV) (h : Hp) : Act := match klL[a]? with
  | some e => cond (e.2.2.2.1 == 1 && decide (np e.2.2.1 ≤ st.length)) (match st.drop (np e.2.2.1) with
    | Sum.inr (Sum.inl p) :: rest => cond (clsO p == ow e.2.2.1) (s_call e.2.2.1 m pc L rest (aR p :: (st.take (np e.2.2.1)).reverse) h) none
    | _ => none) none
  | none => none
def s_copy (m pc : Nat) (L st : List AV) (h : Hp) : Act := match st with
  | Sum.inl n :: Sum.inl dp :: Sum.inr (Sum.inl q) :: Sum.inl sp :: Sum.inr (Sum.inl p) :: r => cond (clsO p == 20 && clsO q == 20 && decide (catS r ≤ 8)) (aBr [(cpB (lenA p) (lenA q) sp dp n, (m, pc + 3, L, r, cpy h p q (wr sp) (wr dp) (wr n)))] none) none
  | _ => none
def s_m2 (f : Int → Int → Int) (m pc : Nat) (L st : List AV) (h : Hp) : Act := match st with
  | Sum.inl y :: Sum.inl x :: r => cond (decide (catS r ≤ 8)) (aGo (m, pc + 3, L, aI (f x y) :: r, h)) none
  | _ => none
def s_m1 (f : Int → Int) (m pc : Nat) (L st : List AV) (h : Hp) : Act := match st with
  | Sum.inl x :: r => cond (decide (catS r ≤ 8)) (aGo (m, pc + 3, L, aI (f x) :: r, h)) none
  | _ => none
def s_idiv (m pc : Nat) (L st : List AV) (h : Hp) : Act := match st with
  | Sum.inl y :: Sum.inl x :: r => aBr [(decide (wr y ≠ 0), (m, pc + 1, L, aI (jdiv x y) :: r, h))] none
  | _ => none
def s_lcmp (m pc : Nat) (L st : List AV) (h : Hp) : Act := match st with
  | Sum.inr (Sum.inr (Sum.inl y)) :: Sum.inr (Sum.inr (Sum.inl x)) :: r => aGo (m, pc + 1, L, aI (qcmp x y) :: r, h)
  | _ => none
def s_l2i (m pc : Nat) (L st : List AV) (h : Hp) : Act := match st with
  | Sum.inr (Sum.inr (Sum.inl x)) :: r => aGo (m, pc + 1, L, aI x :: r, h)
  | _ => none
def s_i2l (m pc : Nat) (L st : List AV) (h : Hp) : Act := match st with
  | Sum.inl x :: r => aGo (m, pc + 1, L, aL (wr x) :: r, h)
  | _ => none
def s_iret (m : Nat) (st : List AV) (h : Hp) : Act := match st with
  | [Sum.inl x] => aRet (match rt m with
    | some .boolean => bz x
    | _ => true) (some x, h)
  | _ => none
def s_ret (st : List AV) (h : Hp) : Act := match st with
  | [] => aRet true (none, h)
  | _ => none
def sem (op len a : Nat) (v : Int) (m pc : Nat) (L st : List AV) (h : Hp) : Act := match op with
  | 0 => aGo (m, pc + len, L, aI v :: st, h)
  | 1 => s_iload len a m pc L st h
  | 2 => s_aload len a m pc L st h
  | 3 => s_lload len a m pc L st h
  | 4 => s_istore len a m pc L st h
  | 5 => s_astore len a m pc L st h
  | 6 => s_iinc len a v m pc L st h
  | 7 => s2 (fun x y => x + y) len m pc L st h
  | 8 => s2 (fun x y => x - y) len m pc L st h
  | 9 => s2 (fun x y => x * y) len m pc L st h
  | 10 => s_idiv m pc L st h
  | 11 => s1 (fun x => - x) len m pc L st h
  | 12 => s2 jand len m pc L st h
  | 13 => s2 jor len m pc L st h
  | 14 => s2 jxor len m pc L st h
  | 15 => s2 jshl len m pc L st h
  | 16 => s2 jshr len m pc L st h
  | 17 => s2 jushr len m pc L st h
  | 18 => aGo (m, pc + len, L, aL v :: st, h)
  | 19 => s_lcmp m pc L st h
  | 20 => q2 qand len m pc L st h
  | 21 => q2 qor len m pc L st h
  | 22 => q1 qshl len m pc L st h
  | 23 => q1 qshr len m pc L st h
  | 24 => q1 qushr len m pc L st h
  | 25 => s_l2i m pc L st h
  | 26 => s_i2l m pc L st h
  | 27 => s1 jbyte len m pc L st h
  | 28 => s1 jshort len m pc L st h
  | 29 => s_dup len m pc L st h
  | 30 => s_dup2 len m pc L st h
  | 31 => s_pop len m pc L st h
  | 32 => s_if a v m pc L st h
  | 33 => s_icmp a v m pc L st h
  | 34 => aGo (m, a, L, st, h)
  | 35 => s_switch a m L st h
  | 36 => s_switch a m L st h
  | 37 => s_iaload m pc L st h
  | 38 => s_iastore m pc L st h
  | 39 => s_alen m pc L st h
  | 40 => s_get a m pc L st h
  | 41 => s_put a m pc L st h
  | 42 => s_gets a m pc L st h
  | 43 => s_inv a m pc L st h
  | 44 => s_invV a m pc L st h
  | 45 => s_copy m pc L st h
  | 46 => s_iret m st h
  | 47 => s_ret st h
  | 48 => s_m2 jmax m pc L st h
  | 49 => s_m2 jmin m pc L st h
  | 50 => s_m1 jabs m pc L st h
  | _ => none
def act (c : Cf) : Act := match (prg c.1)[c.2.1]? with
  | some e => sem e.1 e.2.1 e.2.2.1 e.2.2.2 c.1 c.2.1 c.2.2.1 c.2.2.2.1 c.2.2.2.2
  | none => none
def bI (o : Res) (k : Int → Hp → Res) : Res := match o with
  | some (some x, h) => k x h
  | _ => none
def bV (o : Res) (k : Hp → Res) : Res := match o with
  | some (none, h) => k h
  | _ => none
def dF (F : Cf → Res) (d : Option Cf) : Res := match d with
  | some c => F c
  | none => none
/-- what an action comes to, by F where it goes on and G of what it calls -/
def does (F G : Cf → Res) (a : Act) : Res := match a with
  | none => none
  | some (Sum.inl (b, r)) => cond b (some r) none
  | some (Sum.inr (Sum.inl c)) => F c
  | some (Sum.inr (Sum.inr (Sum.inl (l, d)))) => l.foldr (fun q acc => cond q.1 (F q.2) acc) (dF F d)
  | some (Sum.inr (Sum.inr (Sum.inr (Sum.inl (c, k))))) => bI (G c) (fun x h => F (k x h))
  | some (Sum.inr (Sum.inr (Sum.inr (Sum.inr (c, k))))) => bV (G c) (fun h => F (k h))
def exec : Nat → Cf → Res
  | 0, _ => none
  | n + 1, c => does (exec n) (exec n) (act c)
def below1 (F G : Cf → Res) : Prop := ∀ c r, F c = some r → G c = some r
theorem fold_mono {F G : Cf → Res} (h : below1 F G) {e f : Res} (he : ∀ r, e = some r → f = some r) : ∀ (l : List (Bool × Cf)) (r : RV), l.foldr (fun q acc => cond q.1 (F q.2) acc) e = some r → l.foldr (fun q acc => cond q.1 (G q.2) acc) f = some r
  | [], r, h1 => he r h1
  | (b, c) :: l, r, h1 => by
    simp only [List.foldr_cons] at h1 ⊢
    cases b with
    | true => exact h _ _ h1
    | false => exact fold_mono h he l r h1
theorem does_mono {F G F2 G2 : Cf → Res} (h : below1 F F2) (h2 : below1 G G2) : ∀ (a : Act) (r : RV), does F G a = some r → does F2 G2 a = some r := by
  intro a r hr
  match a, hr with
  | none, hr => exact hr
  | some (Sum.inl (b, q)), hr => exact hr
  | some (Sum.inr (Sum.inl c)), hr => exact h _ _ hr
  | some (Sum.inr (Sum.inr (Sum.inl (l, d)))), hr =>
    refine fold_mono h (fun r hr => ?_) l r hr
    cases d with
    | none => exact hr
    | some c => exact h _ _ hr
  | some (Sum.inr (Sum.inr (Sum.inr (Sum.inl (c, k))))), hr =>
    simp only [does] at hr ⊢
    cases hg : G c with
    | none => rw [hg] at hr; cases hr
    | some v =>
      rw [hg] at hr
      rw [h2 _ _ hg]
      obtain ⟨v1, v2⟩ := v
      cases v1 with
      | none => exact hr
      | some x => exact h _ _ hr
  | some (Sum.inr (Sum.inr (Sum.inr (Sum.inr (c, k))))), hr =>
    simp only [does] at hr ⊢
    cases hg : G c with
    | none => rw [hg] at hr; cases hr
    | some v =>
      rw [hg] at hr
      rw [h2 _ _ hg]
      obtain ⟨v1, v2⟩ := v
      cases v1 with
      | none => exact h _ _ hr
      | some x => exact hr
theorem exec_succ (n : Nat) (c : Cf) : exec (n + 1) c = does (exec n) (exec n) (act c) := rfl
theorem exec_up : ∀ n : Nat, below1 (exec n) (exec (n + 1))
  | 0, c, r, h => by cases h
  | n + 1, c, r, h => by
    rw [exec_succ] at h ⊢
    exact does_mono (exec_up n) (exec_up n) _ _ h
theorem exec_le {n k : Nat} (h : n ≤ k) : below1 (exec n) (exec k) := by
  induction h with
  | refl => exact fun _ _ h => h
  | step _ ih => exact fun c r hr => exec_up _ c r (ih c r hr)
/-- the limit: what a configuration comes to, if it comes to an end -/
noncomputable def X (c : Cf) : Res := @dite _ (∃ n, (exec n c).isSome = true) (Classical.propDecidable _) (fun h => exec h.choose c) (fun _ => none)
theorem X_iff (c : Cf) (r : RV) : X c = some r ↔ ∃ n, exec n c = some r := by
  constructor
  · intro h
    unfold X at h
    by_cases q : ∃ n, (exec n c).isSome = true
    · rw [dif_pos q] at h; exact ⟨_, h⟩
    · rw [dif_neg q] at h; cases h
  · rintro ⟨n, hn⟩
    have q : ∃ n, (exec n c).isSome = true := ⟨n, by rw [hn]; rfl⟩
    unfold X
    rw [dif_pos q]
    obtain ⟨v, hv⟩ := Option.isSome_iff_exists.mp q.choose_spec
    rw [hv]
    have a1 := exec_le (Nat.le_max_left n q.choose) c r hn
    have a2 := exec_le (Nat.le_max_right n q.choose) c v hv
    exact a2.symm.trans a1
theorem X_above (n : Nat) : below1 (exec n) X := fun c r h => (X_iff c r).mpr ⟨n, h⟩
theorem fold_lim {e : Res} {f : Nat → Res} (hf : ∀ n k, n ≤ k → ∀ r, f n = some r → f k = some r) (he : ∀ r, e = some r → ∃ n, f n = some r) : ∀ (l : List (Bool × Cf)) (r : RV), l.foldr (fun q acc => cond q.1 (X q.2) acc) e = some r → ∃ n, l.foldr (fun q acc => cond q.1 (exec n q.2) acc) (f n) = some r
  | [], r, h1 => he r h1
  | (b, c) :: l, r, h1 => by
    simp only [List.foldr_cons] at h1 ⊢
    cases b with
    | true => exact (X_iff _ _).mp h1
    | false => exact fold_lim hf he l r h1
theorem does_lim : ∀ (a : Act) (r : RV), does X X a = some r → ∃ n, does (exec n) (exec n) a = some r := by
  intro a r hr
  match a, hr with
  | none, hr => cases hr
  | some (Sum.inl (b, q)), hr => exact ⟨0, hr⟩
  | some (Sum.inr (Sum.inl c)), hr => exact (X_iff _ _).mp hr
  | some (Sum.inr (Sum.inr (Sum.inl (l, d)))), hr =>
    refine fold_lim (f := fun n => dF (exec n) d) (fun n k hk r hr => ?_) (fun r hr => ?_) l r hr
    · cases d with
      | none => exact hr
      | some c => exact exec_le hk _ _ hr
    · cases d with
      | none => cases hr
      | some c => exact (X_iff _ _).mp hr
  | some (Sum.inr (Sum.inr (Sum.inr (Sum.inl (c, k))))), hr =>
    simp only [does] at hr ⊢
    cases hg : X c with
    | none => rw [hg] at hr; cases hr
    | some v =>
      rw [hg] at hr
      obtain ⟨n1, h1⟩ := (X_iff _ _).mp hg
      obtain ⟨v1, v2⟩ := v
      cases v1 with
      | none => cases hr
      | some x =>
        obtain ⟨n2, h2⟩ := (X_iff _ _).mp hr
        refine ⟨max n1 n2, ?_⟩
        rw [exec_le (Nat.le_max_left n1 n2) _ _ h1]
        exact exec_le (Nat.le_max_right n1 n2) _ _ h2
  | some (Sum.inr (Sum.inr (Sum.inr (Sum.inr (c, k))))), hr =>
    simp only [does] at hr ⊢
    cases hg : X c with
    | none => rw [hg] at hr; cases hr
    | some v =>
      rw [hg] at hr
      obtain ⟨n1, h1⟩ := (X_iff _ _).mp hg
      obtain ⟨v1, v2⟩ := v
      cases v1 with
      | some x => cases hr
      | none =>
        obtain ⟨n2, h2⟩ := (X_iff _ _).mp hr
        refine ⟨max n1 n2, ?_⟩
        rw [exec_le (Nat.le_max_left n1 n2) _ _ h1]
        exact exec_le (Nat.le_max_right n1 n2) _ _ h2
theorem X_eq (c : Cf) : X c = does X X (act c) := by
  cases h : does X X (act c) with
  | some r =>
    obtain ⟨n, hn⟩ := does_lim _ _ h
    exact (X_iff _ _).mpr ⟨n + 1, hn⟩
  | none =>
    cases h2 : X c with
    | none => rfl
    | some r =>
      obtain ⟨n, hn⟩ := (X_iff _ _).mp h2
      cases n with
      | zero => cases hn
      | succ n =>
        have := does_mono (X_above n) (X_above n) _ _ hn
        rw [this] at h
        cases h
/-- the equation unrolled up to the places sp (pcs of the method) -/
noncomputable def ev (sp : List Nat) : Nat → Cf → Res
  | 0, c => X c
  | n + 1, c => does (fun c1 => cond (sp.contains c1.2.1) (X c1) (ev sp n c1)) X (act c)
theorem ev_eq (sp : List Nat) : ∀ (n : Nat) (c : Cf), ev sp n c = X c
  | 0, _ => rfl
  | n + 1, c => by
    have e : (fun c1 : Cf => cond (sp.contains c1.2.1) (X c1) (ev sp n c1)) = X := funext fun c1 => by
      rw [ev_eq sp n c1]
      cases sp.contains c1.2.1 <;> rfl
    show does (fun c1 => cond (sp.contains c1.2.1) (X c1) (ev sp n c1)) X (act c) = X c
    rw [e, X_eq c]
