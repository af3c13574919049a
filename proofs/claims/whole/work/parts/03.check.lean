/-! SOUNDNESS: where the small machine comes to an end, the machine does -/
def dc (m pc : Nat) (i : Instr) (n : Nat) : Bool := decide (decode (bb m) pc = .ok (i, n))
theorem dc_at {m pc : Nat} {i : Instr} {n : Nat} (h : dc m pc i n = true) : decode (bb m) pc = .ok (i, n) := of_decide_eq_true h
def chkC (m pc len : Nat) (v : Int) (j : Nat) : Bool := match ctL[j]? with
  | some e => !e.2.2.2.2 && e.1 == ow m && v == e.2.2.1 && ((len == 2 && dc m pc (.ldc e.2.1) 2) || (len == 3 && dc m pc (.ldc_w e.2.1) 3))
  | none => false
def chkL (m pc : Nat) (v : Int) (j : Nat) : Bool := match ctL[j]? with
  | some e => e.2.2.2.2 && e.1 == ow m && v == e.2.2.1 && dc m pc (.ldc2_w e.2.1) 3
  | none => false
def chkIf (m pc a : Nat) (v : Int) : Bool := (v == 0 && dc m pc (.ifCond .eq ((a : Int) - pc)) 3) || (v == 1 && dc m pc (.ifCond .ne ((a : Int) - pc)) 3) || (v == 2 && dc m pc (.ifCond .lt ((a : Int) - pc)) 3) || (v == 3 && dc m pc (.ifCond .ge ((a : Int) - pc)) 3) || (v == 4 && dc m pc (.ifCond .gt ((a : Int) - pc)) 3) || (v == 5 && dc m pc (.ifCond .le ((a : Int) - pc)) 3)
def chkIc (m pc a : Nat) (v : Int) : Bool := (v == 0 && dc m pc (.if_icmp .eq ((a : Int) - pc)) 3) || (v == 1 && dc m pc (.if_icmp .ne ((a : Int) - pc)) 3) || (v == 2 && dc m pc (.if_icmp .lt ((a : Int) - pc)) 3) || (v == 3 && dc m pc (.if_icmp .ge ((a : Int) - pc)) 3) || (v == 4 && dc m pc (.if_icmp .gt ((a : Int) - pc)) 3) || (v == 5 && dc m pc (.if_icmp .le ((a : Int) - pc)) 3)
def swLo (e : Bool × Nat × Nat × List (Int × Nat)) : Int := (e.2.2.2.getD 0 (0, 0)).1
def chkT (m pc len a : Nat) : Bool := match swL[a]? with
  | some e => e.1 && dc m pc (.tableswitch ((e.2.2.1 : Int) - pc) (swLo e) (swLo e + e.2.2.2.length - 1) (e.2.2.2.map (fun kt => (kt.2 : Int) - pc)).toArray) len && decide (e.2.2.2.map Prod.fst = (List.range e.2.2.2.length).map (fun i => swLo e + (i : Nat)))
  | none => false
def swPs (e : Bool × Nat × Nat × List (Int × Nat)) (pc : Nat) : List (Int × Int) := e.2.2.2.map (fun kt => (kt.1, (kt.2 : Int) - pc))
def chkK (m pc len a : Nat) : Bool := match swL[a]? with
  | some e => !e.1 && dc m pc (.lookupswitch ((e.2.2.1 : Int) - pc) (swPs e pc).toArray) len && (((swPs e pc).toArray.toList.zip ((swPs e pc).toArray.toList.drop 1)).all (fun (a, next) => a.1 < next.1))
  | none => false
def chkG (m pc a : Nat) (i : Nat → Instr) : Bool := match flL[a]? with
  | some e => e.1 == ow m && dc m pc (i e.2.1) 3
  | none => false
def chkS (m pc a : Nat) : Bool := match slL[a]? with
  | some e => e.1 == ow m && dc m pc (.getstatic e.2.1) 3
  | none => false
def chkV (m pc a : Nat) (i : Nat → Instr) : Bool := match klL[a]? with
  | some e => e.1 == ow m && dc m pc (i e.2.1) 3 && decide (rf e.2.2.1 + 1 ≤ rf m) && decide (8 + (nl e.2.2.1 + 11) + rl e.2.2.1 ≤ rl m)
  | none => false
def chkP (m pc a : Nat) : Bool := match cpL[a]? with
  | some e => e.1 == ow m && dc m pc (.invokestatic e.2.1) 3 && decide (1 ≤ rf m) && decide (26 ≤ rl m)
  | none => false
def chkM (m pc a k : Nat) : Bool := match mkL[a]? with
  | some e => e.2.2.1 == k && e.1 == ow m && dc m pc (.invokestatic e.2.1) 3 && decide (1 ≤ rf m) && decide (21 ≤ rl m)
  | none => false
def chkN (m pc len a : Nat) (i : Fin 4 → Instr) (j : Nat → Instr) : Bool := (len == 1 && decide (a < 4) && dc m pc (i (Fin.ofNat 4 a)) 1) || (len == 2 && dc m pc (j a) 2)
def chk1 (m pc len : Nat) (i : Instr) : Bool := len == 1 && dc m pc i 1
def chk (m pc op len a : Nat) (v : Int) : Bool := match op with
  | 0 => (a == 0 && (len == 1 && dc m pc (.iconst v) 1)) || (a == 1 && (len == 2 && (dc m pc (.bipush v) 2 && decide ((Int8.ofInt v).toInt32 = Int32.ofInt v)))) || (a == 2 && (len == 3 && (dc m pc (.sipush v) 3 && decide ((Int16.ofInt v).toInt32 = Int32.ofInt v)))) || chkC m pc len v (a - 3)
  | 1 => chkN m pc len a .iload_n .iload
  | 2 => chkN m pc len a .aload_n .aload
  | 3 => chkN m pc len a .lload_n .lload
  | 4 => chkN m pc len a .istore_n .istore
  | 5 => chkN m pc len a .astore_n .astore
  | 6 => len == 3 && dc m pc (.iinc a v) 3
  | 7 => chk1 m pc len .iadd
  | 8 => chk1 m pc len .isub
  | 9 => chk1 m pc len .imul
  | 10 => chk1 m pc len .idiv
  | 11 => chk1 m pc len .ineg
  | 12 => chk1 m pc len .iand
  | 13 => chk1 m pc len .ior
  | 14 => chk1 m pc len .ixor
  | 15 => chk1 m pc len .ishl
  | 16 => chk1 m pc len .ishr
  | 17 => chk1 m pc len .iushr
  | 18 => (a == 0 && (len == 1 && ((v == 0 && dc m pc (.lconst 0) 1) || (v == 1 && dc m pc (.lconst 1) 1)))) || (len == 3 && chkL m pc v (a - 1))
  | 19 => chk1 m pc len .lcmp
  | 20 => chk1 m pc len .land
  | 21 => chk1 m pc len .lor
  | 22 => chk1 m pc len .lshl
  | 23 => chk1 m pc len .lshr
  | 24 => chk1 m pc len .lushr
  | 25 => chk1 m pc len .l2i
  | 26 => chk1 m pc len .i2l
  | 27 => chk1 m pc len .i2b
  | 28 => chk1 m pc len .i2s
  | 29 => chk1 m pc len .dup
  | 30 => chk1 m pc len .dup2
  | 31 => chk1 m pc len .pop
  | 32 => chkIf m pc a v
  | 33 => chkIc m pc a v
  | 34 => dc m pc (.goto ((a : Int) - pc)) 3
  | 35 => chkT m pc len a
  | 36 => chkK m pc len a
  | 37 => dc m pc .iaload 1
  | 38 => dc m pc .iastore 1
  | 39 => dc m pc .arraylength 1
  | 40 => chkG m pc a .getfield
  | 41 => chkG m pc a .putfield
  | 42 => chkS m pc a
  | 43 => chkV m pc a .invokestatic
  | 44 => chkV m pc a .invokevirtual
  | 45 => chkP m pc a
  | 46 => dc m pc .ireturn 1 && decide (rt m = some .int ∨ rt m = some .boolean)
  | 47 => dc m pc .return_ 1 && decide (rt m = none)
  | 48 => chkM m pc a 48
  | 49 => chkM m pc a 49
  | 50 => chkM m pc a 50
  | _ => false
def chkAll (m : Nat) : Bool := (prg m).zipIdx.all (fun q => q.1.1 == 99 || chk m q.2 q.1.1 q.1.2.1 q.1.2.2.1 q.1.2.2.2)
theorem ck0 : (List.range 30).all chkAll = true := by decide +kernel
theorem ck1 : (List.range' 30 30).all chkAll = true := by decide +kernel
theorem ck2 : (List.range' 60 40).all chkAll = true := by decide +kernel
theorem ck3 : (List.range' 100 40).all chkAll = true := by decide +kernel
theorem ck4 : (List.range' 140 47).all chkAll = true := by decide +kernel
